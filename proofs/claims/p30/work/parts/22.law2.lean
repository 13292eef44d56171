def fL_areNets_L107 : Nat → Mem → Int → Int → Int → Int → Option (Int × Mem)
  | 0, _, _, _, _, _ => none
  | n + 1, M, x2, x5, x6, x7 =>
    gd (inR (x7)) (
    if 60 ≤ x7 then (
      some (x6, M))
    else (
      gd (inR (x5)) (
      if x5 = 0 then (
        some (x6, M))
      else (
        gd (0 ≤ x2 ∧ x2 < 2147483648) (
        gd (inR (x2 % 8)) (
        if x2 % 8 = 0 then (
          Option.bind (fL_isUsed M x7) (fun t56 =>
          fL_areNets_L107 n t56.2 x2 x5 (x6 + t56.1) (x7 + 1)))
        else (
          some (x6, M))))))))
def fL_areNets (M : Mem) (x2 : Int) : Option (Int × Mem) :=
    Option.bind (fX5_least M) (fun t1 =>
    Option.bind (fX5_bound t1.2) (fun t3 =>
    gd (inR (t3.1)) (
    Option.bind (if t3.1 < 0 then (
      some (0, t3.2))
    else (
      gd (inR (t1.1)) (
      if t1.1 < t3.1 then (
        some (0, t3.2))
      else (
        Option.bind (fX5_gap t3.2) (fun t9 =>
        gd (inR (t9.1)) (
        gd (inR (t1.1 - t3.1)) (
        if t9.1 = t1.1 - t3.1 then (
          Option.bind (fX5_leastAnew t9.2) (fun t14 =>
          gd (inR (t14.2 21 (0 : Int).toNat)) (
          Option.bind (if t14.2 21 (0 : Int).toNat ≤ 4 then (
            some (t1.1))
          else (
            some ((-1)))) (fun t18 =>
          gd (inR (t14.1)) (
          gd (inR (t18)) (
          if t14.1 = t18 then (
            if 1 < t14.2 21 (0 : Int).toNat then (
              if t14.2 21 (0 : Int).toNat = 2 then (
                if t3.1 = t1.1 then (
                  Option.bind (fL_townAt t14.2 0) (fun t27 =>
                  Option.bind (fL_townAt t14.2 1) (fun t29 =>
                  Option.bind (fL_apart t14.2 t27 t29) (fun t31 =>
                  gd (inR (t31.1)) (
                  if t1.1 = t31.1 then (
                    some (1, t31.2))
                  else (
                    some (0, t31.2)))))))
                else (
                  some (0, t14.2)))
              else (
                some (1, t14.2)))
            else (
              if t1.1 = 0 then (
                if t14.2 21 (0 : Int).toNat = 2 then (
                  if t3.1 = t1.1 then (
                    Option.bind (fL_townAt t14.2 0) (fun t38 =>
                    Option.bind (fL_townAt t14.2 1) (fun t40 =>
                    Option.bind (fL_apart t14.2 t38 t40) (fun t42 =>
                    gd (inR (t42.1)) (
                    if t1.1 = t42.1 then (
                      some (1, t42.2))
                    else (
                      some (0, t42.2)))))))
                  else (
                    some (0, t14.2)))
                else (
                  some (1, t14.2)))
              else (
                some (0, t14.2))))
          else (
            some (0, t14.2))))))))
        else (
          some (0, t9.2))))))))) (fun t46 =>
    Option.bind (fL_areNets_L107 FU t46.2 x2 t46.1 0 0) (fun t59 =>
    gd (inR (t46.1)) (
    Option.bind (if t46.1 = 0 then (
      some (0))
    else (
      gd (0 ≤ x2 ∧ x2 < 2147483648) (
      gd (inR (x2 % 8)) (
      if 0 < x2 % 8 then (
        some (1))
      else (
        gd (inR (t59.1)) (
        Option.bind (if t59.1 ≤ 0 then (
          some (0))
        else (
          some (1))) (fun t69 =>
        gd (inR (t59.2 21 (0 : Int).toNat)) (
        Option.bind (if t59.2 21 (0 : Int).toNat ≤ 1 then (
          some (0))
        else (
          some (1))) (fun t74 =>
        gd (inR (t69)) (
        gd (inR (t74)) (
        if t69 = t74 then (
          some (1))
        else (
          some (0))))))))))))) (fun t80 =>
    gd (0 ≤ x2 ∧ x2 < 2147483648) (
    gd (0 ≤ x2 ∧ x2 < 2147483648) (
    gd (0 ≤ x2 / 36 ∧ x2 / 36 < 2147483648) (
    gd (0 ≤ x2 ∧ x2 < 2147483648) (
    gd (0 ≤ x2 / 1296 ∧ x2 / 1296 < 2147483648) (
    Option.bind (fL_apart t59.2 (x2 % 36) ((x2 / 36) % 36)) (fun t88 =>
    Option.bind (tL_twoWays t88.2 (x2 % 36) ((x2 / 36) % 36)) (fun t90 =>
    gd (inR (t80)) (
    Option.bind (if t80 = 0 then (
      some (0, t90.2))
    else (
      Option.bind (fL_apart t90.2 ((x2 / 36) % 36) (x2 % 36)) (fun t94 =>
      gd (inR (t88.1)) (
      gd (inR (t94.1)) (
      if t88.1 = t94.1 then (
        Option.bind (fL_apart t94.2 (x2 % 36) ((x2 / 1296) % 36)) (fun t99 =>
        Option.bind (fL_apart t99.2 ((x2 / 1296) % 36) ((x2 / 36) % 36)) (fun t101 =>
        gd (inR (t99.1 + t101.1)) (
        if t99.1 + t101.1 < t88.1 then (
          some (0, t101.2))
        else (
          gd (inR (x2 % 36)) (
          gd (inR ((x2 / 36) % 36)) (
          if x2 % 36 = (x2 / 36) % 36 then (
            if t88.1 = 0 then (
              gd (inR (t90.1)) (
              if t90.1 = (-2000000002) then (
                some (1, t101.2))
              else (
                some (0, t101.2))))
            else (
              some (0, t101.2)))
          else (
            if t88.1 ≤ 0 then (
              some (0, t101.2))
            else (
              gd (inR (t90.1)) (
              gd (inR (2 * t88.1)) (
              if t90.1 < 2 * t88.1 then (
                some (0, t101.2))
              else (
                Option.bind (fL_twoWays t101.2 ((x2 / 36) % 36) (x2 % 36)) (fun t115 =>
                gd (inR (t115.1)) (
                if t90.1 = t115.1 then (
                  some (1, t115.2))
                else (
                  some (0, t115.2))))))))))))))))
      else (
        some (0, t94.2))))))) (fun t119 =>
    gd (t119.1 = 0 ∨ t119.1 = 1) (
    some (t119.1, t119.2))))))))))))))))))
abbrev rmL_areNets : Room := { frames := 9, cells := 1, slots := 6, locals := 169 }
theorem hw_L_areNets_c15 : Cond.constant RL 15 (-2000000002) ∈ wsL_areNets := by decide +kernel
set_option maxRecDepth 100000 in
set_option maxHeartbeats 4000000 in
theorem kL_areNets (l : Launch) (hl : l.stackTraces = false) (ad : Nat → Nat) (M : Mem) (x2 : Int) (T : Int × Mem) (h : fL_areNets M x2 = some T) : HK l yL_areNets wsL_areNets rmL_areNets ad [.ref (ad 28), .ref (ad 21), iV (x2)] 1 M (some (iV (T.1))) T.2 := by
  refine HK.of (cc := cL_areNets) (nL := 12) (rt := (some .boolean)) (own := RL) (by decide +kernel) rfl rfl (Nat.le_of_ble_eq_true rfl) ⟨Nat.le_of_ble_eq_true rfl, Nat.le_of_ble_eq_true rfl⟩ (fun G cx => ?_)
  show G (0, M) 0 [(0, .ref (ad 28)), (1, .ref (ad 21)), (2, iV (x2))] []
  have L107 : ∀ (n : Nat) (M : Mem) (x2 : Int) (x5 : Int) (x6 : Int) (x7 : Int) (T58 : Int × Mem), fL_areNets_L107 n M x2 x5 x6 x7 = some T58 → (G (0, T58.2) 143 [(0, .ref (ad 28)), (1, .ref (ad 21)), (2, iV (x2)), (5, iV (x5)), (6, iV (T58.1))] []) → G (0, M) 107 [(0, .ref (ad 28)), (1, .ref (ad 21)), (2, iV (x2)), (5, iV (x5)), (6, iV (x6)), (7, iV (x7))] [] := by
    intro n
    induction n with
    | zero =>
      intro M x2 x5 x6 x7 T58 h
      exact absurd h (by simp [fL_areNets_L107])
    | succ n ih =>
      intro M x2 x5 x6 x7 T58 h hJ
      rw [fL_areNets_L107] at h
      refine bx_iload cx 5 dL_areNets_107 rfl ?_
      refine bx_bipush (z := 60) cx dL_areNets_109 (by decide) ?_
      obtain ⟨g49, h⟩ := gd_some h
      refine bx_icmp_ge cx 143 dL_areNets_111 (by decide) g49 ⟨by decide, by decide⟩ (fun c50 => ?_) (fun c50 => ?_)
      · rw [if_pos c50] at h
        refine bx_lv cx [0, 1, 2, 3, 4] rfl ?_
        cases h
        exact hJ
      · rw [if_neg c50] at h
        refine bx_iload cx 3 dL_areNets_114 rfl ?_
        obtain ⟨g51, h⟩ := gd_some h
        refine bx_if_eq cx 143 dL_areNets_116 (by decide) g51 (fun c52 => ?_) (fun c52 => ?_)
        · rw [if_pos c52] at h
          refine bx_lv cx [0, 1, 2, 3, 4] rfl ?_
          cases h
          exact hJ
        · rw [if_neg c52] at h
          refine bx_iload_n cx 2 dL_areNets_119 rfl rfl ?_
          refine bx_bipush (z := 8) cx dL_areNets_120 (by decide) ?_
          obtain ⟨g53, h⟩ := gd_some h
          refine bx_irem cx dL_areNets_122 ⟨g53, by decide, by decide⟩ ?_
          obtain ⟨g54, h⟩ := gd_some h
          refine bx_if_ne cx 143 dL_areNets_123 (by decide) g54 (fun c55 => ?_) (fun c55 => ?_)
          · rw [if_pos c55] at h
            refine bx_iload cx 4 dL_areNets_126 rfl ?_
            refine bx_aload_n cx 0 dL_areNets_128 rfl rfl ?_
            refine bx_iload cx 5 dL_areNets_129 rfl ?_
            obtain ⟨t56, e57, h⟩ := ob h
            refine bx_callHW (As := [.ref (ad 28), iV (x7)]) (n := 2) (kk := 0) (st := [iV (x6)]) cx (kL_isUsed l hl ad M x7 _ e57) (Nat.le_of_ble_eq_true rfl) gL_areNets_L_isUsed rfl ⟨rfl, rfl⟩ (by decide +kernel) rfl ⟨by decide, by decide⟩ rfl (Nat.le_of_ble_eq_true rfl) dL_areNets_131 ?_
            refine bx_iadd cx dL_areNets_134 ?_
            refine bx_istore (lv' := [(6, iV (x6 + t56.1)), (0, .ref (ad 28)), (1, .ref (ad 21)), (2, iV (x2)), (5, iV (x5)), (7, iV (x7))]) cx dL_areNets_135 (by decide) rfl ?_
            refine bx_iinc (lv' := [(7, iV (x7 + 1)), (6, iV (x6 + t56.1)), (0, .ref (ad 28)), (1, .ref (ad 21)), (2, iV (x2)), (5, iV (x5))]) cx 5 dL_areNets_137 rfl (by decide) rfl ?_
            refine bx_goto cx 107 dL_areNets_140 (by decide) ?_
            refine bx_lv cx [2, 3, 4, 5, 1, 0] rfl ?_
            exact ih _ _ _ _ _ _ h hJ
          · rw [if_neg c55] at h
            refine bx_lv cx [0, 1, 2, 3, 4] rfl ?_
            cases h
            exact hJ
  unfold fL_areNets at h
  refine bx_aload_n cx 0 dL_areNets_0 rfl rfl ?_
  obtain ⟨t1, e2, h⟩ := ob h
  refine bx_callC (As := []) (n := 0) (st := []) cx (kX5_least l ad M  _ e2) (Nat.le_of_ble_eq_true rfl) gL_areNets_X5_least rfl ⟨rfl, rfl⟩ (by decide +kernel) rfl ⟨by decide, by decide⟩ rfl (Nat.le_of_ble_eq_true rfl) dL_areNets_1 ?_
  refine bx_istore_n (lv' := [(3, iV (t1.1)), (0, .ref (ad 28)), (1, .ref (ad 21)), (2, iV (x2))]) cx dL_areNets_4 rfl (by decide) rfl ?_
  refine bx_aload_n cx 1 dL_areNets_5 rfl rfl ?_
  obtain ⟨t3, e4, h⟩ := ob h
  refine bx_callC (As := []) (n := 0) (st := []) cx (kX5_bound l ad t1.2  _ e4) (Nat.le_of_ble_eq_true rfl) gL_areNets_X5_bound rfl ⟨rfl, rfl⟩ (by decide +kernel) rfl ⟨by decide, by decide⟩ rfl (Nat.le_of_ble_eq_true rfl) dL_areNets_6 ?_
  refine bx_istore (lv' := [(4, iV (t3.1)), (3, iV (t1.1)), (0, .ref (ad 28)), (1, .ref (ad 21)), (2, iV (x2))]) cx dL_areNets_9 (by decide) rfl ?_
  refine bx_iload cx 0 dL_areNets_11 rfl ?_
  obtain ⟨g5, h⟩ := gd_some h
  obtain ⟨t46, e48, h⟩ := ob h
  have J47 : G (0, t46.2) 99 [(0, .ref (ad 28)), (1, .ref (ad 21)), (2, iV (x2))] [iV (t46.1)] := by
    refine bx_istore (lv' := [(5, iV (t46.1)), (0, .ref (ad 28)), (1, .ref (ad 21)), (2, iV (x2))]) cx dL_areNets_99 (by decide) rfl ?_
    refine bx_iconst cx dL_areNets_101 ?_
    refine bx_istore (lv' := [(6, iV (0)), (5, iV (t46.1)), (0, .ref (ad 28)), (1, .ref (ad 21)), (2, iV (x2))]) cx dL_areNets_102 (by decide) rfl ?_
    refine bx_iconst cx dL_areNets_104 ?_
    refine bx_istore (lv' := [(7, iV (0)), (6, iV (0)), (5, iV (t46.1)), (0, .ref (ad 28)), (1, .ref (ad 21)), (2, iV (x2))]) cx dL_areNets_105 (by decide) rfl ?_
    obtain ⟨t59, e60, h⟩ := ob h
    refine bx_lv cx [3, 4, 5, 2, 1, 0] rfl ?_
    have J61 : G (0, t59.2) 143 [(0, .ref (ad 28)), (1, .ref (ad 21)), (2, iV (x2)), (5, iV (t46.1)), (6, iV (t59.1))] [] := by
      refine bx_iload cx 3 dL_areNets_143 rfl ?_
      obtain ⟨g62, h⟩ := gd_some h
      obtain ⟨t80, e82, h⟩ := ob h
      have J81 : G (0, t59.2) 185 [(0, .ref (ad 28)), (2, iV (x2))] [iV (t80)] := by
        refine bx_istore (lv' := [(5, iV (t80)), (0, .ref (ad 28)), (2, iV (x2))]) cx dL_areNets_185 (by decide) rfl ?_
        refine bx_iload_n cx 2 dL_areNets_187 rfl rfl ?_
        refine bx_bipush (z := 36) cx dL_areNets_188 (by decide) ?_
        obtain ⟨g83, h⟩ := gd_some h
        refine bx_irem cx dL_areNets_190 ⟨g83, by decide, by decide⟩ ?_
        refine bx_istore (lv' := [(7, iV (x2 % 36)), (5, iV (t80)), (0, .ref (ad 28)), (2, iV (x2))]) cx dL_areNets_191 (by decide) rfl ?_
        refine bx_iload_n cx 3 dL_areNets_193 rfl rfl ?_
        refine bx_bipush (z := 36) cx dL_areNets_194 (by decide) ?_
        obtain ⟨g84, h⟩ := gd_some h
        refine bx_idiv cx dL_areNets_196 ⟨g84, by decide, by decide⟩ ?_
        refine bx_bipush (z := 36) cx dL_areNets_197 (by decide) ?_
        obtain ⟨g85, h⟩ := gd_some h
        refine bx_irem cx dL_areNets_199 ⟨g85, by decide, by decide⟩ ?_
        refine bx_istore (lv' := [(8, iV ((x2 / 36) % 36)), (7, iV (x2 % 36)), (5, iV (t80)), (0, .ref (ad 28)), (2, iV (x2))]) cx dL_areNets_200 (by decide) rfl ?_
        refine bx_iload_n cx 4 dL_areNets_202 rfl rfl ?_
        refine bx_sipush (z := 1296) cx dL_areNets_203 (by decide) ?_
        obtain ⟨g86, h⟩ := gd_some h
        refine bx_idiv cx dL_areNets_206 ⟨g86, by decide, by decide⟩ ?_
        refine bx_bipush (z := 36) cx dL_areNets_207 (by decide) ?_
        obtain ⟨g87, h⟩ := gd_some h
        refine bx_irem cx dL_areNets_209 ⟨g87, by decide, by decide⟩ ?_
        refine bx_istore (lv' := [(9, iV ((x2 / 1296) % 36)), (8, iV ((x2 / 36) % 36)), (7, iV (x2 % 36)), (5, iV (t80)), (0, .ref (ad 28)), (2, iV (x2))]) cx dL_areNets_210 (by decide) rfl ?_
        refine bx_aload_n cx 4 dL_areNets_212 rfl rfl ?_
        refine bx_iload cx 2 dL_areNets_213 rfl ?_
        refine bx_iload cx 1 dL_areNets_215 rfl ?_
        obtain ⟨t88, e89, h⟩ := ob h
        refine bx_callHW (As := [.ref (ad 28), iV (x2 % 36), iV ((x2 / 36) % 36)]) (n := 3) (kk := 0) (st := []) cx (kL_apart l hl ad t59.2 (x2 % 36) ((x2 / 36) % 36) _ e89) (Nat.le_of_ble_eq_true rfl) gL_areNets_L_apart rfl ⟨rfl, rfl⟩ (by decide +kernel) rfl ⟨by decide, by decide⟩ rfl (Nat.le_of_ble_eq_true rfl) dL_areNets_217 ?_
        refine bx_istore (lv' := [(10, iV (t88.1)), (9, iV ((x2 / 1296) % 36)), (8, iV ((x2 / 36) % 36)), (7, iV (x2 % 36)), (5, iV (t80)), (0, .ref (ad 28)), (2, iV (x2))]) cx dL_areNets_220 (by decide) rfl ?_
        refine bx_aload_n cx 5 dL_areNets_222 rfl rfl ?_
        refine bx_iload cx 3 dL_areNets_223 rfl ?_
        refine bx_iload cx 2 dL_areNets_225 rfl ?_
        obtain ⟨t90, e91, h⟩ := ob h
        refine bx_callHW (As := [.ref (ad 28), iV (x2 % 36), iV ((x2 / 36) % 36)]) (n := 3) (kk := 1) (st := []) cx (tL_twoWays_k l hl ad t88.2 (x2 % 36) ((x2 / 36) % 36) _ e91) (Nat.le_of_ble_eq_true rfl) gL_areNets_L_twoWays rfl ⟨rfl, rfl⟩ (by decide +kernel) rfl ⟨by decide, by decide⟩ rfl (Nat.le_of_ble_eq_true rfl) dL_areNets_227 ?_
        refine bx_istore (lv' := [(11, iV (t90.1)), (10, iV (t88.1)), (9, iV ((x2 / 1296) % 36)), (8, iV ((x2 / 36) % 36)), (7, iV (x2 % 36)), (5, iV (t80)), (0, .ref (ad 28)), (2, iV (x2))]) cx dL_areNets_230 (by decide) rfl ?_
        refine bx_iload cx 5 dL_areNets_232 rfl ?_
        obtain ⟨g92, h⟩ := gd_some h
        obtain ⟨t119, e121, h⟩ := ob h
        have J120 : G (1, t119.2) 326 [] [iV (t119.1)] := by
          obtain ⟨g122, h⟩ := gd_some h
          cases h
          exact bx_zret cx dL_areNets_326 rfl g122 (Nat.le_of_ble_eq_true rfl) ⟨rfl, rfl⟩
        clear h
        have h := e121
        clear e121
        refine bx_if_eq cx 325 dL_areNets_234 (by decide) g92 (fun c93 => ?_) (fun c93 => ?_)
        · rw [if_pos c93] at h
          refine bx_iconst cx dL_areNets_325 ?_
          refine bx_lv cx [] rfl ?_
          cases h
          exact J120
        · rw [if_neg c93] at h
          refine bx_iload cx 1 dL_areNets_237 rfl ?_
          refine bx_aload_n cx 6 dL_areNets_239 rfl rfl ?_
          refine bx_iload cx 3 dL_areNets_240 rfl ?_
          refine bx_iload cx 4 dL_areNets_242 rfl ?_
          obtain ⟨t94, e95, h⟩ := ob h
          refine bx_callHW (As := [.ref (ad 28), iV ((x2 / 36) % 36), iV (x2 % 36)]) (n := 3) (kk := 0) (st := [iV (t88.1)]) cx (kL_apart l hl ad t90.2 ((x2 / 36) % 36) (x2 % 36) _ e95) (Nat.le_of_ble_eq_true rfl) gL_areNets_L_apart rfl ⟨rfl, rfl⟩ (by decide +kernel) rfl ⟨by decide, by decide⟩ rfl (Nat.le_of_ble_eq_true rfl) dL_areNets_244 ?_
          obtain ⟨g96, h⟩ := gd_some h
          obtain ⟨g97, h⟩ := gd_some h
          refine bx_icmp_ne cx 325 dL_areNets_247 (by decide) g96 g97 (fun c98 => ?_) (fun c98 => ?_)
          · rw [if_pos c98] at h
            refine bx_iload cx 1 dL_areNets_250 rfl ?_
            refine bx_aload_n cx 6 dL_areNets_252 rfl rfl ?_
            refine bx_iload cx 4 dL_areNets_253 rfl ?_
            refine bx_iload cx 2 dL_areNets_255 rfl ?_
            obtain ⟨t99, e100, h⟩ := ob h
            refine bx_callHW (As := [.ref (ad 28), iV (x2 % 36), iV ((x2 / 1296) % 36)]) (n := 3) (kk := 0) (st := [iV (t88.1)]) cx (kL_apart l hl ad t94.2 (x2 % 36) ((x2 / 1296) % 36) _ e100) (Nat.le_of_ble_eq_true rfl) gL_areNets_L_apart rfl ⟨rfl, rfl⟩ (by decide +kernel) rfl ⟨by decide, by decide⟩ rfl (Nat.le_of_ble_eq_true rfl) dL_areNets_257 ?_
            refine bx_aload_n cx 6 dL_areNets_260 rfl rfl ?_
            refine bx_iload cx 2 dL_areNets_261 rfl ?_
            refine bx_iload cx 3 dL_areNets_263 rfl ?_
            obtain ⟨t101, e102, h⟩ := ob h
            refine bx_callHW (As := [.ref (ad 28), iV ((x2 / 1296) % 36), iV ((x2 / 36) % 36)]) (n := 3) (kk := 0) (st := [iV (t99.1), iV (t88.1)]) cx (kL_apart l hl ad t99.2 ((x2 / 1296) % 36) ((x2 / 36) % 36) _ e102) (Nat.le_of_ble_eq_true rfl) gL_areNets_L_apart rfl ⟨rfl, rfl⟩ (by decide +kernel) rfl ⟨by decide, by decide⟩ rfl (Nat.le_of_ble_eq_true rfl) dL_areNets_265 ?_
            refine bx_iadd cx dL_areNets_268 ?_
            obtain ⟨g103, h⟩ := gd_some h
            refine bx_icmp_gt cx 325 dL_areNets_269 (by decide) g96 g103 (fun c104 => ?_) (fun c104 => ?_)
            · rw [if_pos c104] at h
              refine bx_iconst cx dL_areNets_325 ?_
              refine bx_lv cx [] rfl ?_
              cases h
              exact J120
            · rw [if_neg c104] at h
              refine bx_iload cx 4 dL_areNets_272 rfl ?_
              refine bx_iload cx 3 dL_areNets_274 rfl ?_
              obtain ⟨g105, h⟩ := gd_some h
              obtain ⟨g106, h⟩ := gd_some h
              refine bx_icmp_ne cx 294 dL_areNets_276 (by decide) g105 g106 (fun c107 => ?_) (fun c107 => ?_)
              · rw [if_pos c107] at h
                refine bx_iload cx 1 dL_areNets_279 rfl ?_
                refine bx_if_ne cx 325 dL_areNets_281 (by decide) g96 (fun c108 => ?_) (fun c108 => ?_)
                · rw [if_pos c108] at h
                  refine bx_iload cx 0 dL_areNets_284 rfl ?_
                  refine bx_ldc (z := (-2000000002)) cx dL_areNets_286 hw_L_areNets_c15 (by decide) ?_
                  obtain ⟨g109, h⟩ := gd_some h
                  refine bx_icmp_ne cx 325 dL_areNets_288 (by decide) g109 ⟨by decide, by decide⟩ (fun c110 => ?_) (fun c110 => ?_)
                  · rw [if_pos c110] at h
                    refine bx_goto cx 321 dL_areNets_291 (by decide) ?_
                    refine bx_iconst cx dL_areNets_321 ?_
                    refine bx_goto cx 326 dL_areNets_322 (by decide) ?_
                    refine bx_lv cx [] rfl ?_
                    cases h
                    exact J120
                  · rw [if_neg c110] at h
                    refine bx_iconst cx dL_areNets_325 ?_
                    refine bx_lv cx [] rfl ?_
                    cases h
                    exact J120
                · rw [if_neg c108] at h
                  refine bx_iconst cx dL_areNets_325 ?_
                  refine bx_lv cx [] rfl ?_
                  cases h
                  exact J120
              · rw [if_neg c107] at h
                refine bx_iload cx 1 dL_areNets_294 rfl ?_
                refine bx_if_le cx 325 dL_areNets_296 (by decide) g96 (fun c111 => ?_) (fun c111 => ?_)
                · rw [if_pos c111] at h
                  refine bx_iconst cx dL_areNets_325 ?_
                  refine bx_lv cx [] rfl ?_
                  cases h
                  exact J120
                · rw [if_neg c111] at h
                  refine bx_iload cx 0 dL_areNets_299 rfl ?_
                  refine bx_iconst cx dL_areNets_301 ?_
                  refine bx_iload cx 1 dL_areNets_302 rfl ?_
                  refine bx_imul cx dL_areNets_304 ?_
                  obtain ⟨g112, h⟩ := gd_some h
                  obtain ⟨g113, h⟩ := gd_some h
                  refine bx_icmp_lt cx 325 dL_areNets_305 (by decide) g112 g113 (fun c114 => ?_) (fun c114 => ?_)
                  · rw [if_pos c114] at h
                    refine bx_iconst cx dL_areNets_325 ?_
                    refine bx_lv cx [] rfl ?_
                    cases h
                    exact J120
                  · rw [if_neg c114] at h
                    refine bx_iload cx 0 dL_areNets_308 rfl ?_
                    refine bx_aload_n cx 6 dL_areNets_310 rfl rfl ?_
                    refine bx_iload cx 3 dL_areNets_311 rfl ?_
                    refine bx_iload cx 4 dL_areNets_313 rfl ?_
                    obtain ⟨t115, e116, h⟩ := ob h
                    refine bx_callHW (As := [.ref (ad 28), iV ((x2 / 36) % 36), iV (x2 % 36)]) (n := 3) (kk := 0) (st := [iV (t90.1)]) cx (kL_twoWays l hl ad t101.2 ((x2 / 36) % 36) (x2 % 36) _ e116) (Nat.le_of_ble_eq_true rfl) gL_areNets_L_twoWays rfl ⟨rfl, rfl⟩ (by decide +kernel) rfl ⟨by decide, by decide⟩ rfl (Nat.le_of_ble_eq_true rfl) dL_areNets_315 ?_
                    obtain ⟨g117, h⟩ := gd_some h
                    refine bx_icmp_ne cx 325 dL_areNets_318 (by decide) g112 g117 (fun c118 => ?_) (fun c118 => ?_)
                    · rw [if_pos c118] at h
                      refine bx_iconst cx dL_areNets_321 ?_
                      refine bx_goto cx 326 dL_areNets_322 (by decide) ?_
                      refine bx_lv cx [] rfl ?_
                      cases h
                      exact J120
                    · rw [if_neg c118] at h
                      refine bx_iconst cx dL_areNets_325 ?_
                      refine bx_lv cx [] rfl ?_
                      cases h
                      exact J120
          · rw [if_neg c98] at h
            refine bx_iconst cx dL_areNets_325 ?_
            refine bx_lv cx [] rfl ?_
            cases h
            exact J120
      clear h
      have h := e82
      clear e82
      refine bx_if_eq cx 184 dL_areNets_145 (by decide) g62 (fun c63 => ?_) (fun c63 => ?_)
      · rw [if_pos c63] at h
        refine bx_iconst cx dL_areNets_184 ?_
        refine bx_lv cx [0, 2] rfl ?_
        cases h
        exact J81
      · rw [if_neg c63] at h
        refine bx_iload_n cx 2 dL_areNets_148 rfl rfl ?_
        refine bx_bipush (z := 8) cx dL_areNets_149 (by decide) ?_
        obtain ⟨g64, h⟩ := gd_some h
        refine bx_irem cx dL_areNets_151 ⟨g64, by decide, by decide⟩ ?_
        obtain ⟨g65, h⟩ := gd_some h
        refine bx_if_gt cx 180 dL_areNets_152 (by decide) g65 (fun c66 => ?_) (fun c66 => ?_)
        · rw [if_pos c66] at h
          refine bx_iconst cx dL_areNets_180 ?_
          refine bx_goto cx 185 dL_areNets_181 (by decide) ?_
          refine bx_lv cx [0, 2] rfl ?_
          cases h
          exact J81
        · rw [if_neg c66] at h
          refine bx_iload cx 4 dL_areNets_155 rfl ?_
          obtain ⟨g67, h⟩ := gd_some h
          obtain ⟨t69, e71, h⟩ := ob h
          have J70 : G (0, t59.2) 165 [(0, .ref (ad 28)), (1, .ref (ad 21)), (2, iV (x2))] [iV (t69)] := by
            refine bx_aload_n cx 1 dL_areNets_165 rfl rfl ?_
            refine bx_iconst cx dL_areNets_166 ?_
            refine bx_iald (n := 1) cx (by decide) rfl rfl ⟨by decide, by decide⟩ dL_areNets_167 ?_
            refine bx_iconst cx dL_areNets_168 ?_
            obtain ⟨g72, h⟩ := gd_some h
            obtain ⟨t74, e76, h⟩ := ob h
            have J75 : G (0, t59.2) 177 [(0, .ref (ad 28)), (2, iV (x2))] [iV (t74), iV (t69)] := by
              obtain ⟨g77, h⟩ := gd_some h
              obtain ⟨g78, h⟩ := gd_some h
              refine bx_icmp_ne cx 184 dL_areNets_177 (by decide) g77 g78 (fun c79 => ?_) (fun c79 => ?_)
              · rw [if_pos c79] at h
                refine bx_iconst cx dL_areNets_180 ?_
                refine bx_goto cx 185 dL_areNets_181 (by decide) ?_
                cases h
                exact J81
              · rw [if_neg c79] at h
                refine bx_iconst cx dL_areNets_184 ?_
                cases h
                exact J81
            clear h
            have h := e76
            clear e76
            refine bx_icmp_le cx 176 dL_areNets_169 (by decide) g72 ⟨by decide, by decide⟩ (fun c73 => ?_) (fun c73 => ?_)
            · rw [if_pos c73] at h
              refine bx_iconst cx dL_areNets_176 ?_
              refine bx_lv cx [0, 2] rfl ?_
              cases h
              exact J75
            · rw [if_neg c73] at h
              refine bx_iconst cx dL_areNets_172 ?_
              refine bx_goto cx 177 dL_areNets_173 (by decide) ?_
              refine bx_lv cx [0, 2] rfl ?_
              cases h
              exact J75
          clear h
          have h := e71
          clear e71
          refine bx_if_le cx 164 dL_areNets_157 (by decide) g67 (fun c68 => ?_) (fun c68 => ?_)
          · rw [if_pos c68] at h
            refine bx_iconst cx dL_areNets_164 ?_
            refine bx_lv cx [0, 1, 2] rfl ?_
            cases h
            exact J70
          · rw [if_neg c68] at h
            refine bx_iconst cx dL_areNets_160 ?_
            refine bx_goto cx 165 dL_areNets_161 (by decide) ?_
            refine bx_lv cx [0, 1, 2] rfl ?_
            cases h
            exact J70
    exact L107 FU t46.2 x2 t46.1 0 0 _ e60 J61
  clear h
  have h := e48
  clear e48
  refine bx_if_lt cx 98 dL_areNets_13 (by decide) g5 (fun c6 => ?_) (fun c6 => ?_)
  · rw [if_pos c6] at h
    refine bx_iconst cx dL_areNets_98 ?_
    refine bx_lv cx [2, 3, 4] rfl ?_
    cases h
    exact J47
  · rw [if_neg c6] at h
    refine bx_iload cx 0 dL_areNets_16 rfl ?_
    refine bx_iload_n cx 1 dL_areNets_18 rfl rfl ?_
    obtain ⟨g7, h⟩ := gd_some h
    refine bx_icmp_gt cx 98 dL_areNets_19 (by decide) g5 g7 (fun c8 => ?_) (fun c8 => ?_)
    · rw [if_pos c8] at h
      refine bx_iconst cx dL_areNets_98 ?_
      refine bx_lv cx [2, 3, 4] rfl ?_
      cases h
      exact J47
    · rw [if_neg c8] at h
      refine bx_aload_n cx 2 dL_areNets_22 rfl rfl ?_
      obtain ⟨t9, e10, h⟩ := ob h
      refine bx_callC (As := []) (n := 0) (st := []) cx (kX5_gap l ad t3.2  _ e10) (Nat.le_of_ble_eq_true rfl) gL_areNets_X5_gap rfl ⟨rfl, rfl⟩ (by decide +kernel) rfl ⟨by decide, by decide⟩ rfl (Nat.le_of_ble_eq_true rfl) dL_areNets_23 ?_
      refine bx_iload_n cx 1 dL_areNets_26 rfl rfl ?_
      refine bx_iload cx 0 dL_areNets_27 rfl ?_
      refine bx_isub cx dL_areNets_29 ?_
      obtain ⟨g11, h⟩ := gd_some h
      obtain ⟨g12, h⟩ := gd_some h
      refine bx_icmp_ne cx 98 dL_areNets_30 (by decide) g11 g12 (fun c13 => ?_) (fun c13 => ?_)
      · rw [if_pos c13] at h
        refine bx_aload_n cx 2 dL_areNets_33 rfl rfl ?_
        obtain ⟨t14, e15, h⟩ := ob h
        refine bx_callC (As := []) (n := 0) (st := []) cx (kX5_leastAnew l ad t9.2  _ e15) (Nat.le_of_ble_eq_true rfl) gL_areNets_X5_leastAnew rfl ⟨rfl, rfl⟩ (by decide +kernel) rfl ⟨by decide, by decide⟩ rfl (Nat.le_of_ble_eq_true rfl) dL_areNets_34 ?_
        refine bx_aload_n cx 3 dL_areNets_37 rfl rfl ?_
        refine bx_iconst cx dL_areNets_38 ?_
        refine bx_iald (n := 1) cx (by decide) rfl rfl ⟨by decide, by decide⟩ dL_areNets_39 ?_
        refine bx_iconst cx dL_areNets_40 ?_
        obtain ⟨g16, h⟩ := gd_some h
        obtain ⟨t18, e20, h⟩ := ob h
        have J19 : G (0, t14.2) 49 [(0, .ref (ad 28)), (1, .ref (ad 21)), (2, iV (x2)), (3, iV (t1.1)), (4, iV (t3.1))] [iV (t18), iV (t14.1)] := by
          obtain ⟨g21, h⟩ := gd_some h
          obtain ⟨g22, h⟩ := gd_some h
          refine bx_icmp_ne cx 98 dL_areNets_49 (by decide) g21 g22 (fun c23 => ?_) (fun c23 => ?_)
          · rw [if_pos c23] at h
            refine bx_aload_n cx 1 dL_areNets_52 rfl rfl ?_
            refine bx_iconst cx dL_areNets_53 ?_
            refine bx_iald (n := 1) cx (by decide) rfl rfl ⟨by decide, by decide⟩ dL_areNets_54 ?_
            refine bx_iconst cx dL_areNets_55 ?_
            refine bx_icmp_gt cx 63 dL_areNets_56 (by decide) g16 ⟨by decide, by decide⟩ (fun c24 => ?_) (fun c24 => ?_)
            · rw [if_pos c24] at h
              refine bx_aload_n cx 1 dL_areNets_63 rfl rfl ?_
              refine bx_iconst cx dL_areNets_64 ?_
              refine bx_iald (n := 1) cx (by decide) rfl rfl ⟨by decide, by decide⟩ dL_areNets_65 ?_
              refine bx_iconst cx dL_areNets_66 ?_
              refine bx_icmp_ne cx 94 dL_areNets_67 (by decide) g16 ⟨by decide, by decide⟩ (fun c25 => ?_) (fun c25 => ?_)
              · rw [if_pos c25] at h
                refine bx_iload cx 4 dL_areNets_70 rfl ?_
                refine bx_iload_n cx 3 dL_areNets_72 rfl rfl ?_
                refine bx_icmp_ne cx 98 dL_areNets_73 (by decide) g5 g7 (fun c26 => ?_) (fun c26 => ?_)
                · rw [if_pos c26] at h
                  refine bx_iload_n cx 3 dL_areNets_76 rfl rfl ?_
                  refine bx_aload_n cx 0 dL_areNets_77 rfl rfl ?_
                  refine bx_aload_n cx 0 dL_areNets_78 rfl rfl ?_
                  refine bx_iconst cx dL_areNets_79 ?_
                  obtain ⟨t27, e28, h⟩ := ob h
                  refine bx_callHW (As := [.ref (ad 28), iV (0)]) (n := 2) (kk := 0) (st := [.ref (ad 28), iV (t1.1)]) cx (kL_townAt l hl ad t14.2 0 _ e28) (Nat.le_of_ble_eq_true rfl) gL_areNets_L_townAt rfl ⟨rfl, rfl⟩ (by decide +kernel) rfl ⟨by decide, by decide⟩ rfl (Nat.le_of_ble_eq_true rfl) dL_areNets_80 ?_
                  refine bx_aload_n cx 0 dL_areNets_83 rfl rfl ?_
                  refine bx_iconst cx dL_areNets_84 ?_
                  obtain ⟨t29, e30, h⟩ := ob h
                  refine bx_callHW (As := [.ref (ad 28), iV (1)]) (n := 2) (kk := 0) (st := [iV (t27), .ref (ad 28), iV (t1.1)]) cx (kL_townAt l hl ad t14.2 1 _ e30) (Nat.le_of_ble_eq_true rfl) gL_areNets_L_townAt rfl ⟨rfl, rfl⟩ (by decide +kernel) rfl ⟨by decide, by decide⟩ rfl (Nat.le_of_ble_eq_true rfl) dL_areNets_85 ?_
                  obtain ⟨t31, e32, h⟩ := ob h
                  refine bx_callHW (As := [.ref (ad 28), iV (t27), iV (t29)]) (n := 3) (kk := 0) (st := [iV (t1.1)]) cx (kL_apart l hl ad t14.2 t27 t29 _ e32) (Nat.le_of_ble_eq_true rfl) gL_areNets_L_apart rfl ⟨rfl, rfl⟩ (by decide +kernel) rfl ⟨by decide, by decide⟩ rfl (Nat.le_of_ble_eq_true rfl) dL_areNets_88 ?_
                  obtain ⟨g33, h⟩ := gd_some h
                  refine bx_icmp_ne cx 98 dL_areNets_91 (by decide) g7 g33 (fun c34 => ?_) (fun c34 => ?_)
                  · rw [if_pos c34] at h
                    refine bx_iconst cx dL_areNets_94 ?_
                    refine bx_goto cx 99 dL_areNets_95 (by decide) ?_
                    refine bx_lv cx [0, 1, 2] rfl ?_
                    cases h
                    exact J47
                  · rw [if_neg c34] at h
                    refine bx_iconst cx dL_areNets_98 ?_
                    refine bx_lv cx [0, 1, 2] rfl ?_
                    cases h
                    exact J47
                · rw [if_neg c26] at h
                  refine bx_iconst cx dL_areNets_98 ?_
                  refine bx_lv cx [0, 1, 2] rfl ?_
                  cases h
                  exact J47
              · rw [if_neg c25] at h
                refine bx_iconst cx dL_areNets_94 ?_
                refine bx_goto cx 99 dL_areNets_95 (by decide) ?_
                refine bx_lv cx [0, 1, 2] rfl ?_
                cases h
                exact J47
            · rw [if_neg c24] at h
              refine bx_iload_n cx 3 dL_areNets_59 rfl rfl ?_
              refine bx_if_ne cx 98 dL_areNets_60 (by decide) g7 (fun c35 => ?_) (fun c35 => ?_)
              · rw [if_pos c35] at h
                refine bx_aload_n cx 1 dL_areNets_63 rfl rfl ?_
                refine bx_iconst cx dL_areNets_64 ?_
                refine bx_iald (n := 1) cx (by decide) rfl rfl ⟨by decide, by decide⟩ dL_areNets_65 ?_
                refine bx_iconst cx dL_areNets_66 ?_
                refine bx_icmp_ne cx 94 dL_areNets_67 (by decide) g16 ⟨by decide, by decide⟩ (fun c36 => ?_) (fun c36 => ?_)
                · rw [if_pos c36] at h
                  refine bx_iload cx 4 dL_areNets_70 rfl ?_
                  refine bx_iload_n cx 3 dL_areNets_72 rfl rfl ?_
                  refine bx_icmp_ne cx 98 dL_areNets_73 (by decide) g5 g7 (fun c37 => ?_) (fun c37 => ?_)
                  · rw [if_pos c37] at h
                    refine bx_iload_n cx 3 dL_areNets_76 rfl rfl ?_
                    refine bx_aload_n cx 0 dL_areNets_77 rfl rfl ?_
                    refine bx_aload_n cx 0 dL_areNets_78 rfl rfl ?_
                    refine bx_iconst cx dL_areNets_79 ?_
                    obtain ⟨t38, e39, h⟩ := ob h
                    refine bx_callHW (As := [.ref (ad 28), iV (0)]) (n := 2) (kk := 0) (st := [.ref (ad 28), iV (t1.1)]) cx (kL_townAt l hl ad t14.2 0 _ e39) (Nat.le_of_ble_eq_true rfl) gL_areNets_L_townAt rfl ⟨rfl, rfl⟩ (by decide +kernel) rfl ⟨by decide, by decide⟩ rfl (Nat.le_of_ble_eq_true rfl) dL_areNets_80 ?_
                    refine bx_aload_n cx 0 dL_areNets_83 rfl rfl ?_
                    refine bx_iconst cx dL_areNets_84 ?_
                    obtain ⟨t40, e41, h⟩ := ob h
                    refine bx_callHW (As := [.ref (ad 28), iV (1)]) (n := 2) (kk := 0) (st := [iV (t38), .ref (ad 28), iV (t1.1)]) cx (kL_townAt l hl ad t14.2 1 _ e41) (Nat.le_of_ble_eq_true rfl) gL_areNets_L_townAt rfl ⟨rfl, rfl⟩ (by decide +kernel) rfl ⟨by decide, by decide⟩ rfl (Nat.le_of_ble_eq_true rfl) dL_areNets_85 ?_
                    obtain ⟨t42, e43, h⟩ := ob h
                    refine bx_callHW (As := [.ref (ad 28), iV (t38), iV (t40)]) (n := 3) (kk := 0) (st := [iV (t1.1)]) cx (kL_apart l hl ad t14.2 t38 t40 _ e43) (Nat.le_of_ble_eq_true rfl) gL_areNets_L_apart rfl ⟨rfl, rfl⟩ (by decide +kernel) rfl ⟨by decide, by decide⟩ rfl (Nat.le_of_ble_eq_true rfl) dL_areNets_88 ?_
                    obtain ⟨g44, h⟩ := gd_some h
                    refine bx_icmp_ne cx 98 dL_areNets_91 (by decide) g7 g44 (fun c45 => ?_) (fun c45 => ?_)
                    · rw [if_pos c45] at h
                      refine bx_iconst cx dL_areNets_94 ?_
                      refine bx_goto cx 99 dL_areNets_95 (by decide) ?_
                      refine bx_lv cx [0, 1, 2] rfl ?_
                      cases h
                      exact J47
                    · rw [if_neg c45] at h
                      refine bx_iconst cx dL_areNets_98 ?_
                      refine bx_lv cx [0, 1, 2] rfl ?_
                      cases h
                      exact J47
                  · rw [if_neg c37] at h
                    refine bx_iconst cx dL_areNets_98 ?_
                    refine bx_lv cx [0, 1, 2] rfl ?_
                    cases h
                    exact J47
                · rw [if_neg c36] at h
                  refine bx_iconst cx dL_areNets_94 ?_
                  refine bx_goto cx 99 dL_areNets_95 (by decide) ?_
                  refine bx_lv cx [0, 1, 2] rfl ?_
                  cases h
                  exact J47
              · rw [if_neg c35] at h
                refine bx_iconst cx dL_areNets_98 ?_
                refine bx_lv cx [0, 1, 2] rfl ?_
                cases h
                exact J47
          · rw [if_neg c23] at h
            refine bx_iconst cx dL_areNets_98 ?_
            refine bx_lv cx [0, 1, 2] rfl ?_
            cases h
            exact J47
        clear h
        have h := e20
        clear e20
        refine bx_icmp_le cx 48 dL_areNets_41 (by decide) g16 ⟨by decide, by decide⟩ (fun c17 => ?_) (fun c17 => ?_)
        · rw [if_pos c17] at h
          refine bx_iload_n cx 1 dL_areNets_48 rfl rfl ?_
          refine bx_lv cx [2, 3, 4, 1, 0] rfl ?_
          cases h
          exact J19
        · rw [if_neg c17] at h
          refine bx_iconst cx dL_areNets_44 ?_
          refine bx_goto cx 49 dL_areNets_45 (by decide) ?_
          refine bx_lv cx [2, 3, 4, 1, 0] rfl ?_
          cases h
          exact J19
      · rw [if_neg c13] at h
        refine bx_iconst cx dL_areNets_98 ?_
        refine bx_lv cx [2, 3, 4] rfl ?_
        cases h
        exact J47
def fL_breathes (M : Mem) (x1 : Int) : Option (Int × Mem) :=
    Option.bind (fL_energy M 0) (fun t1 =>
    Option.bind (fL_energy t1.2 3) (fun t3 =>
    Option.bind (fX5_rests t3.2) (fun t5 =>
    Option.bind (fL_energy t5.2 1) (fun t7 =>
    Option.bind (tL_breathe t7.2 x1) (fun t9 =>
    Option.bind (fL_energy t9.2 0) (fun t11 =>
    Option.bind (fL_isRefused t11.2 t9.1) (fun t13 =>
    gd (inR (t13)) (
    Option.bind (if t13 = 0 then (
      Option.bind (fL_energy t11.2 3) (fun t17 =>
      gd (inR (t17.1)) (
      gd (inR ((t3.1 + t1.1) - t11.1)) (
      if t17.1 = (t3.1 + t1.1) - t11.1 then (
        gd (inR (t9.1)) (
        Option.bind (if t9.1 ≤ 0 then (
          some (0))
        else (
          some (1))) (fun t24 =>
        gd (inR (t5.1)) (
        Option.bind (if t5.1 ≤ 0 then (
          some (0))
        else (
          some (1))) (fun t29 =>
        gd (inR (t24)) (
        gd (inR (t29)) (
        if t24 = t29 then (
          if t9.1 = 0 then (
            gd (inR (t11.1)) (
            gd (inR (t1.1)) (
            if t11.1 = t1.1 then (
              Option.bind (fL_energy t17.2 1) (fun t39 =>
              gd (inR (t39.1)) (
              gd (inR (t7.1)) (
              if t39.1 = t7.1 then (
                Option.bind (fX5_rests t39.2) (fun t44 =>
                gd (inR (x1)) (
                Option.bind (if t5.1 ≤ x1 then (
                  some (0))
                else (
                  some (t5.1 - x1))) (fun t48 =>
                gd (inR (t44.1)) (
                gd (inR (t48)) (
                if t44.1 = t48 then (
                  if x1 < t5.1 then (
                    some (1, t44.2))
                  else (
                    if t11.1 = t7.1 then (
                      some (1, t44.2))
                    else (
                      some (0, t44.2))))
                else (
                  some (0, t44.2))))))))
              else (
                some (0, t39.2))))))
            else (
              some (0, t17.2)))))
          else (
            gd (inR (t11.1)) (
            gd (inR (t1.1)) (
            if t1.1 ≤ t11.1 then (
              some (0, t17.2))
            else (
              Option.bind (fL_energy t17.2 1) (fun t59 =>
              gd (inR (t59.1)) (
              gd (inR (t7.1)) (
              if t59.1 = t7.1 then (
                Option.bind (fX5_rests t59.2) (fun t64 =>
                gd (inR (x1)) (
                Option.bind (if t5.1 ≤ x1 then (
                  some (0))
                else (
                  some (t5.1 - x1))) (fun t68 =>
                gd (inR (t64.1)) (
                gd (inR (t68)) (
                if t64.1 = t68 then (
                  if x1 < t5.1 then (
                    some (1, t64.2))
                  else (
                    if t11.1 = t7.1 then (
                      some (1, t64.2))
                    else (
                      some (0, t64.2))))
                else (
                  some (0, t64.2))))))))
              else (
                some (0, t59.2))))))))))
        else (
          some (0, t17.2)))))))))
      else (
        some (0, t17.2))))))
    else (
      some (1, t11.2))) (fun t76 =>
    gd (inR (t76.1)) (
    Option.bind (if t76.1 = 0 then (
      some ((-9)))
    else (
      some (t9.1))) (fun t81 =>
    some (t81, t76.2))))))))))))
abbrev rmL_breathes : Room := { frames := 8, cells := 1, slots := 6, locals := 190 }
set_option maxRecDepth 100000 in
set_option maxHeartbeats 4000000 in
theorem kL_breathes (l : Launch) (hl : l.stackTraces = false) (ad : Nat → Nat) (M : Mem) (x1 : Int) (T : Int × Mem) (h : fL_breathes M x1 = some T) : HK l yL_breathes wsL_breathes rmL_breathes ad [.ref (ad 28), iV (x1)] 1 M (some (iV (T.1))) T.2 := by
  refine HK.of (cc := cL_breathes) (nL := 9) (rt := (some .int)) (own := RL) (by decide +kernel) rfl rfl (Nat.le_of_ble_eq_true rfl) ⟨Nat.le_of_ble_eq_true rfl, Nat.le_of_ble_eq_true rfl⟩ (fun G cx => ?_)
  show G (0, M) 0 [(0, .ref (ad 28)), (1, iV (x1))] []
  unfold fL_breathes at h
  refine bx_aload_n cx 0 dL_breathes_0 rfl rfl ?_
  refine bx_iconst cx dL_breathes_1 ?_
  obtain ⟨t1, e2, h⟩ := ob h
  refine bx_callHW (As := [.ref (ad 28), iV (0)]) (n := 2) (kk := 0) (st := []) cx (kL_energy l hl ad M 0 _ e2) (Nat.le_of_ble_eq_true rfl) gL_breathes_L_energy rfl ⟨rfl, rfl⟩ (by decide +kernel) rfl ⟨by decide, by decide⟩ rfl (Nat.le_of_ble_eq_true rfl) dL_breathes_2 ?_
  refine bx_istore_n (lv' := [(2, iV (t1.1)), (0, .ref (ad 28)), (1, iV (x1))]) cx dL_breathes_5 rfl (by decide) rfl ?_
  refine bx_aload_n cx 1 dL_breathes_6 rfl rfl ?_
  refine bx_iconst cx dL_breathes_7 ?_
  obtain ⟨t3, e4, h⟩ := ob h
  refine bx_callHW (As := [.ref (ad 28), iV (3)]) (n := 2) (kk := 0) (st := []) cx (kL_energy l hl ad t1.2 3 _ e4) (Nat.le_of_ble_eq_true rfl) gL_breathes_L_energy rfl ⟨rfl, rfl⟩ (by decide +kernel) rfl ⟨by decide, by decide⟩ rfl (Nat.le_of_ble_eq_true rfl) dL_breathes_8 ?_
  refine bx_istore_n (lv' := [(3, iV (t3.1)), (2, iV (t1.1)), (0, .ref (ad 28)), (1, iV (x1))]) cx dL_breathes_11 rfl (by decide) rfl ?_
  refine bx_aload_n cx 2 dL_breathes_12 rfl rfl ?_
  obtain ⟨t5, e6, h⟩ := ob h
  refine bx_callC (As := []) (n := 0) (st := []) cx (kX5_rests l ad t3.2  _ e6) (Nat.le_of_ble_eq_true rfl) gL_breathes_X5_rests rfl ⟨rfl, rfl⟩ (by decide +kernel) rfl ⟨by decide, by decide⟩ rfl (Nat.le_of_ble_eq_true rfl) dL_breathes_13 ?_
  refine bx_istore (lv' := [(4, iV (t5.1)), (3, iV (t3.1)), (2, iV (t1.1)), (0, .ref (ad 28)), (1, iV (x1))]) cx dL_breathes_16 (by decide) rfl ?_
  refine bx_aload_n cx 3 dL_breathes_18 rfl rfl ?_
  refine bx_iconst cx dL_breathes_19 ?_
  obtain ⟨t7, e8, h⟩ := ob h
  refine bx_callHW (As := [.ref (ad 28), iV (1)]) (n := 2) (kk := 0) (st := []) cx (kL_energy l hl ad t5.2 1 _ e8) (Nat.le_of_ble_eq_true rfl) gL_breathes_L_energy rfl ⟨rfl, rfl⟩ (by decide +kernel) rfl ⟨by decide, by decide⟩ rfl (Nat.le_of_ble_eq_true rfl) dL_breathes_20 ?_
  refine bx_istore (lv' := [(5, iV (t7.1)), (4, iV (t5.1)), (3, iV (t3.1)), (2, iV (t1.1)), (0, .ref (ad 28)), (1, iV (x1))]) cx dL_breathes_23 (by decide) rfl ?_
  refine bx_aload_n cx 4 dL_breathes_25 rfl rfl ?_
  refine bx_iload_n cx 5 dL_breathes_26 rfl rfl ?_
  obtain ⟨t9, e10, h⟩ := ob h
  refine bx_callHW (As := [.ref (ad 28), iV (x1)]) (n := 2) (kk := 1) (st := []) cx (tL_breathe_k l hl ad t7.2 x1 _ e10) (Nat.le_of_ble_eq_true rfl) gL_breathes_L_breathe rfl ⟨rfl, rfl⟩ (by decide +kernel) rfl ⟨by decide, by decide⟩ rfl (Nat.le_of_ble_eq_true rfl) dL_breathes_27 ?_
  refine bx_istore (lv' := [(6, iV (t9.1)), (5, iV (t7.1)), (4, iV (t5.1)), (3, iV (t3.1)), (2, iV (t1.1)), (0, .ref (ad 28)), (1, iV (x1))]) cx dL_breathes_30 (by decide) rfl ?_
  refine bx_aload_n cx 5 dL_breathes_32 rfl rfl ?_
  refine bx_iconst cx dL_breathes_33 ?_
  obtain ⟨t11, e12, h⟩ := ob h
  refine bx_callHW (As := [.ref (ad 28), iV (0)]) (n := 2) (kk := 0) (st := []) cx (kL_energy l hl ad t9.2 0 _ e12) (Nat.le_of_ble_eq_true rfl) gL_breathes_L_energy rfl ⟨rfl, rfl⟩ (by decide +kernel) rfl ⟨by decide, by decide⟩ rfl (Nat.le_of_ble_eq_true rfl) dL_breathes_34 ?_
  refine bx_istore (lv' := [(7, iV (t11.1)), (6, iV (t9.1)), (5, iV (t7.1)), (4, iV (t5.1)), (3, iV (t3.1)), (2, iV (t1.1)), (0, .ref (ad 28)), (1, iV (x1))]) cx dL_breathes_37 (by decide) rfl ?_
  refine bx_iload cx 1 dL_breathes_39 rfl ?_
  obtain ⟨t13, e14, h⟩ := ob h
  refine bx_callH (As := [iV (t9.1)]) (n := 1) (kk := 0) (st := []) cx (kL_isRefused l hl ad t11.2 t9.1 _ e14) (Nat.le_of_ble_eq_true rfl) gL_breathes_L_isRefused rfl ⟨rfl, rfl⟩ (by decide +kernel) rfl ⟨by decide, by decide⟩ rfl (Nat.le_of_ble_eq_true rfl) dL_breathes_41 ?_
  obtain ⟨g15, h⟩ := gd_some h
  obtain ⟨t76, e78, h⟩ := ob h
  have J77 : G (1, t76.2) 153 [(6, iV (t9.1))] [iV (t76.1)] := by
    refine bx_istore (lv' := [(8, iV (t76.1)), (6, iV (t9.1))]) cx dL_breathes_153 (by decide) rfl ?_
    refine bx_iload cx 0 dL_breathes_155 rfl ?_
    obtain ⟨g79, h⟩ := gd_some h
    obtain ⟨t81, e83, h⟩ := ob h
    have J82 : G (1, t76.2) 167 [] [iV (t81)] := by
      cases h
      exact bx_iret cx dL_breathes_167 rfl (Nat.le_of_ble_eq_true rfl) ⟨rfl, rfl⟩
    clear h
    have h := e83
    clear e83
    refine bx_if_eq cx 165 dL_breathes_157 (by decide) g79 (fun c80 => ?_) (fun c80 => ?_)
    · rw [if_pos c80] at h
      refine bx_bipush (z := (-9)) cx dL_breathes_165 (by decide) ?_
      refine bx_lv cx [] rfl ?_
      cases h
      exact J82
    · rw [if_neg c80] at h
      refine bx_iload cx 1 dL_breathes_160 rfl ?_
      refine bx_goto cx 167 dL_breathes_162 (by decide) ?_
      refine bx_lv cx [] rfl ?_
      cases h
      exact J82
  clear h
  have h := e78
  clear e78
  refine bx_if_ne cx 148 dL_breathes_44 (by decide) g15 (fun c16 => ?_) (fun c16 => ?_)
  · rw [if_pos c16] at h
    refine bx_aload_n cx 6 dL_breathes_47 rfl rfl ?_
    refine bx_iconst cx dL_breathes_48 ?_
    obtain ⟨t17, e18, h⟩ := ob h
    refine bx_callHW (As := [.ref (ad 28), iV (3)]) (n := 2) (kk := 0) (st := []) cx (kL_energy l hl ad t11.2 3 _ e18) (Nat.le_of_ble_eq_true rfl) gL_breathes_L_energy rfl ⟨rfl, rfl⟩ (by decide +kernel) rfl ⟨by decide, by decide⟩ rfl (Nat.le_of_ble_eq_true rfl) dL_breathes_49 ?_
    refine bx_iload_n cx 4 dL_breathes_52 rfl rfl ?_
    refine bx_iload_n cx 5 dL_breathes_53 rfl rfl ?_
    refine bx_iadd cx dL_breathes_54 ?_
    refine bx_iload cx 0 dL_breathes_55 rfl ?_
    refine bx_isub cx dL_breathes_57 ?_
    obtain ⟨g19, h⟩ := gd_some h
    obtain ⟨g20, h⟩ := gd_some h
    refine bx_icmp_ne cx 152 dL_breathes_58 (by decide) g19 g20 (fun c21 => ?_) (fun c21 => ?_)
    · rw [if_pos c21] at h
      refine bx_iload cx 1 dL_breathes_61 rfl ?_
      obtain ⟨g22, h⟩ := gd_some h
      obtain ⟨t24, e26, h⟩ := ob h
      have J25 : G (1, t17.2) 71 [(0, .ref (ad 28)), (1, iV (x1)), (2, iV (t1.1)), (4, iV (t5.1)), (5, iV (t7.1)), (6, iV (t9.1)), (7, iV (t11.1))] [iV (t24)] := by
        refine bx_iload cx 3 dL_breathes_71 rfl ?_
        obtain ⟨g27, h⟩ := gd_some h
        obtain ⟨t29, e31, h⟩ := ob h
        have J30 : G (1, t17.2) 81 [(0, .ref (ad 28)), (1, iV (x1)), (2, iV (t1.1)), (4, iV (t5.1)), (5, iV (t7.1)), (6, iV (t9.1)), (7, iV (t11.1))] [iV (t29), iV (t24)] := by
          obtain ⟨g32, h⟩ := gd_some h
          obtain ⟨g33, h⟩ := gd_some h
          refine bx_icmp_ne cx 152 dL_breathes_81 (by decide) g32 g33 (fun c34 => ?_) (fun c34 => ?_)
          · rw [if_pos c34] at h
            refine bx_iload cx 5 dL_breathes_84 rfl ?_
            refine bx_if_ne cx 98 dL_breathes_86 (by decide) g22 (fun c35 => ?_) (fun c35 => ?_)
            · rw [if_pos c35] at h
              refine bx_iload cx 6 dL_breathes_89 rfl ?_
              refine bx_iload_n cx 2 dL_breathes_91 rfl rfl ?_
              obtain ⟨g36, h⟩ := gd_some h
              obtain ⟨g37, h⟩ := gd_some h
              refine bx_icmp_ne cx 152 dL_breathes_92 (by decide) g36 g37 (fun c38 => ?_) (fun c38 => ?_)
              · rw [if_pos c38] at h
                refine bx_goto cx 104 dL_breathes_95 (by decide) ?_
                refine bx_aload_n cx 0 dL_breathes_104 rfl rfl ?_
                refine bx_iconst cx dL_breathes_105 ?_
                obtain ⟨t39, e40, h⟩ := ob h
                refine bx_callHW (As := [.ref (ad 28), iV (1)]) (n := 2) (kk := 0) (st := []) cx (kL_energy l hl ad t17.2 1 _ e40) (Nat.le_of_ble_eq_true rfl) gL_breathes_L_energy rfl ⟨rfl, rfl⟩ (by decide +kernel) rfl ⟨by decide, by decide⟩ rfl (Nat.le_of_ble_eq_true rfl) dL_breathes_106 ?_
                refine bx_iload cx 4 dL_breathes_109 rfl ?_
                obtain ⟨g41, h⟩ := gd_some h
                obtain ⟨g42, h⟩ := gd_some h
                refine bx_icmp_ne cx 152 dL_breathes_111 (by decide) g41 g42 (fun c43 => ?_) (fun c43 => ?_)
                · rw [if_pos c43] at h
                  refine bx_aload_n cx 0 dL_breathes_114 rfl rfl ?_
                  obtain ⟨t44, e45, h⟩ := ob h
                  refine bx_callC (As := []) (n := 0) (st := []) cx (kX5_rests l ad t39.2  _ e45) (Nat.le_of_ble_eq_true rfl) gL_breathes_X5_rests rfl ⟨rfl, rfl⟩ (by decide +kernel) rfl ⟨by decide, by decide⟩ rfl (Nat.le_of_ble_eq_true rfl) dL_breathes_115 ?_
                  refine bx_iload cx 3 dL_breathes_118 rfl ?_
                  refine bx_iload_n cx 1 dL_breathes_120 rfl rfl ?_
                  obtain ⟨g46, h⟩ := gd_some h
                  obtain ⟨t48, e50, h⟩ := ob h
                  have J49 : G (1, t44.2) 132 [(1, iV (x1)), (4, iV (t5.1)), (5, iV (t7.1)), (6, iV (t9.1)), (7, iV (t11.1))] [iV (t48), iV (t44.1)] := by
                    obtain ⟨g51, h⟩ := gd_some h
                    obtain ⟨g52, h⟩ := gd_some h
                    refine bx_icmp_ne cx 152 dL_breathes_132 (by decide) g51 g52 (fun c53 => ?_) (fun c53 => ?_)
                    · rw [if_pos c53] at h
                      refine bx_iload cx 1 dL_breathes_135 rfl ?_
                      refine bx_iload_n cx 0 dL_breathes_137 rfl rfl ?_
                      refine bx_icmp_gt cx 148 dL_breathes_138 (by decide) g27 g46 (fun c54 => ?_) (fun c54 => ?_)
                      · rw [if_pos c54] at h
                        refine bx_iconst cx dL_breathes_148 ?_
                        refine bx_goto cx 153 dL_breathes_149 (by decide) ?_
                        refine bx_lv cx [3] rfl ?_
                        cases h
                        exact J77
                      · rw [if_neg c54] at h
                        refine bx_iload cx 4 dL_breathes_141 rfl ?_
                        refine bx_iload cx 2 dL_breathes_143 rfl ?_
                        refine bx_icmp_ne cx 152 dL_breathes_145 (by decide) g36 g42 (fun c55 => ?_) (fun c55 => ?_)
                        · rw [if_pos c55] at h
                          refine bx_iconst cx dL_breathes_148 ?_
                          refine bx_goto cx 153 dL_breathes_149 (by decide) ?_
                          refine bx_lv cx [3] rfl ?_
                          cases h
                          exact J77
                        · rw [if_neg c55] at h
                          refine bx_iconst cx dL_breathes_152 ?_
                          refine bx_lv cx [3] rfl ?_
                          cases h
                          exact J77
                    · rw [if_neg c53] at h
                      refine bx_iconst cx dL_breathes_152 ?_
                      refine bx_lv cx [3] rfl ?_
                      cases h
                      exact J77
                  clear h
                  have h := e50
                  clear e50
                  refine bx_icmp_le cx 131 dL_breathes_121 (by decide) g27 g46 (fun c47 => ?_) (fun c47 => ?_)
                  · rw [if_pos c47] at h
                    refine bx_iconst cx dL_breathes_131 ?_
                    refine bx_lv cx [1, 3, 4, 5, 6] rfl ?_
                    cases h
                    exact J49
                  · rw [if_neg c47] at h
                    refine bx_iload cx 3 dL_breathes_124 rfl ?_
                    refine bx_iload_n cx 1 dL_breathes_126 rfl rfl ?_
                    refine bx_isub cx dL_breathes_127 ?_
                    refine bx_goto cx 132 dL_breathes_128 (by decide) ?_
                    refine bx_lv cx [1, 3, 4, 5, 6] rfl ?_
                    cases h
                    exact J49
                · rw [if_neg c43] at h
                  refine bx_iconst cx dL_breathes_152 ?_
                  refine bx_lv cx [5] rfl ?_
                  cases h
                  exact J77
              · rw [if_neg c38] at h
                refine bx_iconst cx dL_breathes_152 ?_
                refine bx_lv cx [5] rfl ?_
                cases h
                exact J77
            · rw [if_neg c35] at h
              refine bx_iload cx 6 dL_breathes_98 rfl ?_
              refine bx_iload_n cx 2 dL_breathes_100 rfl rfl ?_
              obtain ⟨g56, h⟩ := gd_some h
              obtain ⟨g57, h⟩ := gd_some h
              refine bx_icmp_ge cx 152 dL_breathes_101 (by decide) g56 g57 (fun c58 => ?_) (fun c58 => ?_)
              · rw [if_pos c58] at h
                refine bx_iconst cx dL_breathes_152 ?_
                refine bx_lv cx [5] rfl ?_
                cases h
                exact J77
              · rw [if_neg c58] at h
                refine bx_aload_n cx 0 dL_breathes_104 rfl rfl ?_
                refine bx_iconst cx dL_breathes_105 ?_
                obtain ⟨t59, e60, h⟩ := ob h
                refine bx_callHW (As := [.ref (ad 28), iV (1)]) (n := 2) (kk := 0) (st := []) cx (kL_energy l hl ad t17.2 1 _ e60) (Nat.le_of_ble_eq_true rfl) gL_breathes_L_energy rfl ⟨rfl, rfl⟩ (by decide +kernel) rfl ⟨by decide, by decide⟩ rfl (Nat.le_of_ble_eq_true rfl) dL_breathes_106 ?_
                refine bx_iload cx 4 dL_breathes_109 rfl ?_
                obtain ⟨g61, h⟩ := gd_some h
                obtain ⟨g62, h⟩ := gd_some h
                refine bx_icmp_ne cx 152 dL_breathes_111 (by decide) g61 g62 (fun c63 => ?_) (fun c63 => ?_)
                · rw [if_pos c63] at h
                  refine bx_aload_n cx 0 dL_breathes_114 rfl rfl ?_
                  obtain ⟨t64, e65, h⟩ := ob h
                  refine bx_callC (As := []) (n := 0) (st := []) cx (kX5_rests l ad t59.2  _ e65) (Nat.le_of_ble_eq_true rfl) gL_breathes_X5_rests rfl ⟨rfl, rfl⟩ (by decide +kernel) rfl ⟨by decide, by decide⟩ rfl (Nat.le_of_ble_eq_true rfl) dL_breathes_115 ?_
                  refine bx_iload cx 3 dL_breathes_118 rfl ?_
                  refine bx_iload_n cx 1 dL_breathes_120 rfl rfl ?_
                  obtain ⟨g66, h⟩ := gd_some h
                  obtain ⟨t68, e70, h⟩ := ob h
                  have J69 : G (1, t64.2) 132 [(1, iV (x1)), (4, iV (t5.1)), (5, iV (t7.1)), (6, iV (t9.1)), (7, iV (t11.1))] [iV (t68), iV (t64.1)] := by
                    obtain ⟨g71, h⟩ := gd_some h
                    obtain ⟨g72, h⟩ := gd_some h
                    refine bx_icmp_ne cx 152 dL_breathes_132 (by decide) g71 g72 (fun c73 => ?_) (fun c73 => ?_)
                    · rw [if_pos c73] at h
                      refine bx_iload cx 1 dL_breathes_135 rfl ?_
                      refine bx_iload_n cx 0 dL_breathes_137 rfl rfl ?_
                      refine bx_icmp_gt cx 148 dL_breathes_138 (by decide) g27 g66 (fun c74 => ?_) (fun c74 => ?_)
                      · rw [if_pos c74] at h
                        refine bx_iconst cx dL_breathes_148 ?_
                        refine bx_goto cx 153 dL_breathes_149 (by decide) ?_
                        refine bx_lv cx [3] rfl ?_
                        cases h
                        exact J77
                      · rw [if_neg c74] at h
                        refine bx_iload cx 4 dL_breathes_141 rfl ?_
                        refine bx_iload cx 2 dL_breathes_143 rfl ?_
                        refine bx_icmp_ne cx 152 dL_breathes_145 (by decide) g56 g62 (fun c75 => ?_) (fun c75 => ?_)
                        · rw [if_pos c75] at h
                          refine bx_iconst cx dL_breathes_148 ?_
                          refine bx_goto cx 153 dL_breathes_149 (by decide) ?_
                          refine bx_lv cx [3] rfl ?_
                          cases h
                          exact J77
                        · rw [if_neg c75] at h
                          refine bx_iconst cx dL_breathes_152 ?_
                          refine bx_lv cx [3] rfl ?_
                          cases h
                          exact J77
                    · rw [if_neg c73] at h
                      refine bx_iconst cx dL_breathes_152 ?_
                      refine bx_lv cx [3] rfl ?_
                      cases h
                      exact J77
                  clear h
                  have h := e70
                  clear e70
                  refine bx_icmp_le cx 131 dL_breathes_121 (by decide) g27 g66 (fun c67 => ?_) (fun c67 => ?_)
                  · rw [if_pos c67] at h
                    refine bx_iconst cx dL_breathes_131 ?_
                    refine bx_lv cx [1, 3, 4, 5, 6] rfl ?_
                    cases h
                    exact J69
                  · rw [if_neg c67] at h
                    refine bx_iload cx 3 dL_breathes_124 rfl ?_
                    refine bx_iload_n cx 1 dL_breathes_126 rfl rfl ?_
                    refine bx_isub cx dL_breathes_127 ?_
                    refine bx_goto cx 132 dL_breathes_128 (by decide) ?_
                    refine bx_lv cx [1, 3, 4, 5, 6] rfl ?_
                    cases h
                    exact J69
                · rw [if_neg c63] at h
                  refine bx_iconst cx dL_breathes_152 ?_
                  refine bx_lv cx [5] rfl ?_
                  cases h
                  exact J77
          · rw [if_neg c34] at h
            refine bx_iconst cx dL_breathes_152 ?_
            refine bx_lv cx [5] rfl ?_
            cases h
            exact J77
        clear h
        have h := e31
        clear e31
        refine bx_if_le cx 80 dL_breathes_73 (by decide) g27 (fun c28 => ?_) (fun c28 => ?_)
        · rw [if_pos c28] at h
          refine bx_iconst cx dL_breathes_80 ?_
          cases h
          exact J30
        · rw [if_neg c28] at h
          refine bx_iconst cx dL_breathes_76 ?_
          refine bx_goto cx 81 dL_breathes_77 (by decide) ?_
          cases h
          exact J30
      clear h
      have h := e26
      clear e26
      refine bx_if_le cx 70 dL_breathes_63 (by decide) g22 (fun c23 => ?_) (fun c23 => ?_)
      · rw [if_pos c23] at h
        refine bx_iconst cx dL_breathes_70 ?_
        refine bx_lv cx [6, 7, 5, 3, 2, 1, 0] rfl ?_
        cases h
        exact J25
      · rw [if_neg c23] at h
        refine bx_iconst cx dL_breathes_66 ?_
        refine bx_goto cx 71 dL_breathes_67 (by decide) ?_
        refine bx_lv cx [6, 7, 5, 3, 2, 1, 0] rfl ?_
        cases h
        exact J25
    · rw [if_neg c21] at h
      refine bx_iconst cx dL_breathes_152 ?_
      refine bx_lv cx [1] rfl ?_
      cases h
      exact J77
  · rw [if_neg c16] at h
    refine bx_iconst cx dL_breathes_148 ?_
    refine bx_goto cx 153 dL_breathes_149 (by decide) ?_
    refine bx_lv cx [1] rfl ?_
    cases h
    exact J77
def fL_does (M : Mem) (x3 : Int) : Option (Int × Mem) :=
    gd (0 ≤ x3 ∧ x3 < 2147483648) (
    gd (0 ≤ x3 / 20 ∧ x3 / 20 < 2147483648) (
    gd (0 ≤ x3 ∧ x3 < 2147483648) (
    gd (inR (x3 % 20)) (
    if x3 % 20 = 0 then (
      gd (0 ≤ x3 / 20 ∧ x3 / 20 < 2147483648) (
      gd (0 ≤ (x3 / 20) / 40 ∧ (x3 / 20) / 40 < 2147483648) (
      Option.bind (tL_cost M ((x3 / 20) % 3) (((x3 / 20) / 40) % 11)) (fun t25 =>
      some (t25.1, t25.2)))))
    else if x3 % 20 = 1 then (
      gd (0 ≤ x3 / 20 ∧ x3 / 20 < 2147483648) (
      gd (0 ≤ (x3 / 20) / 40 ∧ (x3 / 20) / 40 < 2147483648) (
      gd (inR (((x3 / 20) / 40) % 3)) (
      Option.bind (if ((x3 / 20) / 40) % 3 = 0 then (
        some (0))
      else (
        gd (0 ≤ (x3 / 20) / 40 ∧ (x3 / 20) / 40 < 2147483648) (
        gd (0 ≤ ((x3 / 20) / 40) / 3 ∧ ((x3 / 20) / 40) / 3 < 2147483648) (
        some ((((x3 / 20) / 40) / 3) % 52))))) (fun t33 =>
      Option.bind (tL_lay M ((x3 / 20) % 61) t33) (fun t36 =>
      some (t36.1, t36.2)))))))
    else if x3 % 20 = 2 then (
      gd (0 ≤ x3 / 20 ∧ x3 / 20 < 2147483648) (
      gd (0 ≤ (x3 / 20) / 40 ∧ (x3 / 20) / 40 < 2147483648) (
      gd (inR (((x3 / 20) / 40) % 3)) (
      Option.bind (if ((x3 / 20) / 40) % 3 = 0 then (
        some (0))
      else (
        gd (0 ≤ (x3 / 20) / 40 ∧ (x3 / 20) / 40 < 2147483648) (
        gd (0 ≤ ((x3 / 20) / 40) / 3 ∧ ((x3 / 20) / 40) / 3 < 2147483648) (
        some ((((x3 / 20) / 40) / 3) % 52))))) (fun t44 =>
      Option.bind (tL_lay M ((x3 / 20) % 61) t44) (fun t47 =>
      some (t47.1, t47.2)))))))
    else if x3 % 20 = 3 then (
      gd (0 ≤ x3 / 20 ∧ x3 / 20 < 2147483648) (
      gd (0 ≤ (x3 / 20) / 40 ∧ (x3 / 20) / 40 < 2147483648) (
      gd (inR (((x3 / 20) / 40) % 3)) (
      Option.bind (if ((x3 / 20) / 40) % 3 = 0 then (
        some (0))
      else (
        gd (0 ≤ (x3 / 20) / 40 ∧ (x3 / 20) / 40 < 2147483648) (
        gd (0 ≤ ((x3 / 20) / 40) / 3 ∧ ((x3 / 20) / 40) / 3 < 2147483648) (
        some ((((x3 / 20) / 40) / 3) % 52))))) (fun t55 =>
      Option.bind (tL_lay M ((x3 / 20) % 61) t55) (fun t58 =>
      some (t58.1, t58.2)))))))
    else if x3 % 20 = 4 then (
      gd (0 ≤ x3 / 20 ∧ x3 / 20 < 2147483648) (
      Option.bind (tL_town M ((x3 / 20) % 37)) (fun t61 =>
      Option.bind (fL_isRefused t61.2 t61.1) (fun t63 =>
      gd (inR (t63)) (
      Option.bind (if t63 = 0 then (
        some (1))
      else (
        some (0))) (fun t67 =>
      some (t61.1, (wr t61.2 21 (0 : Int).toNat ((t61.2 21 (0 : Int).toNat) + t67)))))))))
    else if x3 % 20 = 5 then (
      gd (0 ≤ x3 / 20 ∧ x3 / 20 < 2147483648) (
      Option.bind (tL_town M ((x3 / 20) % 37)) (fun t71 =>
      Option.bind (fL_isRefused t71.2 t71.1) (fun t73 =>
      gd (inR (t73)) (
      Option.bind (if t73 = 0 then (
        some (1))
      else (
        some (0))) (fun t77 =>
      some (t71.1, (wr t71.2 21 (0 : Int).toNat ((t71.2 21 (0 : Int).toNat) + t77)))))))))
    else if x3 % 20 = 6 then (
      gd (0 ≤ x3 / 20 ∧ x3 / 20 < 2147483648) (
      Option.bind (tL_town M ((x3 / 20) % 37)) (fun t81 =>
      Option.bind (fL_isRefused t81.2 t81.1) (fun t83 =>
      gd (inR (t83)) (
      Option.bind (if t83 = 0 then (
        some (1))
      else (
        some (0))) (fun t87 =>
      some (t81.1, (wr t81.2 21 (0 : Int).toNat ((t81.2 21 (0 : Int).toNat) + t87)))))))))
    else if x3 % 20 = 7 then (
      gd (0 ≤ x3 / 20 ∧ x3 / 20 < 2147483648) (
      Option.bind (tL_away M ((x3 / 20) % 7)) (fun t91 =>
      Option.bind (fL_isRefused t91.2 t91.1) (fun t93 =>
      gd (inR (t93)) (
      Option.bind (if t93 = 0 then (
        some (1))
      else (
        some (0))) (fun t97 =>
      some (t91.1, (wr t91.2 21 (0 : Int).toNat ((t91.2 21 (0 : Int).toNat) - t97)))))))))
    else if x3 % 20 = 8 then (
      gd (0 ≤ x3 / 20 ∧ x3 / 20 < 2147483648) (
      gd (0 ≤ (x3 / 20) / 40 ∧ (x3 / 20) / 40 < 2147483648) (
      Option.bind (tL_pin M ((x3 / 20) % 37) (((x3 / 20) / 40) % 4)) (fun t102 =>
      Option.bind (fL_isRefused t102.2 t102.1) (fun t104 =>
      gd (inR (t104)) (
      if t104 = 0 then (
        gd (0 ≤ x3 / 20 ∧ x3 / 20 < 2147483648) (
        gd (inB ((x3 / 20) % 37) 37) (
        gd (inR (t102.2 22 ((x3 / 20) % 37).toNat)) (
        gd (inR (t102.1)) (
        Option.bind (if t102.2 22 ((x3 / 20) % 37).toNat = t102.1 then (
          some (1))
        else (
          some (0))) (fun t113 =>
        gd (0 ≤ x3 / 20 ∧ x3 / 20 < 2147483648) (
        gd (0 ≤ (x3 / 20) / 40 ∧ (x3 / 20) / 40 < 2147483648) (
        gd (inB ((x3 / 20) % 37) 37) (
        gd (inR (t113)) (
        Option.bind (if t113 = 0 then (
          some ((-9)))
        else (
          some (t102.1))) (fun t121 =>
        some (t121, (wr t102.2 22 ((x3 / 20) % 37).toNat (((x3 / 20) / 40) % 4))))))))))))))
      else (
        some (t102.1, t102.2))))))))
    else if x3 % 20 = 9 then (
      gd (0 ≤ x3 / 20 ∧ x3 / 20 < 2147483648) (
      gd (0 ≤ (x3 / 20) / 40 ∧ (x3 / 20) / 40 < 2147483648) (
      Option.bind (tL_pin M ((x3 / 20) % 37) (((x3 / 20) / 40) % 4)) (fun t126 =>
      Option.bind (fL_isRefused t126.2 t126.1) (fun t128 =>
      gd (inR (t128)) (
      if t128 = 0 then (
        gd (0 ≤ x3 / 20 ∧ x3 / 20 < 2147483648) (
        gd (inB ((x3 / 20) % 37) 37) (
        gd (inR (t126.2 22 ((x3 / 20) % 37).toNat)) (
        gd (inR (t126.1)) (
        Option.bind (if t126.2 22 ((x3 / 20) % 37).toNat = t126.1 then (
          some (1))
        else (
          some (0))) (fun t137 =>
        gd (0 ≤ x3 / 20 ∧ x3 / 20 < 2147483648) (
        gd (0 ≤ (x3 / 20) / 40 ∧ (x3 / 20) / 40 < 2147483648) (
        gd (inB ((x3 / 20) % 37) 37) (
        gd (inR (t137)) (
        Option.bind (if t137 = 0 then (
          some ((-9)))
        else (
          some (t126.1))) (fun t145 =>
        some (t145, (wr t126.2 22 ((x3 / 20) % 37).toNat (((x3 / 20) / 40) % 4))))))))))))))
      else (
        some (t126.1, t126.2))))))))
    else if x3 % 20 = 10 then (
      gd (0 ≤ x3 / 20 ∧ x3 / 20 < 2147483648) (
      gd (0 ≤ (x3 / 20) / 40 ∧ (x3 / 20) / 40 < 2147483648) (
      Option.bind (tL_pin M ((x3 / 20) % 37) (((x3 / 20) / 40) % 4)) (fun t150 =>
      Option.bind (fL_isRefused t150.2 t150.1) (fun t152 =>
      gd (inR (t152)) (
      if t152 = 0 then (
        gd (0 ≤ x3 / 20 ∧ x3 / 20 < 2147483648) (
        gd (inB ((x3 / 20) % 37) 37) (
        gd (inR (t150.2 22 ((x3 / 20) % 37).toNat)) (
        gd (inR (t150.1)) (
        Option.bind (if t150.2 22 ((x3 / 20) % 37).toNat = t150.1 then (
          some (1))
        else (
          some (0))) (fun t161 =>
        gd (0 ≤ x3 / 20 ∧ x3 / 20 < 2147483648) (
        gd (0 ≤ (x3 / 20) / 40 ∧ (x3 / 20) / 40 < 2147483648) (
        gd (inB ((x3 / 20) % 37) 37) (
        gd (inR (t161)) (
        Option.bind (if t161 = 0 then (
          some ((-9)))
        else (
          some (t150.1))) (fun t169 =>
        some (t169, (wr t150.2 22 ((x3 / 20) % 37).toNat (((x3 / 20) / 40) % 4))))))))))))))
      else (
        some (t150.1, t150.2))))))))
    else if x3 % 20 = 11 then (
      gd (0 ≤ x3 / 20 ∧ x3 / 20 < 2147483648) (
      gd (0 ≤ (x3 / 20) / 40 ∧ (x3 / 20) / 40 < 2147483648) (
      gd (inR (((x3 / 20) / 40) % 2)) (
      Option.bind (if ((x3 / 20) / 40) % 2 = 0 then (
        gd (0 ≤ (x3 / 20) / 40 ∧ (x3 / 20) / 40 < 2147483648) (
        gd (0 ≤ ((x3 / 20) / 40) / 2 ∧ ((x3 / 20) / 40) / 2 < 2147483648) (
        some ((((x3 / 20) / 40) / 2) % 9))))
      else (
        gd (0 ≤ (x3 / 20) / 40 ∧ (x3 / 20) / 40 < 2147483648) (
        gd (0 ≤ ((x3 / 20) / 40) / 2 ∧ ((x3 / 20) / 40) / 2 < 2147483648) (
        some ((((x3 / 20) / 40) / 2) % 3))))) (fun t180 =>
      Option.bind (tL_pull M ((x3 / 20) % 37) t180) (fun t183 =>
      some (t183.1, t183.2)))))))
    else if x3 % 20 = 12 then (
      gd (0 ≤ x3 / 20 ∧ x3 / 20 < 2147483648) (
      gd (0 ≤ (x3 / 20) / 40 ∧ (x3 / 20) / 40 < 2147483648) (
      gd (inR (((x3 / 20) / 40) % 2)) (
      Option.bind (if ((x3 / 20) / 40) % 2 = 0 then (
        gd (0 ≤ (x3 / 20) / 40 ∧ (x3 / 20) / 40 < 2147483648) (
        gd (0 ≤ ((x3 / 20) / 40) / 2 ∧ ((x3 / 20) / 40) / 2 < 2147483648) (
        some ((((x3 / 20) / 40) / 2) % 9))))
      else (
        gd (0 ≤ (x3 / 20) / 40 ∧ (x3 / 20) / 40 < 2147483648) (
        gd (0 ≤ ((x3 / 20) / 40) / 2 ∧ ((x3 / 20) / 40) / 2 < 2147483648) (
        some ((((x3 / 20) / 40) / 2) % 3))))) (fun t193 =>
      Option.bind (tL_pull M ((x3 / 20) % 37) t193) (fun t196 =>
      some (t196.1, t196.2)))))))
    else if x3 % 20 = 13 then (
      gd (0 ≤ x3 / 20 ∧ x3 / 20 < 2147483648) (
      gd (0 ≤ (x3 / 20) / 40 ∧ (x3 / 20) / 40 < 2147483648) (
      gd (inR (((x3 / 20) / 40) % 2)) (
      Option.bind (if ((x3 / 20) / 40) % 2 = 0 then (
        gd (0 ≤ (x3 / 20) / 40 ∧ (x3 / 20) / 40 < 2147483648) (
        gd (0 ≤ ((x3 / 20) / 40) / 2 ∧ ((x3 / 20) / 40) / 2 < 2147483648) (
        some ((((x3 / 20) / 40) / 2) % 9))))
      else (
        gd (0 ≤ (x3 / 20) / 40 ∧ (x3 / 20) / 40 < 2147483648) (
        gd (0 ≤ ((x3 / 20) / 40) / 2 ∧ ((x3 / 20) / 40) / 2 < 2147483648) (
        some ((((x3 / 20) / 40) / 2) % 3))))) (fun t206 =>
      Option.bind (tL_pull M ((x3 / 20) % 37) t206) (fun t209 =>
      some (t209.1, t209.2)))))))
    else if x3 % 20 = 14 then (
      gd (0 ≤ x3 / 20 ∧ x3 / 20 < 2147483648) (
      gd (0 ≤ (x3 / 20) / 40 ∧ (x3 / 20) / 40 < 2147483648) (
      gd (inR (((x3 / 20) / 40) % 2)) (
      Option.bind (if ((x3 / 20) / 40) % 2 = 0 then (
        gd (0 ≤ (x3 / 20) / 40 ∧ (x3 / 20) / 40 < 2147483648) (
        gd (0 ≤ ((x3 / 20) / 40) / 2 ∧ ((x3 / 20) / 40) / 2 < 2147483648) (
        some ((((x3 / 20) / 40) / 2) % 9))))
      else (
        gd (0 ≤ (x3 / 20) / 40 ∧ (x3 / 20) / 40 < 2147483648) (
        gd (0 ≤ ((x3 / 20) / 40) / 2 ∧ ((x3 / 20) / 40) / 2 < 2147483648) (
        some ((((x3 / 20) / 40) / 2) % 3))))) (fun t219 =>
      Option.bind (tL_pull M ((x3 / 20) % 37) t219) (fun t222 =>
      some (t222.1, t222.2)))))))
    else if x3 % 20 = 15 then (
      gd (0 ≤ x3 / 20 ∧ x3 / 20 < 2147483648) (
      gd (0 ≤ (x3 / 20) / 40 ∧ (x3 / 20) / 40 < 2147483648) (
      gd (inR (((x3 / 20) / 40) % 2)) (
      Option.bind (if ((x3 / 20) / 40) % 2 = 0 then (
        gd (0 ≤ (x3 / 20) / 40 ∧ (x3 / 20) / 40 < 2147483648) (
        gd (0 ≤ ((x3 / 20) / 40) / 2 ∧ ((x3 / 20) / 40) / 2 < 2147483648) (
        some ((((x3 / 20) / 40) / 2) % 9))))
      else (
        gd (0 ≤ (x3 / 20) / 40 ∧ (x3 / 20) / 40 < 2147483648) (
        gd (0 ≤ ((x3 / 20) / 40) / 2 ∧ ((x3 / 20) / 40) / 2 < 2147483648) (
        some ((((x3 / 20) / 40) / 2) % 3))))) (fun t232 =>
      Option.bind (tL_pull M ((x3 / 20) % 37) t232) (fun t235 =>
      some (t235.1, t235.2)))))))
    else if x3 % 20 = 16 then (
      gd (0 ≤ x3 / 20 ∧ x3 / 20 < 2147483648) (
      gd (0 ≤ (x3 / 20) / 40 ∧ (x3 / 20) / 40 < 2147483648) (
      gd (inR (((x3 / 20) / 40) % 3)) (
      Option.bind (if ((x3 / 20) / 40) % 3 = 0 then (
        some (1))
      else (
        some (0))) (fun t241 =>
      Option.bind (tL_hold M ((x3 / 20) % 9) t241) (fun t244 =>
      some (t244.1, t244.2)))))))
    else if x3 % 20 = 17 then (
      Option.bind (tL_costOf M (((-1)) - ((Int32.ofInt (x3 / 20)).toInt64))) (fun t246 =>
      Option.bind (fL_isRefused M t246) (fun t248 =>
      gd (inR (t248)) (
      Option.bind (if t248 = 0 then (
        some ((-9)))
      else (
        Option.bind (tL_costOf M (68719476736 + ((Int32.ofInt (x3 / 20)).toInt64))) (fun t252 =>
        Option.bind (fL_isRefused M t252) (fun t254 =>
        gd (inR (t254)) (
        if t254 = 0 then (
          some ((-9)))
        else (
          some (0))))))) (fun t258 =>
      some (t258, M))))))
    else (
      gd (0 ≤ (x3 / 20) / 40 ∧ (x3 / 20) / 40 < 2147483648) (
      Option.bind (fL_breathes M (((x3 / 20) / 40) % 4)) (fun t262 =>
      some (t262.1, t262.2))))))))
abbrev rmL_does : Room := { frames := 9, cells := 2, slots := 12, locals := 218 }
theorem hw_L_does_k146 : Cond.constantLong RL 146 (-1) ∈ wsL_does := by decide +kernel
theorem hw_L_does_k179 : Cond.constantLong RL 179 (68719476736) ∈ wsL_does := by decide +kernel
set_option maxRecDepth 100000 in
set_option maxHeartbeats 4000000 in
theorem kL_does (l : Launch) (hl : l.stackTraces = false) (ad : Nat → Nat) (M : Mem) (x3 : Int) (T : Int × Mem) (h : fL_does M x3 = some T) : HK l yL_does wsL_does rmL_does ad [.ref (ad 28), .ref (ad 21), .ref (ad 22), iV (x3)] 2 M (some (iV (T.1))) T.2 := by
  refine HK.of (cc := cL_does) (nL := 8) (rt := (some .int)) (own := RL) (by decide +kernel) rfl rfl (Nat.le_of_ble_eq_true rfl) ⟨Nat.le_of_ble_eq_true rfl, Nat.le_of_ble_eq_true rfl⟩ (fun G cx => ?_)
  show G (0, M) 0 [(0, .ref (ad 28)), (1, .ref (ad 21)), (2, .ref (ad 22)), (3, iV (x3))] []
  unfold fL_does at h
  refine bx_iload_n cx 3 dL_does_0 rfl rfl ?_
  refine bx_bipush (z := 20) cx dL_does_1 (by decide) ?_
  obtain ⟨g1, h⟩ := gd_some h
  refine bx_idiv cx dL_does_3 ⟨g1, by decide, by decide⟩ ?_
  refine bx_istore (lv' := [(4, iV (x3 / 20)), (0, .ref (ad 28)), (1, .ref (ad 21)), (2, .ref (ad 22)), (3, iV (x3))]) cx dL_does_4 (by decide) rfl ?_
  refine bx_iload cx 0 dL_does_6 rfl ?_
  refine bx_bipush (z := 40) cx dL_does_8 (by decide) ?_
  obtain ⟨g2, h⟩ := gd_some h
  refine bx_idiv cx dL_does_10 ⟨g2, by decide, by decide⟩ ?_
  refine bx_istore (lv' := [(5, iV ((x3 / 20) / 40)), (4, iV (x3 / 20)), (0, .ref (ad 28)), (1, .ref (ad 21)), (2, .ref (ad 22)), (3, iV (x3))]) cx dL_does_11 (by decide) rfl ?_
  refine bx_iload_n cx 5 dL_does_13 rfl rfl ?_
  refine bx_bipush (z := 20) cx dL_does_14 (by decide) ?_
  obtain ⟨g3, h⟩ := gd_some h
  refine bx_irem cx dL_does_16 ⟨g3, by decide, by decide⟩ ?_
  obtain ⟨g4, h⟩ := gd_some h
  by_cases c5 : x3 % 20 = 0
  · rw [if_pos c5] at h
    refine bx_tableIn (off := 87) cx 104 dL_does_17 g4 (by rw [c5]; decide) (by rw [c5]; decide) (by rw [c5]; rfl) (by decide) ?_
    refine bx_aload_n cx 2 dL_does_104 rfl rfl ?_
    refine bx_iload cx 1 dL_does_105 rfl ?_
    refine bx_iconst cx dL_does_107 ?_
    obtain ⟨g23, h⟩ := gd_some h
    refine bx_irem cx dL_does_108 ⟨g23, by decide, by decide⟩ ?_
    refine bx_iload cx 0 dL_does_109 rfl ?_
    refine bx_bipush (z := 11) cx dL_does_111 (by decide) ?_
    obtain ⟨g24, h⟩ := gd_some h
    refine bx_irem cx dL_does_113 ⟨g24, by decide, by decide⟩ ?_
    obtain ⟨t25, e26, h⟩ := ob h
    refine bx_callHW (As := [.ref (ad 28), iV ((x3 / 20) % 3), iV (((x3 / 20) / 40) % 11)]) (n := 3) (kk := 1) (st := []) cx (tL_cost_k l hl ad M ((x3 / 20) % 3) (((x3 / 20) / 40) % 11) _ e26) (Nat.le_of_ble_eq_true rfl) gL_does_L_cost rfl ⟨rfl, rfl⟩ (by decide +kernel) rfl ⟨by decide, by decide⟩ rfl (Nat.le_of_ble_eq_true rfl) dL_does_114 ?_
    cases h
    exact bx_iret cx dL_does_117 rfl (Nat.le_of_ble_eq_true rfl) ⟨rfl, rfl⟩
  rw [if_neg c5] at h
  by_cases c6 : x3 % 20 = 1
  · rw [if_pos c6] at h
    refine bx_tableIn (off := 101) cx 118 dL_does_17 g4 (by rw [c6]; decide) (by rw [c6]; decide) (by rw [c6]; rfl) (by decide) ?_
    refine bx_aload_n cx 2 dL_does_118 rfl rfl ?_
    refine bx_iload cx 1 dL_does_119 rfl ?_
    refine bx_bipush (z := 61) cx dL_does_121 (by decide) ?_
    obtain ⟨g27, h⟩ := gd_some h
    refine bx_irem cx dL_does_123 ⟨g27, by decide, by decide⟩ ?_
    refine bx_iload cx 0 dL_does_124 rfl ?_
    refine bx_iconst cx dL_does_126 ?_
    obtain ⟨g28, h⟩ := gd_some h
    refine bx_irem cx dL_does_127 ⟨g28, by decide, by decide⟩ ?_
    obtain ⟨g29, h⟩ := gd_some h
    obtain ⟨t33, e35, h⟩ := ob h
    have J34 : G (0, M) 142 [] [iV (t33), iV ((x3 / 20) % 61), .ref (ad 28)] := by
      obtain ⟨t36, e37, h⟩ := ob h
      refine bx_callHW (As := [.ref (ad 28), iV ((x3 / 20) % 61), iV (t33)]) (n := 3) (kk := 1) (st := []) cx (tL_lay_k l hl ad M ((x3 / 20) % 61) t33 _ e37) (Nat.le_of_ble_eq_true rfl) gL_does_L_lay rfl ⟨rfl, rfl⟩ (by decide +kernel) rfl ⟨by decide, by decide⟩ rfl (Nat.le_of_ble_eq_true rfl) dL_does_142 ?_
      cases h
      exact bx_iret cx dL_does_145 rfl (Nat.le_of_ble_eq_true rfl) ⟨rfl, rfl⟩
    clear h
    have h := e35
    clear e35
    refine bx_if_ne cx 135 dL_does_128 (by decide) g29 (fun c30 => ?_) (fun c30 => ?_)
    · rw [if_pos c30] at h
      refine bx_iconst cx dL_does_131 ?_
      refine bx_goto cx 142 dL_does_132 (by decide) ?_
      refine bx_lv cx [] rfl ?_
      cases h
      exact J34
    · rw [if_neg c30] at h
      refine bx_iload cx 0 dL_does_135 rfl ?_
      refine bx_iconst cx dL_does_137 ?_
      obtain ⟨g31, h⟩ := gd_some h
      refine bx_idiv cx dL_does_138 ⟨g31, by decide, by decide⟩ ?_
      refine bx_bipush (z := 52) cx dL_does_139 (by decide) ?_
      obtain ⟨g32, h⟩ := gd_some h
      refine bx_irem cx dL_does_141 ⟨g32, by decide, by decide⟩ ?_
      refine bx_lv cx [] rfl ?_
      cases h
      exact J34
  rw [if_neg c6] at h
  by_cases c7 : x3 % 20 = 2
  · rw [if_pos c7] at h
    refine bx_tableIn (off := 101) cx 118 dL_does_17 g4 (by rw [c7]; decide) (by rw [c7]; decide) (by rw [c7]; rfl) (by decide) ?_
    refine bx_aload_n cx 2 dL_does_118 rfl rfl ?_
    refine bx_iload cx 1 dL_does_119 rfl ?_
    refine bx_bipush (z := 61) cx dL_does_121 (by decide) ?_
    obtain ⟨g38, h⟩ := gd_some h
    refine bx_irem cx dL_does_123 ⟨g38, by decide, by decide⟩ ?_
    refine bx_iload cx 0 dL_does_124 rfl ?_
    refine bx_iconst cx dL_does_126 ?_
    obtain ⟨g39, h⟩ := gd_some h
    refine bx_irem cx dL_does_127 ⟨g39, by decide, by decide⟩ ?_
    obtain ⟨g40, h⟩ := gd_some h
    obtain ⟨t44, e46, h⟩ := ob h
    have J45 : G (0, M) 142 [] [iV (t44), iV ((x3 / 20) % 61), .ref (ad 28)] := by
      obtain ⟨t47, e48, h⟩ := ob h
      refine bx_callHW (As := [.ref (ad 28), iV ((x3 / 20) % 61), iV (t44)]) (n := 3) (kk := 1) (st := []) cx (tL_lay_k l hl ad M ((x3 / 20) % 61) t44 _ e48) (Nat.le_of_ble_eq_true rfl) gL_does_L_lay rfl ⟨rfl, rfl⟩ (by decide +kernel) rfl ⟨by decide, by decide⟩ rfl (Nat.le_of_ble_eq_true rfl) dL_does_142 ?_
      cases h
      exact bx_iret cx dL_does_145 rfl (Nat.le_of_ble_eq_true rfl) ⟨rfl, rfl⟩
    clear h
    have h := e46
    clear e46
    refine bx_if_ne cx 135 dL_does_128 (by decide) g40 (fun c41 => ?_) (fun c41 => ?_)
    · rw [if_pos c41] at h
      refine bx_iconst cx dL_does_131 ?_
      refine bx_goto cx 142 dL_does_132 (by decide) ?_
      refine bx_lv cx [] rfl ?_
      cases h
      exact J45
    · rw [if_neg c41] at h
      refine bx_iload cx 0 dL_does_135 rfl ?_
      refine bx_iconst cx dL_does_137 ?_
      obtain ⟨g42, h⟩ := gd_some h
      refine bx_idiv cx dL_does_138 ⟨g42, by decide, by decide⟩ ?_
      refine bx_bipush (z := 52) cx dL_does_139 (by decide) ?_
      obtain ⟨g43, h⟩ := gd_some h
      refine bx_irem cx dL_does_141 ⟨g43, by decide, by decide⟩ ?_
      refine bx_lv cx [] rfl ?_
      cases h
      exact J45
  rw [if_neg c7] at h
  by_cases c8 : x3 % 20 = 3
  · rw [if_pos c8] at h
    refine bx_tableIn (off := 101) cx 118 dL_does_17 g4 (by rw [c8]; decide) (by rw [c8]; decide) (by rw [c8]; rfl) (by decide) ?_
    refine bx_aload_n cx 2 dL_does_118 rfl rfl ?_
    refine bx_iload cx 1 dL_does_119 rfl ?_
    refine bx_bipush (z := 61) cx dL_does_121 (by decide) ?_
    obtain ⟨g49, h⟩ := gd_some h
    refine bx_irem cx dL_does_123 ⟨g49, by decide, by decide⟩ ?_
    refine bx_iload cx 0 dL_does_124 rfl ?_
    refine bx_iconst cx dL_does_126 ?_
    obtain ⟨g50, h⟩ := gd_some h
    refine bx_irem cx dL_does_127 ⟨g50, by decide, by decide⟩ ?_
    obtain ⟨g51, h⟩ := gd_some h
    obtain ⟨t55, e57, h⟩ := ob h
    have J56 : G (0, M) 142 [] [iV (t55), iV ((x3 / 20) % 61), .ref (ad 28)] := by
      obtain ⟨t58, e59, h⟩ := ob h
      refine bx_callHW (As := [.ref (ad 28), iV ((x3 / 20) % 61), iV (t55)]) (n := 3) (kk := 1) (st := []) cx (tL_lay_k l hl ad M ((x3 / 20) % 61) t55 _ e59) (Nat.le_of_ble_eq_true rfl) gL_does_L_lay rfl ⟨rfl, rfl⟩ (by decide +kernel) rfl ⟨by decide, by decide⟩ rfl (Nat.le_of_ble_eq_true rfl) dL_does_142 ?_
      cases h
      exact bx_iret cx dL_does_145 rfl (Nat.le_of_ble_eq_true rfl) ⟨rfl, rfl⟩
    clear h
    have h := e57
    clear e57
    refine bx_if_ne cx 135 dL_does_128 (by decide) g51 (fun c52 => ?_) (fun c52 => ?_)
    · rw [if_pos c52] at h
      refine bx_iconst cx dL_does_131 ?_
      refine bx_goto cx 142 dL_does_132 (by decide) ?_
      refine bx_lv cx [] rfl ?_
      cases h
      exact J56
    · rw [if_neg c52] at h
      refine bx_iload cx 0 dL_does_135 rfl ?_
      refine bx_iconst cx dL_does_137 ?_
      obtain ⟨g53, h⟩ := gd_some h
      refine bx_idiv cx dL_does_138 ⟨g53, by decide, by decide⟩ ?_
      refine bx_bipush (z := 52) cx dL_does_139 (by decide) ?_
      obtain ⟨g54, h⟩ := gd_some h
      refine bx_irem cx dL_does_141 ⟨g54, by decide, by decide⟩ ?_
      refine bx_lv cx [] rfl ?_
      cases h
      exact J56
  rw [if_neg c8] at h
  by_cases c9 : x3 % 20 = 4
  · rw [if_pos c9] at h
    refine bx_tableIn (off := 129) cx 146 dL_does_17 g4 (by rw [c9]; decide) (by rw [c9]; decide) (by rw [c9]; rfl) (by decide) ?_
    refine bx_aload_n cx 2 dL_does_146 rfl rfl ?_
    refine bx_iload cx 1 dL_does_147 rfl ?_
    refine bx_bipush (z := 37) cx dL_does_149 (by decide) ?_
    obtain ⟨g60, h⟩ := gd_some h
    refine bx_irem cx dL_does_151 ⟨g60, by decide, by decide⟩ ?_
    obtain ⟨t61, e62, h⟩ := ob h
    refine bx_callHW (As := [.ref (ad 28), iV ((x3 / 20) % 37)]) (n := 2) (kk := 1) (st := []) cx (tL_town_k l hl ad M ((x3 / 20) % 37) _ e62) (Nat.le_of_ble_eq_true rfl) gL_does_L_town rfl ⟨rfl, rfl⟩ (by decide +kernel) rfl ⟨by decide, by decide⟩ rfl (Nat.le_of_ble_eq_true rfl) dL_does_152 ?_
    refine bx_istore (lv' := [(6, iV (t61.1)), (5, iV ((x3 / 20) / 40)), (4, iV (x3 / 20)), (0, .ref (ad 28)), (1, .ref (ad 21)), (2, .ref (ad 22)), (3, iV (x3))]) cx dL_does_155 (by decide) rfl ?_
    refine bx_aload_n cx 4 dL_does_157 rfl rfl ?_
    refine bx_iconst cx dL_does_158 ?_
    refine bx_dup2 cx dL_does_159 rfl rfl ?_
    refine bx_iald (n := 1) cx (by decide) rfl rfl ⟨by decide, by decide⟩ dL_does_160 ?_
    refine bx_iload cx 0 dL_does_161 rfl ?_
    obtain ⟨t63, e64, h⟩ := ob h
    refine bx_callH (As := [iV (t61.1)]) (n := 1) (kk := 0) (st := [iV (t61.2 21 (0 : Int).toNat), iV (0), .ref (ad 21)]) cx (kL_isRefused l hl ad t61.2 t61.1 _ e64) (Nat.le_of_ble_eq_true rfl) gL_does_L_isRefused rfl ⟨rfl, rfl⟩ (by decide +kernel) rfl ⟨by decide, by decide⟩ rfl (Nat.le_of_ble_eq_true rfl) dL_does_163 ?_
    obtain ⟨g65, h⟩ := gd_some h
    obtain ⟨t67, e69, h⟩ := ob h
    have J68 : G (1, t61.2) 174 [(6, iV (t61.1))] [iV (t67), iV (t61.2 21 (0 : Int).toNat), iV (0), .ref (ad 21)] := by
      refine bx_iadd cx dL_does_174 ?_
      refine bx_iast (n := 1) cx (by decide) rfl rfl ⟨by decide, by decide⟩ dL_does_175 ?_
      refine bx_iload cx 0 dL_does_176 rfl ?_
      cases h
      exact bx_iret cx dL_does_178 rfl (Nat.le_of_ble_eq_true rfl) ⟨rfl, rfl⟩
    clear h
    have h := e69
    clear e69
    refine bx_if_eq cx 173 dL_does_166 (by decide) g65 (fun c66 => ?_) (fun c66 => ?_)
    · rw [if_pos c66] at h
      refine bx_iconst cx dL_does_173 ?_
      refine bx_lv cx [0] rfl ?_
      cases h
      exact J68
    · rw [if_neg c66] at h
      refine bx_iconst cx dL_does_169 ?_
      refine bx_goto cx 174 dL_does_170 (by decide) ?_
      refine bx_lv cx [0] rfl ?_
      cases h
      exact J68
  rw [if_neg c9] at h
  by_cases c10 : x3 % 20 = 5
  · rw [if_pos c10] at h
    refine bx_tableIn (off := 129) cx 146 dL_does_17 g4 (by rw [c10]; decide) (by rw [c10]; decide) (by rw [c10]; rfl) (by decide) ?_
    refine bx_aload_n cx 2 dL_does_146 rfl rfl ?_
    refine bx_iload cx 1 dL_does_147 rfl ?_
    refine bx_bipush (z := 37) cx dL_does_149 (by decide) ?_
    obtain ⟨g70, h⟩ := gd_some h
    refine bx_irem cx dL_does_151 ⟨g70, by decide, by decide⟩ ?_
    obtain ⟨t71, e72, h⟩ := ob h
    refine bx_callHW (As := [.ref (ad 28), iV ((x3 / 20) % 37)]) (n := 2) (kk := 1) (st := []) cx (tL_town_k l hl ad M ((x3 / 20) % 37) _ e72) (Nat.le_of_ble_eq_true rfl) gL_does_L_town rfl ⟨rfl, rfl⟩ (by decide +kernel) rfl ⟨by decide, by decide⟩ rfl (Nat.le_of_ble_eq_true rfl) dL_does_152 ?_
    refine bx_istore (lv' := [(6, iV (t71.1)), (5, iV ((x3 / 20) / 40)), (4, iV (x3 / 20)), (0, .ref (ad 28)), (1, .ref (ad 21)), (2, .ref (ad 22)), (3, iV (x3))]) cx dL_does_155 (by decide) rfl ?_
    refine bx_aload_n cx 4 dL_does_157 rfl rfl ?_
    refine bx_iconst cx dL_does_158 ?_
    refine bx_dup2 cx dL_does_159 rfl rfl ?_
    refine bx_iald (n := 1) cx (by decide) rfl rfl ⟨by decide, by decide⟩ dL_does_160 ?_
    refine bx_iload cx 0 dL_does_161 rfl ?_
    obtain ⟨t73, e74, h⟩ := ob h
    refine bx_callH (As := [iV (t71.1)]) (n := 1) (kk := 0) (st := [iV (t71.2 21 (0 : Int).toNat), iV (0), .ref (ad 21)]) cx (kL_isRefused l hl ad t71.2 t71.1 _ e74) (Nat.le_of_ble_eq_true rfl) gL_does_L_isRefused rfl ⟨rfl, rfl⟩ (by decide +kernel) rfl ⟨by decide, by decide⟩ rfl (Nat.le_of_ble_eq_true rfl) dL_does_163 ?_
    obtain ⟨g75, h⟩ := gd_some h
    obtain ⟨t77, e79, h⟩ := ob h
    have J78 : G (1, t71.2) 174 [(6, iV (t71.1))] [iV (t77), iV (t71.2 21 (0 : Int).toNat), iV (0), .ref (ad 21)] := by
      refine bx_iadd cx dL_does_174 ?_
      refine bx_iast (n := 1) cx (by decide) rfl rfl ⟨by decide, by decide⟩ dL_does_175 ?_
      refine bx_iload cx 0 dL_does_176 rfl ?_
      cases h
      exact bx_iret cx dL_does_178 rfl (Nat.le_of_ble_eq_true rfl) ⟨rfl, rfl⟩
    clear h
    have h := e79
    clear e79
    refine bx_if_eq cx 173 dL_does_166 (by decide) g75 (fun c76 => ?_) (fun c76 => ?_)
    · rw [if_pos c76] at h
      refine bx_iconst cx dL_does_173 ?_
      refine bx_lv cx [0] rfl ?_
      cases h
      exact J78
    · rw [if_neg c76] at h
      refine bx_iconst cx dL_does_169 ?_
      refine bx_goto cx 174 dL_does_170 (by decide) ?_
      refine bx_lv cx [0] rfl ?_
      cases h
      exact J78
  rw [if_neg c10] at h
  by_cases c11 : x3 % 20 = 6
  · rw [if_pos c11] at h
    refine bx_tableIn (off := 129) cx 146 dL_does_17 g4 (by rw [c11]; decide) (by rw [c11]; decide) (by rw [c11]; rfl) (by decide) ?_
    refine bx_aload_n cx 2 dL_does_146 rfl rfl ?_
    refine bx_iload cx 1 dL_does_147 rfl ?_
    refine bx_bipush (z := 37) cx dL_does_149 (by decide) ?_
    obtain ⟨g80, h⟩ := gd_some h
    refine bx_irem cx dL_does_151 ⟨g80, by decide, by decide⟩ ?_
    obtain ⟨t81, e82, h⟩ := ob h
    refine bx_callHW (As := [.ref (ad 28), iV ((x3 / 20) % 37)]) (n := 2) (kk := 1) (st := []) cx (tL_town_k l hl ad M ((x3 / 20) % 37) _ e82) (Nat.le_of_ble_eq_true rfl) gL_does_L_town rfl ⟨rfl, rfl⟩ (by decide +kernel) rfl ⟨by decide, by decide⟩ rfl (Nat.le_of_ble_eq_true rfl) dL_does_152 ?_
    refine bx_istore (lv' := [(6, iV (t81.1)), (5, iV ((x3 / 20) / 40)), (4, iV (x3 / 20)), (0, .ref (ad 28)), (1, .ref (ad 21)), (2, .ref (ad 22)), (3, iV (x3))]) cx dL_does_155 (by decide) rfl ?_
    refine bx_aload_n cx 4 dL_does_157 rfl rfl ?_
    refine bx_iconst cx dL_does_158 ?_
    refine bx_dup2 cx dL_does_159 rfl rfl ?_
    refine bx_iald (n := 1) cx (by decide) rfl rfl ⟨by decide, by decide⟩ dL_does_160 ?_
    refine bx_iload cx 0 dL_does_161 rfl ?_
    obtain ⟨t83, e84, h⟩ := ob h
    refine bx_callH (As := [iV (t81.1)]) (n := 1) (kk := 0) (st := [iV (t81.2 21 (0 : Int).toNat), iV (0), .ref (ad 21)]) cx (kL_isRefused l hl ad t81.2 t81.1 _ e84) (Nat.le_of_ble_eq_true rfl) gL_does_L_isRefused rfl ⟨rfl, rfl⟩ (by decide +kernel) rfl ⟨by decide, by decide⟩ rfl (Nat.le_of_ble_eq_true rfl) dL_does_163 ?_
    obtain ⟨g85, h⟩ := gd_some h
    obtain ⟨t87, e89, h⟩ := ob h
    have J88 : G (1, t81.2) 174 [(6, iV (t81.1))] [iV (t87), iV (t81.2 21 (0 : Int).toNat), iV (0), .ref (ad 21)] := by
      refine bx_iadd cx dL_does_174 ?_
      refine bx_iast (n := 1) cx (by decide) rfl rfl ⟨by decide, by decide⟩ dL_does_175 ?_
      refine bx_iload cx 0 dL_does_176 rfl ?_
      cases h
      exact bx_iret cx dL_does_178 rfl (Nat.le_of_ble_eq_true rfl) ⟨rfl, rfl⟩
    clear h
    have h := e89
    clear e89
    refine bx_if_eq cx 173 dL_does_166 (by decide) g85 (fun c86 => ?_) (fun c86 => ?_)
    · rw [if_pos c86] at h
      refine bx_iconst cx dL_does_173 ?_
      refine bx_lv cx [0] rfl ?_
      cases h
      exact J88
    · rw [if_neg c86] at h
      refine bx_iconst cx dL_does_169 ?_
      refine bx_goto cx 174 dL_does_170 (by decide) ?_
      refine bx_lv cx [0] rfl ?_
      cases h
      exact J88
  rw [if_neg c11] at h
  by_cases c12 : x3 % 20 = 7
  · rw [if_pos c12] at h
    refine bx_tableIn (off := 162) cx 179 dL_does_17 g4 (by rw [c12]; decide) (by rw [c12]; decide) (by rw [c12]; rfl) (by decide) ?_
    refine bx_aload_n cx 2 dL_does_179 rfl rfl ?_
    refine bx_iload cx 1 dL_does_180 rfl ?_
    refine bx_bipush (z := 7) cx dL_does_182 (by decide) ?_
    obtain ⟨g90, h⟩ := gd_some h
    refine bx_irem cx dL_does_184 ⟨g90, by decide, by decide⟩ ?_
    obtain ⟨t91, e92, h⟩ := ob h
    refine bx_callHW (As := [.ref (ad 28), iV ((x3 / 20) % 7)]) (n := 2) (kk := 1) (st := []) cx (tL_away_k l hl ad M ((x3 / 20) % 7) _ e92) (Nat.le_of_ble_eq_true rfl) gL_does_L_away rfl ⟨rfl, rfl⟩ (by decide +kernel) rfl ⟨by decide, by decide⟩ rfl (Nat.le_of_ble_eq_true rfl) dL_does_185 ?_
    refine bx_istore (lv' := [(6, iV (t91.1)), (5, iV ((x3 / 20) / 40)), (4, iV (x3 / 20)), (0, .ref (ad 28)), (1, .ref (ad 21)), (2, .ref (ad 22)), (3, iV (x3))]) cx dL_does_188 (by decide) rfl ?_
    refine bx_aload_n cx 4 dL_does_190 rfl rfl ?_
    refine bx_iconst cx dL_does_191 ?_
    refine bx_dup2 cx dL_does_192 rfl rfl ?_
    refine bx_iald (n := 1) cx (by decide) rfl rfl ⟨by decide, by decide⟩ dL_does_193 ?_
    refine bx_iload cx 0 dL_does_194 rfl ?_
    obtain ⟨t93, e94, h⟩ := ob h
    refine bx_callH (As := [iV (t91.1)]) (n := 1) (kk := 0) (st := [iV (t91.2 21 (0 : Int).toNat), iV (0), .ref (ad 21)]) cx (kL_isRefused l hl ad t91.2 t91.1 _ e94) (Nat.le_of_ble_eq_true rfl) gL_does_L_isRefused rfl ⟨rfl, rfl⟩ (by decide +kernel) rfl ⟨by decide, by decide⟩ rfl (Nat.le_of_ble_eq_true rfl) dL_does_196 ?_
    obtain ⟨g95, h⟩ := gd_some h
    obtain ⟨t97, e99, h⟩ := ob h
    have J98 : G (1, t91.2) 207 [(6, iV (t91.1))] [iV (t97), iV (t91.2 21 (0 : Int).toNat), iV (0), .ref (ad 21)] := by
      refine bx_isub cx dL_does_207 ?_
      refine bx_iast (n := 1) cx (by decide) rfl rfl ⟨by decide, by decide⟩ dL_does_208 ?_
      refine bx_iload cx 0 dL_does_209 rfl ?_
      cases h
      exact bx_iret cx dL_does_211 rfl (Nat.le_of_ble_eq_true rfl) ⟨rfl, rfl⟩
    clear h
    have h := e99
    clear e99
    refine bx_if_eq cx 206 dL_does_199 (by decide) g95 (fun c96 => ?_) (fun c96 => ?_)
    · rw [if_pos c96] at h
      refine bx_iconst cx dL_does_206 ?_
      refine bx_lv cx [0] rfl ?_
      cases h
      exact J98
    · rw [if_neg c96] at h
      refine bx_iconst cx dL_does_202 ?_
      refine bx_goto cx 207 dL_does_203 (by decide) ?_
      refine bx_lv cx [0] rfl ?_
      cases h
      exact J98
  rw [if_neg c12] at h
  by_cases c13 : x3 % 20 = 8
  · rw [if_pos c13] at h
    refine bx_tableIn (off := 195) cx 212 dL_does_17 g4 (by rw [c13]; decide) (by rw [c13]; decide) (by rw [c13]; rfl) (by decide) ?_
    refine bx_aload_n cx 2 dL_does_212 rfl rfl ?_
    refine bx_iload cx 1 dL_does_213 rfl ?_
    refine bx_bipush (z := 37) cx dL_does_215 (by decide) ?_
    obtain ⟨g100, h⟩ := gd_some h
    refine bx_irem cx dL_does_217 ⟨g100, by decide, by decide⟩ ?_
    refine bx_iload cx 0 dL_does_218 rfl ?_
    refine bx_iconst cx dL_does_220 ?_
    obtain ⟨g101, h⟩ := gd_some h
    refine bx_irem cx dL_does_221 ⟨g101, by decide, by decide⟩ ?_
    obtain ⟨t102, e103, h⟩ := ob h
    refine bx_callHW (As := [.ref (ad 28), iV ((x3 / 20) % 37), iV (((x3 / 20) / 40) % 4)]) (n := 3) (kk := 1) (st := []) cx (tL_pin_k l hl ad M ((x3 / 20) % 37) (((x3 / 20) / 40) % 4) _ e103) (Nat.le_of_ble_eq_true rfl) gL_does_L_pin rfl ⟨rfl, rfl⟩ (by decide +kernel) rfl ⟨by decide, by decide⟩ rfl (Nat.le_of_ble_eq_true rfl) dL_does_222 ?_
    refine bx_istore (lv' := [(6, iV (t102.1)), (5, iV ((x3 / 20) / 40)), (4, iV (x3 / 20)), (0, .ref (ad 28)), (1, .ref (ad 21)), (2, .ref (ad 22)), (3, iV (x3))]) cx dL_does_225 (by decide) rfl ?_
    refine bx_iload cx 0 dL_does_227 rfl ?_
    obtain ⟨t104, e105, h⟩ := ob h
    refine bx_callH (As := [iV (t102.1)]) (n := 1) (kk := 0) (st := []) cx (kL_isRefused l hl ad t102.2 t102.1 _ e105) (Nat.le_of_ble_eq_true rfl) gL_does_L_isRefused rfl ⟨rfl, rfl⟩ (by decide +kernel) rfl ⟨by decide, by decide⟩ rfl (Nat.le_of_ble_eq_true rfl) dL_does_229 ?_
    obtain ⟨g106, h⟩ := gd_some h
    refine bx_if_ne cx 278 dL_does_232 (by decide) g106 (fun c107 => ?_) (fun c107 => ?_)
    · rw [if_pos c107] at h
      refine bx_aload_n cx 5 dL_does_235 rfl rfl ?_
      refine bx_iload cx 2 dL_does_236 rfl ?_
      refine bx_bipush (z := 37) cx dL_does_238 (by decide) ?_
      obtain ⟨g108, h⟩ := gd_some h
      refine bx_irem cx dL_does_240 ⟨g108, by decide, by decide⟩ ?_
      obtain ⟨g109, h⟩ := gd_some h
      refine bx_iald (n := 37) cx (by decide) rfl rfl g109 dL_does_241 ?_
      refine bx_iload cx 0 dL_does_242 rfl ?_
      obtain ⟨g110, h⟩ := gd_some h
      obtain ⟨g111, h⟩ := gd_some h
      obtain ⟨t113, e115, h⟩ := ob h
      have J114 : G (1, t102.2) 252 [(2, .ref (ad 22)), (4, iV (x3 / 20)), (5, iV ((x3 / 20) / 40)), (6, iV (t102.1))] [iV (t113)] := by
        refine bx_istore (lv' := [(7, iV (t113)), (2, .ref (ad 22)), (4, iV (x3 / 20)), (5, iV ((x3 / 20) / 40)), (6, iV (t102.1))]) cx dL_does_252 (by decide) rfl ?_
        refine bx_aload_n cx 1 dL_does_254 rfl rfl ?_
        refine bx_iload cx 2 dL_does_255 rfl ?_
        refine bx_bipush (z := 37) cx dL_does_257 (by decide) ?_
        obtain ⟨g116, h⟩ := gd_some h
        refine bx_irem cx dL_does_259 ⟨g116, by decide, by decide⟩ ?_
        refine bx_iload cx 3 dL_does_260 rfl ?_
        refine bx_iconst cx dL_does_262 ?_
        obtain ⟨g117, h⟩ := gd_some h
        refine bx_irem cx dL_does_263 ⟨g117, by decide, by decide⟩ ?_
        obtain ⟨g118, h⟩ := gd_some h
        refine bx_iast (n := 37) cx (by decide) rfl rfl g118 dL_does_264 ?_
        refine bx_iload cx 0 dL_does_265 rfl ?_
        obtain ⟨g119, h⟩ := gd_some h
        obtain ⟨t121, e123, h⟩ := ob h
        have J122 : G (1, (wr t102.2 22 ((x3 / 20) % 37).toNat (((x3 / 20) / 40) % 4))) 277 [] [iV (t121)] := by
          cases h
          exact bx_iret cx dL_does_277 rfl (Nat.le_of_ble_eq_true rfl) ⟨rfl, rfl⟩
        clear h
        have h := e123
        clear e123
        refine bx_if_eq cx 275 dL_does_267 (by decide) g119 (fun c120 => ?_) (fun c120 => ?_)
        · rw [if_pos c120] at h
          refine bx_bipush (z := (-9)) cx dL_does_275 (by decide) ?_
          refine bx_lv cx [] rfl ?_
          cases h
          exact J122
        · rw [if_neg c120] at h
          refine bx_iload cx 4 dL_does_270 rfl ?_
          refine bx_goto cx 277 dL_does_272 (by decide) ?_
          refine bx_lv cx [] rfl ?_
          cases h
          exact J122
      clear h
      have h := e115
      clear e115
      refine bx_icmp_ne cx 251 dL_does_244 (by decide) g110 g111 (fun c112 => ?_) (fun c112 => ?_)
      · rw [if_pos c112] at h
        refine bx_iconst cx dL_does_247 ?_
        refine bx_goto cx 252 dL_does_248 (by decide) ?_
        refine bx_lv cx [5, 2, 1, 0] rfl ?_
        cases h
        exact J114
      · rw [if_neg c112] at h
        refine bx_iconst cx dL_does_251 ?_
        refine bx_lv cx [5, 2, 1, 0] rfl ?_
        cases h
        exact J114
    · rw [if_neg c107] at h
      refine bx_iload cx 0 dL_does_278 rfl ?_
      cases h
      exact bx_iret cx dL_does_280 rfl (Nat.le_of_ble_eq_true rfl) ⟨rfl, rfl⟩
  rw [if_neg c13] at h
  by_cases c14 : x3 % 20 = 9
  · rw [if_pos c14] at h
    refine bx_tableIn (off := 195) cx 212 dL_does_17 g4 (by rw [c14]; decide) (by rw [c14]; decide) (by rw [c14]; rfl) (by decide) ?_
    refine bx_aload_n cx 2 dL_does_212 rfl rfl ?_
    refine bx_iload cx 1 dL_does_213 rfl ?_
    refine bx_bipush (z := 37) cx dL_does_215 (by decide) ?_
    obtain ⟨g124, h⟩ := gd_some h
    refine bx_irem cx dL_does_217 ⟨g124, by decide, by decide⟩ ?_
    refine bx_iload cx 0 dL_does_218 rfl ?_
    refine bx_iconst cx dL_does_220 ?_
    obtain ⟨g125, h⟩ := gd_some h
    refine bx_irem cx dL_does_221 ⟨g125, by decide, by decide⟩ ?_
    obtain ⟨t126, e127, h⟩ := ob h
    refine bx_callHW (As := [.ref (ad 28), iV ((x3 / 20) % 37), iV (((x3 / 20) / 40) % 4)]) (n := 3) (kk := 1) (st := []) cx (tL_pin_k l hl ad M ((x3 / 20) % 37) (((x3 / 20) / 40) % 4) _ e127) (Nat.le_of_ble_eq_true rfl) gL_does_L_pin rfl ⟨rfl, rfl⟩ (by decide +kernel) rfl ⟨by decide, by decide⟩ rfl (Nat.le_of_ble_eq_true rfl) dL_does_222 ?_
    refine bx_istore (lv' := [(6, iV (t126.1)), (5, iV ((x3 / 20) / 40)), (4, iV (x3 / 20)), (0, .ref (ad 28)), (1, .ref (ad 21)), (2, .ref (ad 22)), (3, iV (x3))]) cx dL_does_225 (by decide) rfl ?_
    refine bx_iload cx 0 dL_does_227 rfl ?_
    obtain ⟨t128, e129, h⟩ := ob h
    refine bx_callH (As := [iV (t126.1)]) (n := 1) (kk := 0) (st := []) cx (kL_isRefused l hl ad t126.2 t126.1 _ e129) (Nat.le_of_ble_eq_true rfl) gL_does_L_isRefused rfl ⟨rfl, rfl⟩ (by decide +kernel) rfl ⟨by decide, by decide⟩ rfl (Nat.le_of_ble_eq_true rfl) dL_does_229 ?_
    obtain ⟨g130, h⟩ := gd_some h
    refine bx_if_ne cx 278 dL_does_232 (by decide) g130 (fun c131 => ?_) (fun c131 => ?_)
    · rw [if_pos c131] at h
      refine bx_aload_n cx 5 dL_does_235 rfl rfl ?_
      refine bx_iload cx 2 dL_does_236 rfl ?_
      refine bx_bipush (z := 37) cx dL_does_238 (by decide) ?_
      obtain ⟨g132, h⟩ := gd_some h
      refine bx_irem cx dL_does_240 ⟨g132, by decide, by decide⟩ ?_
      obtain ⟨g133, h⟩ := gd_some h
      refine bx_iald (n := 37) cx (by decide) rfl rfl g133 dL_does_241 ?_
      refine bx_iload cx 0 dL_does_242 rfl ?_
      obtain ⟨g134, h⟩ := gd_some h
      obtain ⟨g135, h⟩ := gd_some h
      obtain ⟨t137, e139, h⟩ := ob h
      have J138 : G (1, t126.2) 252 [(2, .ref (ad 22)), (4, iV (x3 / 20)), (5, iV ((x3 / 20) / 40)), (6, iV (t126.1))] [iV (t137)] := by
        refine bx_istore (lv' := [(7, iV (t137)), (2, .ref (ad 22)), (4, iV (x3 / 20)), (5, iV ((x3 / 20) / 40)), (6, iV (t126.1))]) cx dL_does_252 (by decide) rfl ?_
        refine bx_aload_n cx 1 dL_does_254 rfl rfl ?_
        refine bx_iload cx 2 dL_does_255 rfl ?_
        refine bx_bipush (z := 37) cx dL_does_257 (by decide) ?_
        obtain ⟨g140, h⟩ := gd_some h
        refine bx_irem cx dL_does_259 ⟨g140, by decide, by decide⟩ ?_
        refine bx_iload cx 3 dL_does_260 rfl ?_
        refine bx_iconst cx dL_does_262 ?_
        obtain ⟨g141, h⟩ := gd_some h
        refine bx_irem cx dL_does_263 ⟨g141, by decide, by decide⟩ ?_
        obtain ⟨g142, h⟩ := gd_some h
        refine bx_iast (n := 37) cx (by decide) rfl rfl g142 dL_does_264 ?_
        refine bx_iload cx 0 dL_does_265 rfl ?_
        obtain ⟨g143, h⟩ := gd_some h
        obtain ⟨t145, e147, h⟩ := ob h
        have J146 : G (1, (wr t126.2 22 ((x3 / 20) % 37).toNat (((x3 / 20) / 40) % 4))) 277 [] [iV (t145)] := by
          cases h
          exact bx_iret cx dL_does_277 rfl (Nat.le_of_ble_eq_true rfl) ⟨rfl, rfl⟩
        clear h
        have h := e147
        clear e147
        refine bx_if_eq cx 275 dL_does_267 (by decide) g143 (fun c144 => ?_) (fun c144 => ?_)
        · rw [if_pos c144] at h
          refine bx_bipush (z := (-9)) cx dL_does_275 (by decide) ?_
          refine bx_lv cx [] rfl ?_
          cases h
          exact J146
        · rw [if_neg c144] at h
          refine bx_iload cx 4 dL_does_270 rfl ?_
          refine bx_goto cx 277 dL_does_272 (by decide) ?_
          refine bx_lv cx [] rfl ?_
          cases h
          exact J146
      clear h
      have h := e139
      clear e139
      refine bx_icmp_ne cx 251 dL_does_244 (by decide) g134 g135 (fun c136 => ?_) (fun c136 => ?_)
      · rw [if_pos c136] at h
        refine bx_iconst cx dL_does_247 ?_
        refine bx_goto cx 252 dL_does_248 (by decide) ?_
        refine bx_lv cx [5, 2, 1, 0] rfl ?_
        cases h
        exact J138
      · rw [if_neg c136] at h
        refine bx_iconst cx dL_does_251 ?_
        refine bx_lv cx [5, 2, 1, 0] rfl ?_
        cases h
        exact J138
    · rw [if_neg c131] at h
      refine bx_iload cx 0 dL_does_278 rfl ?_
      cases h
      exact bx_iret cx dL_does_280 rfl (Nat.le_of_ble_eq_true rfl) ⟨rfl, rfl⟩
  rw [if_neg c14] at h
  by_cases c15 : x3 % 20 = 10
  · rw [if_pos c15] at h
    refine bx_tableIn (off := 195) cx 212 dL_does_17 g4 (by rw [c15]; decide) (by rw [c15]; decide) (by rw [c15]; rfl) (by decide) ?_
    refine bx_aload_n cx 2 dL_does_212 rfl rfl ?_
    refine bx_iload cx 1 dL_does_213 rfl ?_
    refine bx_bipush (z := 37) cx dL_does_215 (by decide) ?_
    obtain ⟨g148, h⟩ := gd_some h
    refine bx_irem cx dL_does_217 ⟨g148, by decide, by decide⟩ ?_
    refine bx_iload cx 0 dL_does_218 rfl ?_
    refine bx_iconst cx dL_does_220 ?_
    obtain ⟨g149, h⟩ := gd_some h
    refine bx_irem cx dL_does_221 ⟨g149, by decide, by decide⟩ ?_
    obtain ⟨t150, e151, h⟩ := ob h
    refine bx_callHW (As := [.ref (ad 28), iV ((x3 / 20) % 37), iV (((x3 / 20) / 40) % 4)]) (n := 3) (kk := 1) (st := []) cx (tL_pin_k l hl ad M ((x3 / 20) % 37) (((x3 / 20) / 40) % 4) _ e151) (Nat.le_of_ble_eq_true rfl) gL_does_L_pin rfl ⟨rfl, rfl⟩ (by decide +kernel) rfl ⟨by decide, by decide⟩ rfl (Nat.le_of_ble_eq_true rfl) dL_does_222 ?_
    refine bx_istore (lv' := [(6, iV (t150.1)), (5, iV ((x3 / 20) / 40)), (4, iV (x3 / 20)), (0, .ref (ad 28)), (1, .ref (ad 21)), (2, .ref (ad 22)), (3, iV (x3))]) cx dL_does_225 (by decide) rfl ?_
    refine bx_iload cx 0 dL_does_227 rfl ?_
    obtain ⟨t152, e153, h⟩ := ob h
    refine bx_callH (As := [iV (t150.1)]) (n := 1) (kk := 0) (st := []) cx (kL_isRefused l hl ad t150.2 t150.1 _ e153) (Nat.le_of_ble_eq_true rfl) gL_does_L_isRefused rfl ⟨rfl, rfl⟩ (by decide +kernel) rfl ⟨by decide, by decide⟩ rfl (Nat.le_of_ble_eq_true rfl) dL_does_229 ?_
    obtain ⟨g154, h⟩ := gd_some h
    refine bx_if_ne cx 278 dL_does_232 (by decide) g154 (fun c155 => ?_) (fun c155 => ?_)
    · rw [if_pos c155] at h
      refine bx_aload_n cx 5 dL_does_235 rfl rfl ?_
      refine bx_iload cx 2 dL_does_236 rfl ?_
      refine bx_bipush (z := 37) cx dL_does_238 (by decide) ?_
      obtain ⟨g156, h⟩ := gd_some h
      refine bx_irem cx dL_does_240 ⟨g156, by decide, by decide⟩ ?_
      obtain ⟨g157, h⟩ := gd_some h
      refine bx_iald (n := 37) cx (by decide) rfl rfl g157 dL_does_241 ?_
      refine bx_iload cx 0 dL_does_242 rfl ?_
      obtain ⟨g158, h⟩ := gd_some h
      obtain ⟨g159, h⟩ := gd_some h
      obtain ⟨t161, e163, h⟩ := ob h
      have J162 : G (1, t150.2) 252 [(2, .ref (ad 22)), (4, iV (x3 / 20)), (5, iV ((x3 / 20) / 40)), (6, iV (t150.1))] [iV (t161)] := by
        refine bx_istore (lv' := [(7, iV (t161)), (2, .ref (ad 22)), (4, iV (x3 / 20)), (5, iV ((x3 / 20) / 40)), (6, iV (t150.1))]) cx dL_does_252 (by decide) rfl ?_
        refine bx_aload_n cx 1 dL_does_254 rfl rfl ?_
        refine bx_iload cx 2 dL_does_255 rfl ?_
        refine bx_bipush (z := 37) cx dL_does_257 (by decide) ?_
        obtain ⟨g164, h⟩ := gd_some h
        refine bx_irem cx dL_does_259 ⟨g164, by decide, by decide⟩ ?_
        refine bx_iload cx 3 dL_does_260 rfl ?_
        refine bx_iconst cx dL_does_262 ?_
        obtain ⟨g165, h⟩ := gd_some h
        refine bx_irem cx dL_does_263 ⟨g165, by decide, by decide⟩ ?_
        obtain ⟨g166, h⟩ := gd_some h
        refine bx_iast (n := 37) cx (by decide) rfl rfl g166 dL_does_264 ?_
        refine bx_iload cx 0 dL_does_265 rfl ?_
        obtain ⟨g167, h⟩ := gd_some h
        obtain ⟨t169, e171, h⟩ := ob h
        have J170 : G (1, (wr t150.2 22 ((x3 / 20) % 37).toNat (((x3 / 20) / 40) % 4))) 277 [] [iV (t169)] := by
          cases h
          exact bx_iret cx dL_does_277 rfl (Nat.le_of_ble_eq_true rfl) ⟨rfl, rfl⟩
        clear h
        have h := e171
        clear e171
        refine bx_if_eq cx 275 dL_does_267 (by decide) g167 (fun c168 => ?_) (fun c168 => ?_)
        · rw [if_pos c168] at h
          refine bx_bipush (z := (-9)) cx dL_does_275 (by decide) ?_
          refine bx_lv cx [] rfl ?_
          cases h
          exact J170
        · rw [if_neg c168] at h
          refine bx_iload cx 4 dL_does_270 rfl ?_
          refine bx_goto cx 277 dL_does_272 (by decide) ?_
          refine bx_lv cx [] rfl ?_
          cases h
          exact J170
      clear h
      have h := e163
      clear e163
      refine bx_icmp_ne cx 251 dL_does_244 (by decide) g158 g159 (fun c160 => ?_) (fun c160 => ?_)
      · rw [if_pos c160] at h
        refine bx_iconst cx dL_does_247 ?_
        refine bx_goto cx 252 dL_does_248 (by decide) ?_
        refine bx_lv cx [5, 2, 1, 0] rfl ?_
        cases h
        exact J162
      · rw [if_neg c160] at h
        refine bx_iconst cx dL_does_251 ?_
        refine bx_lv cx [5, 2, 1, 0] rfl ?_
        cases h
        exact J162
    · rw [if_neg c155] at h
      refine bx_iload cx 0 dL_does_278 rfl ?_
      cases h
      exact bx_iret cx dL_does_280 rfl (Nat.le_of_ble_eq_true rfl) ⟨rfl, rfl⟩
  rw [if_neg c15] at h
  by_cases c16 : x3 % 20 = 11
  · rw [if_pos c16] at h
    refine bx_tableIn (off := 264) cx 281 dL_does_17 g4 (by rw [c16]; decide) (by rw [c16]; decide) (by rw [c16]; rfl) (by decide) ?_
    refine bx_aload_n cx 2 dL_does_281 rfl rfl ?_
    refine bx_iload cx 1 dL_does_282 rfl ?_
    refine bx_bipush (z := 37) cx dL_does_284 (by decide) ?_
    obtain ⟨g172, h⟩ := gd_some h
    refine bx_irem cx dL_does_286 ⟨g172, by decide, by decide⟩ ?_
    refine bx_iload cx 0 dL_does_287 rfl ?_
    refine bx_iconst cx dL_does_289 ?_
    obtain ⟨g173, h⟩ := gd_some h
    refine bx_irem cx dL_does_290 ⟨g173, by decide, by decide⟩ ?_
    obtain ⟨g174, h⟩ := gd_some h
    obtain ⟨t180, e182, h⟩ := ob h
    have J181 : G (0, M) 310 [] [iV (t180), iV ((x3 / 20) % 37), .ref (ad 28)] := by
      obtain ⟨t183, e184, h⟩ := ob h
      refine bx_callHW (As := [.ref (ad 28), iV ((x3 / 20) % 37), iV (t180)]) (n := 3) (kk := 1) (st := []) cx (tL_pull_k l hl ad M ((x3 / 20) % 37) t180 _ e184) (Nat.le_of_ble_eq_true rfl) gL_does_L_pull rfl ⟨rfl, rfl⟩ (by decide +kernel) rfl ⟨by decide, by decide⟩ rfl (Nat.le_of_ble_eq_true rfl) dL_does_310 ?_
      cases h
      exact bx_iret cx dL_does_313 rfl (Nat.le_of_ble_eq_true rfl) ⟨rfl, rfl⟩
    clear h
    have h := e182
    clear e182
    refine bx_if_ne cx 304 dL_does_291 (by decide) g174 (fun c175 => ?_) (fun c175 => ?_)
    · rw [if_pos c175] at h
      refine bx_iload cx 0 dL_does_294 rfl ?_
      refine bx_iconst cx dL_does_296 ?_
      obtain ⟨g176, h⟩ := gd_some h
      refine bx_idiv cx dL_does_297 ⟨g176, by decide, by decide⟩ ?_
      refine bx_bipush (z := 9) cx dL_does_298 (by decide) ?_
      obtain ⟨g177, h⟩ := gd_some h
      refine bx_irem cx dL_does_300 ⟨g177, by decide, by decide⟩ ?_
      refine bx_goto cx 310 dL_does_301 (by decide) ?_
      refine bx_lv cx [] rfl ?_
      cases h
      exact J181
    · rw [if_neg c175] at h
      refine bx_iload cx 0 dL_does_304 rfl ?_
      refine bx_iconst cx dL_does_306 ?_
      obtain ⟨g178, h⟩ := gd_some h
      refine bx_idiv cx dL_does_307 ⟨g178, by decide, by decide⟩ ?_
      refine bx_iconst cx dL_does_308 ?_
      obtain ⟨g179, h⟩ := gd_some h
      refine bx_irem cx dL_does_309 ⟨g179, by decide, by decide⟩ ?_
      refine bx_lv cx [] rfl ?_
      cases h
      exact J181
  rw [if_neg c16] at h
  by_cases c17 : x3 % 20 = 12
  · rw [if_pos c17] at h
    refine bx_tableIn (off := 264) cx 281 dL_does_17 g4 (by rw [c17]; decide) (by rw [c17]; decide) (by rw [c17]; rfl) (by decide) ?_
    refine bx_aload_n cx 2 dL_does_281 rfl rfl ?_
    refine bx_iload cx 1 dL_does_282 rfl ?_
    refine bx_bipush (z := 37) cx dL_does_284 (by decide) ?_
    obtain ⟨g185, h⟩ := gd_some h
    refine bx_irem cx dL_does_286 ⟨g185, by decide, by decide⟩ ?_
    refine bx_iload cx 0 dL_does_287 rfl ?_
    refine bx_iconst cx dL_does_289 ?_
    obtain ⟨g186, h⟩ := gd_some h
    refine bx_irem cx dL_does_290 ⟨g186, by decide, by decide⟩ ?_
    obtain ⟨g187, h⟩ := gd_some h
    obtain ⟨t193, e195, h⟩ := ob h
    have J194 : G (0, M) 310 [] [iV (t193), iV ((x3 / 20) % 37), .ref (ad 28)] := by
      obtain ⟨t196, e197, h⟩ := ob h
      refine bx_callHW (As := [.ref (ad 28), iV ((x3 / 20) % 37), iV (t193)]) (n := 3) (kk := 1) (st := []) cx (tL_pull_k l hl ad M ((x3 / 20) % 37) t193 _ e197) (Nat.le_of_ble_eq_true rfl) gL_does_L_pull rfl ⟨rfl, rfl⟩ (by decide +kernel) rfl ⟨by decide, by decide⟩ rfl (Nat.le_of_ble_eq_true rfl) dL_does_310 ?_
      cases h
      exact bx_iret cx dL_does_313 rfl (Nat.le_of_ble_eq_true rfl) ⟨rfl, rfl⟩
    clear h
    have h := e195
    clear e195
    refine bx_if_ne cx 304 dL_does_291 (by decide) g187 (fun c188 => ?_) (fun c188 => ?_)
    · rw [if_pos c188] at h
      refine bx_iload cx 0 dL_does_294 rfl ?_
      refine bx_iconst cx dL_does_296 ?_
      obtain ⟨g189, h⟩ := gd_some h
      refine bx_idiv cx dL_does_297 ⟨g189, by decide, by decide⟩ ?_
      refine bx_bipush (z := 9) cx dL_does_298 (by decide) ?_
      obtain ⟨g190, h⟩ := gd_some h
      refine bx_irem cx dL_does_300 ⟨g190, by decide, by decide⟩ ?_
      refine bx_goto cx 310 dL_does_301 (by decide) ?_
      refine bx_lv cx [] rfl ?_
      cases h
      exact J194
    · rw [if_neg c188] at h
      refine bx_iload cx 0 dL_does_304 rfl ?_
      refine bx_iconst cx dL_does_306 ?_
      obtain ⟨g191, h⟩ := gd_some h
      refine bx_idiv cx dL_does_307 ⟨g191, by decide, by decide⟩ ?_
      refine bx_iconst cx dL_does_308 ?_
      obtain ⟨g192, h⟩ := gd_some h
      refine bx_irem cx dL_does_309 ⟨g192, by decide, by decide⟩ ?_
      refine bx_lv cx [] rfl ?_
      cases h
      exact J194
  rw [if_neg c17] at h
  by_cases c18 : x3 % 20 = 13
  · rw [if_pos c18] at h
    refine bx_tableIn (off := 264) cx 281 dL_does_17 g4 (by rw [c18]; decide) (by rw [c18]; decide) (by rw [c18]; rfl) (by decide) ?_
    refine bx_aload_n cx 2 dL_does_281 rfl rfl ?_
    refine bx_iload cx 1 dL_does_282 rfl ?_
    refine bx_bipush (z := 37) cx dL_does_284 (by decide) ?_
    obtain ⟨g198, h⟩ := gd_some h
    refine bx_irem cx dL_does_286 ⟨g198, by decide, by decide⟩ ?_
    refine bx_iload cx 0 dL_does_287 rfl ?_
    refine bx_iconst cx dL_does_289 ?_
    obtain ⟨g199, h⟩ := gd_some h
    refine bx_irem cx dL_does_290 ⟨g199, by decide, by decide⟩ ?_
    obtain ⟨g200, h⟩ := gd_some h
    obtain ⟨t206, e208, h⟩ := ob h
    have J207 : G (0, M) 310 [] [iV (t206), iV ((x3 / 20) % 37), .ref (ad 28)] := by
      obtain ⟨t209, e210, h⟩ := ob h
      refine bx_callHW (As := [.ref (ad 28), iV ((x3 / 20) % 37), iV (t206)]) (n := 3) (kk := 1) (st := []) cx (tL_pull_k l hl ad M ((x3 / 20) % 37) t206 _ e210) (Nat.le_of_ble_eq_true rfl) gL_does_L_pull rfl ⟨rfl, rfl⟩ (by decide +kernel) rfl ⟨by decide, by decide⟩ rfl (Nat.le_of_ble_eq_true rfl) dL_does_310 ?_
      cases h
      exact bx_iret cx dL_does_313 rfl (Nat.le_of_ble_eq_true rfl) ⟨rfl, rfl⟩
    clear h
    have h := e208
    clear e208
    refine bx_if_ne cx 304 dL_does_291 (by decide) g200 (fun c201 => ?_) (fun c201 => ?_)
    · rw [if_pos c201] at h
      refine bx_iload cx 0 dL_does_294 rfl ?_
      refine bx_iconst cx dL_does_296 ?_
      obtain ⟨g202, h⟩ := gd_some h
      refine bx_idiv cx dL_does_297 ⟨g202, by decide, by decide⟩ ?_
      refine bx_bipush (z := 9) cx dL_does_298 (by decide) ?_
      obtain ⟨g203, h⟩ := gd_some h
      refine bx_irem cx dL_does_300 ⟨g203, by decide, by decide⟩ ?_
      refine bx_goto cx 310 dL_does_301 (by decide) ?_
      refine bx_lv cx [] rfl ?_
      cases h
      exact J207
    · rw [if_neg c201] at h
      refine bx_iload cx 0 dL_does_304 rfl ?_
      refine bx_iconst cx dL_does_306 ?_
      obtain ⟨g204, h⟩ := gd_some h
      refine bx_idiv cx dL_does_307 ⟨g204, by decide, by decide⟩ ?_
      refine bx_iconst cx dL_does_308 ?_
      obtain ⟨g205, h⟩ := gd_some h
      refine bx_irem cx dL_does_309 ⟨g205, by decide, by decide⟩ ?_
      refine bx_lv cx [] rfl ?_
      cases h
      exact J207
  rw [if_neg c18] at h
  by_cases c19 : x3 % 20 = 14
  · rw [if_pos c19] at h
    refine bx_tableIn (off := 264) cx 281 dL_does_17 g4 (by rw [c19]; decide) (by rw [c19]; decide) (by rw [c19]; rfl) (by decide) ?_
    refine bx_aload_n cx 2 dL_does_281 rfl rfl ?_
    refine bx_iload cx 1 dL_does_282 rfl ?_
    refine bx_bipush (z := 37) cx dL_does_284 (by decide) ?_
    obtain ⟨g211, h⟩ := gd_some h
    refine bx_irem cx dL_does_286 ⟨g211, by decide, by decide⟩ ?_
    refine bx_iload cx 0 dL_does_287 rfl ?_
    refine bx_iconst cx dL_does_289 ?_
    obtain ⟨g212, h⟩ := gd_some h
    refine bx_irem cx dL_does_290 ⟨g212, by decide, by decide⟩ ?_
    obtain ⟨g213, h⟩ := gd_some h
    obtain ⟨t219, e221, h⟩ := ob h
    have J220 : G (0, M) 310 [] [iV (t219), iV ((x3 / 20) % 37), .ref (ad 28)] := by
      obtain ⟨t222, e223, h⟩ := ob h
      refine bx_callHW (As := [.ref (ad 28), iV ((x3 / 20) % 37), iV (t219)]) (n := 3) (kk := 1) (st := []) cx (tL_pull_k l hl ad M ((x3 / 20) % 37) t219 _ e223) (Nat.le_of_ble_eq_true rfl) gL_does_L_pull rfl ⟨rfl, rfl⟩ (by decide +kernel) rfl ⟨by decide, by decide⟩ rfl (Nat.le_of_ble_eq_true rfl) dL_does_310 ?_
      cases h
      exact bx_iret cx dL_does_313 rfl (Nat.le_of_ble_eq_true rfl) ⟨rfl, rfl⟩
    clear h
    have h := e221
    clear e221
    refine bx_if_ne cx 304 dL_does_291 (by decide) g213 (fun c214 => ?_) (fun c214 => ?_)
    · rw [if_pos c214] at h
      refine bx_iload cx 0 dL_does_294 rfl ?_
      refine bx_iconst cx dL_does_296 ?_
      obtain ⟨g215, h⟩ := gd_some h
      refine bx_idiv cx dL_does_297 ⟨g215, by decide, by decide⟩ ?_
      refine bx_bipush (z := 9) cx dL_does_298 (by decide) ?_
      obtain ⟨g216, h⟩ := gd_some h
      refine bx_irem cx dL_does_300 ⟨g216, by decide, by decide⟩ ?_
      refine bx_goto cx 310 dL_does_301 (by decide) ?_
      refine bx_lv cx [] rfl ?_
      cases h
      exact J220
    · rw [if_neg c214] at h
      refine bx_iload cx 0 dL_does_304 rfl ?_
      refine bx_iconst cx dL_does_306 ?_
      obtain ⟨g217, h⟩ := gd_some h
      refine bx_idiv cx dL_does_307 ⟨g217, by decide, by decide⟩ ?_
      refine bx_iconst cx dL_does_308 ?_
      obtain ⟨g218, h⟩ := gd_some h
      refine bx_irem cx dL_does_309 ⟨g218, by decide, by decide⟩ ?_
      refine bx_lv cx [] rfl ?_
      cases h
      exact J220
  rw [if_neg c19] at h
  by_cases c20 : x3 % 20 = 15
  · rw [if_pos c20] at h
    refine bx_tableIn (off := 264) cx 281 dL_does_17 g4 (by rw [c20]; decide) (by rw [c20]; decide) (by rw [c20]; rfl) (by decide) ?_
    refine bx_aload_n cx 2 dL_does_281 rfl rfl ?_
    refine bx_iload cx 1 dL_does_282 rfl ?_
    refine bx_bipush (z := 37) cx dL_does_284 (by decide) ?_
    obtain ⟨g224, h⟩ := gd_some h
    refine bx_irem cx dL_does_286 ⟨g224, by decide, by decide⟩ ?_
    refine bx_iload cx 0 dL_does_287 rfl ?_
    refine bx_iconst cx dL_does_289 ?_
    obtain ⟨g225, h⟩ := gd_some h
    refine bx_irem cx dL_does_290 ⟨g225, by decide, by decide⟩ ?_
    obtain ⟨g226, h⟩ := gd_some h
    obtain ⟨t232, e234, h⟩ := ob h
    have J233 : G (0, M) 310 [] [iV (t232), iV ((x3 / 20) % 37), .ref (ad 28)] := by
      obtain ⟨t235, e236, h⟩ := ob h
      refine bx_callHW (As := [.ref (ad 28), iV ((x3 / 20) % 37), iV (t232)]) (n := 3) (kk := 1) (st := []) cx (tL_pull_k l hl ad M ((x3 / 20) % 37) t232 _ e236) (Nat.le_of_ble_eq_true rfl) gL_does_L_pull rfl ⟨rfl, rfl⟩ (by decide +kernel) rfl ⟨by decide, by decide⟩ rfl (Nat.le_of_ble_eq_true rfl) dL_does_310 ?_
      cases h
      exact bx_iret cx dL_does_313 rfl (Nat.le_of_ble_eq_true rfl) ⟨rfl, rfl⟩
    clear h
    have h := e234
    clear e234
    refine bx_if_ne cx 304 dL_does_291 (by decide) g226 (fun c227 => ?_) (fun c227 => ?_)
    · rw [if_pos c227] at h
      refine bx_iload cx 0 dL_does_294 rfl ?_
      refine bx_iconst cx dL_does_296 ?_
      obtain ⟨g228, h⟩ := gd_some h
      refine bx_idiv cx dL_does_297 ⟨g228, by decide, by decide⟩ ?_
      refine bx_bipush (z := 9) cx dL_does_298 (by decide) ?_
      obtain ⟨g229, h⟩ := gd_some h
      refine bx_irem cx dL_does_300 ⟨g229, by decide, by decide⟩ ?_
      refine bx_goto cx 310 dL_does_301 (by decide) ?_
      refine bx_lv cx [] rfl ?_
      cases h
      exact J233
    · rw [if_neg c227] at h
      refine bx_iload cx 0 dL_does_304 rfl ?_
      refine bx_iconst cx dL_does_306 ?_
      obtain ⟨g230, h⟩ := gd_some h
      refine bx_idiv cx dL_does_307 ⟨g230, by decide, by decide⟩ ?_
      refine bx_iconst cx dL_does_308 ?_
      obtain ⟨g231, h⟩ := gd_some h
      refine bx_irem cx dL_does_309 ⟨g231, by decide, by decide⟩ ?_
      refine bx_lv cx [] rfl ?_
      cases h
      exact J233
  rw [if_neg c20] at h
  by_cases c21 : x3 % 20 = 16
  · rw [if_pos c21] at h
    refine bx_tableIn (off := 297) cx 314 dL_does_17 g4 (by rw [c21]; decide) (by rw [c21]; decide) (by rw [c21]; rfl) (by decide) ?_
    refine bx_aload_n cx 2 dL_does_314 rfl rfl ?_
    refine bx_iload cx 1 dL_does_315 rfl ?_
    refine bx_bipush (z := 9) cx dL_does_317 (by decide) ?_
    obtain ⟨g237, h⟩ := gd_some h
    refine bx_irem cx dL_does_319 ⟨g237, by decide, by decide⟩ ?_
    refine bx_iload cx 0 dL_does_320 rfl ?_
    refine bx_iconst cx dL_does_322 ?_
    obtain ⟨g238, h⟩ := gd_some h
    refine bx_irem cx dL_does_323 ⟨g238, by decide, by decide⟩ ?_
    obtain ⟨g239, h⟩ := gd_some h
    obtain ⟨t241, e243, h⟩ := ob h
    have J242 : G (0, M) 332 [] [iV (t241), iV ((x3 / 20) % 9), .ref (ad 28)] := by
      obtain ⟨t244, e245, h⟩ := ob h
      refine bx_callHW (As := [.ref (ad 28), iV ((x3 / 20) % 9), iV (t241)]) (n := 3) (kk := 1) (st := []) cx (tL_hold_k l hl ad M ((x3 / 20) % 9) t241 _ e245) (Nat.le_of_ble_eq_true rfl) gL_does_L_hold rfl ⟨rfl, rfl⟩ (by decide +kernel) rfl ⟨by decide, by decide⟩ rfl (Nat.le_of_ble_eq_true rfl) dL_does_332 ?_
      cases h
      exact bx_iret cx dL_does_335 rfl (Nat.le_of_ble_eq_true rfl) ⟨rfl, rfl⟩
    clear h
    have h := e243
    clear e243
    refine bx_if_ne cx 331 dL_does_324 (by decide) g239 (fun c240 => ?_) (fun c240 => ?_)
    · rw [if_pos c240] at h
      refine bx_iconst cx dL_does_327 ?_
      refine bx_goto cx 332 dL_does_328 (by decide) ?_
      refine bx_lv cx [] rfl ?_
      cases h
      exact J242
    · rw [if_neg c240] at h
      refine bx_iconst cx dL_does_331 ?_
      refine bx_lv cx [] rfl ?_
      cases h
      exact J242
  rw [if_neg c21] at h
  by_cases c22 : x3 % 20 = 17
  · rw [if_pos c22] at h
    refine bx_tableIn (off := 319) cx 336 dL_does_17 g4 (by rw [c22]; decide) (by rw [c22]; decide) (by rw [c22]; rfl) (by decide) ?_
    refine bx_aload_n cx 2 dL_does_336 rfl rfl ?_
    refine bx_ldc2 (v := -1) cx dL_does_337 hw_L_does_k146 ?_
    refine bx_iload cx 1 dL_does_340 rfl ?_
    refine bx_i2l cx dL_does_342 ?_
    refine bx_lsub cx dL_does_343 ?_
    obtain ⟨t246, e247, h⟩ := ob h
    refine bx_callHW (As := [.ref (ad 28), .long (((-1)) - ((Int32.ofInt (x3 / 20)).toInt64))]) (n := 2) (kk := 1) (st := []) cx (tL_costOf_k l hl ad M (((-1)) - ((Int32.ofInt (x3 / 20)).toInt64)) _ e247) (Nat.le_of_ble_eq_true rfl) gL_does_L_costOf rfl ⟨rfl, rfl⟩ (by decide +kernel) rfl ⟨by decide, by decide⟩ rfl (Nat.le_of_ble_eq_true rfl) dL_does_344 ?_
    obtain ⟨t248, e249, h⟩ := ob h
    refine bx_callH (As := [iV (t246)]) (n := 1) (kk := 0) (st := []) cx (kL_isRefused l hl ad M t246 _ e249) (Nat.le_of_ble_eq_true rfl) gL_does_L_isRefused rfl ⟨rfl, rfl⟩ (by decide +kernel) rfl ⟨by decide, by decide⟩ rfl (Nat.le_of_ble_eq_true rfl) dL_does_347 ?_
    obtain ⟨g250, h⟩ := gd_some h
    obtain ⟨t258, e260, h⟩ := ob h
    have J259 : G (2, M) 376 [] [iV (t258)] := by
      cases h
      exact bx_iret cx dL_does_376 rfl (Nat.le_of_ble_eq_true rfl) ⟨rfl, rfl⟩
    clear h
    have h := e260
    clear e260
    refine bx_if_eq cx 374 dL_does_350 (by decide) g250 (fun c251 => ?_) (fun c251 => ?_)
    · rw [if_pos c251] at h
      refine bx_bipush (z := (-9)) cx dL_does_374 (by decide) ?_
      refine bx_lv cx [] rfl ?_
      refine bx_widen cx 2 (Nat.le_of_ble_eq_true rfl) ?_
      cases h
      exact J259
    · rw [if_neg c251] at h
      refine bx_aload_n cx 2 dL_does_353 rfl rfl ?_
      refine bx_ldc2 (v := 68719476736) cx dL_does_354 hw_L_does_k179 ?_
      refine bx_iload cx 1 dL_does_357 rfl ?_
      refine bx_i2l cx dL_does_359 ?_
      refine bx_ladd cx dL_does_360 ?_
      obtain ⟨t252, e253, h⟩ := ob h
      refine bx_callHW (As := [.ref (ad 28), .long (68719476736 + ((Int32.ofInt (x3 / 20)).toInt64))]) (n := 2) (kk := 1) (st := []) cx (tL_costOf_k l hl ad M (68719476736 + ((Int32.ofInt (x3 / 20)).toInt64)) _ e253) (Nat.le_of_ble_eq_true rfl) gL_does_L_costOf rfl ⟨rfl, rfl⟩ (by decide +kernel) rfl ⟨by decide, by decide⟩ rfl (Nat.le_of_ble_eq_true rfl) dL_does_361 ?_
      obtain ⟨t254, e255, h⟩ := ob h
      refine bx_callH (As := [iV (t252)]) (n := 1) (kk := 0) (st := []) cx (kL_isRefused l hl ad M t252 _ e255) (Nat.le_of_ble_eq_true rfl) gL_does_L_isRefused rfl ⟨rfl, rfl⟩ (by decide +kernel) rfl ⟨by decide, by decide⟩ rfl (Nat.le_of_ble_eq_true rfl) dL_does_364 ?_
      obtain ⟨g256, h⟩ := gd_some h
      refine bx_if_eq cx 374 dL_does_367 (by decide) g256 (fun c257 => ?_) (fun c257 => ?_)
      · rw [if_pos c257] at h
        refine bx_bipush (z := (-9)) cx dL_does_374 (by decide) ?_
        refine bx_lv cx [] rfl ?_
        cases h
        exact J259
      · rw [if_neg c257] at h
        refine bx_iconst cx dL_does_370 ?_
        refine bx_goto cx 376 dL_does_371 (by decide) ?_
        refine bx_lv cx [] rfl ?_
        cases h
        exact J259
  rw [if_neg c22] at h
  refine bx_tableOut cx 377 dL_does_17 g4 (by omega) (by decide) ?_
  refine bx_aload_n cx 2 dL_does_377 rfl rfl ?_
  refine bx_iload cx 0 dL_does_378 rfl ?_
  refine bx_iconst cx dL_does_380 ?_
  obtain ⟨g261, h⟩ := gd_some h
  refine bx_irem cx dL_does_381 ⟨g261, by decide, by decide⟩ ?_
  obtain ⟨t262, e263, h⟩ := ob h
  refine bx_callH (As := [.ref (ad 28), iV (((x3 / 20) / 40) % 4)]) (n := 2) (kk := 1) (st := []) cx (kL_breathes l hl ad M (((x3 / 20) / 40) % 4) _ e263) (Nat.le_of_ble_eq_true rfl) gL_does_L_breathes rfl ⟨rfl, rfl⟩ (by decide +kernel) rfl ⟨by decide, by decide⟩ rfl (Nat.le_of_ble_eq_true rfl) dL_does_382 ?_
  cases h
  exact bx_iret cx dL_does_385 rfl (Nat.le_of_ble_eq_true rfl) ⟨rfl, rfl⟩
