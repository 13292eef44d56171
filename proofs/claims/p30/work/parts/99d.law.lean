/-! the law's loop over one bench -/
theorem hc_law_189 : Cond.constant RL 189 (2000000000) ∈ wsL_law := by decide +kernel
theorem hc_law_198 : Cond.constant RL 198 (100000) ∈ wsL_law := by decide +kernel
abbrev lvB (ad : Nat → Nat) (b r k : Nat) : List (Nat × Value) := [(0, .ref b), (1, iV 1), (2, iV (r : Int)), (3, .ref (ad 28)), (4, .ref (ad 21)), (5, .ref (ad 22)), (6, iV (k : Int))]
set_option maxRecDepth 100000 in
set_option maxHeartbeats 8000000 in
theorem law_end {l : Launch} (hl : l.stackTraces = false) {ad : Nat → Nat} {b L : Nat} {xs : Nat → Int32} {G : KSt → Nat → List (Nat × Value) → List Value → Prop} (cx : CK ad RL cL_law 11 wsL_law room_1 l (some .boolean) (fun _ => True) (some (b, L, xs)) 200 (fun _ _ => False) G) {r k c : Nat} (hk : k < 40) (hc : c + 5 ≤ 200) {M Mm : Mem} (h : SI ((k : Int) + 1) M Mm) {x : Int} (hx : 0 ≤ x ∧ x < 2147483648)
    (nx : ∀ M2 : Mem, SI ((k : Int) + 1) M2 Mm → G (c + 5, M2) 35 (lvB ad b r (k + 1)) []) : G (c + 4, M) 181 [(0, .ref b), (1, iV 1), (2, iV (r : Int)), (3, .ref (ad 28)), (4, .ref (ad 21)), (5, .ref (ad 22)), (6, iV (k : Int)), (7, iV x)] [] := by
  have J : ∀ M2 : Mem, SI ((k : Int) + 1) M2 Mm → G (c + 5, M2) 244 [(0, .ref b), (1, iV 1), (2, iV (r : Int)), (3, .ref (ad 28)), (4, .ref (ad 21)), (5, .ref (ad 22)), (6, iV (k : Int)), (7, iV x)] [] := by
    intro M2 h2
    refine bx_iconst cx dL_law_244 ?_
    refine bx_goto cx 249 dL_law_245 (by decide) ?_
    refine bx_istore_n (lv' := [(1, iV 1), (0, .ref b), (2, iV (r : Int)), (3, .ref (ad 28)), (4, .ref (ad 21)), (5, .ref (ad 22)), (6, iV (k : Int)), (7, iV x)]) cx dL_law_249 rfl (by decide) rfl ?_
    refine bx_iinc (lv' := [(6, iV ((k : Int) + 1)), (1, iV 1), (0, .ref b), (2, iV (r : Int)), (3, .ref (ad 28)), (4, .ref (ad 21)), (5, .ref (ad 22)), (7, iV x)]) cx 6 dL_law_250 rfl (by decide) rfl ?_
    refine bx_goto cx 35 dL_law_253 (by decide) ?_
    refine bx_lv cx [2, 1, 3, 4, 5, 6, 0] rfl ?_
    have g := nx M2 h2
    unfold lvB at g
    rw [show ((k + 1 : Nat) : Int) = (k : Int) + 1 by omega] at g
    exact g
  refine bx_iload_n cx 1 dL_law_181 rfl rfl ?_
  refine bx_if_eq cx 248 dL_law_182 (by decide) R1 (fun z => absurd z N1) (fun _ => ?_)
  refine bx_iload cx 6 dL_law_185 rfl ?_
  refine bx_iconst cx dL_law_187 ?_
  refine bx_irem cx dL_law_188 ⟨⟨by omega, by omega⟩, by decide, by decide⟩ ?_
  refine bx_if_ne cx 212 dL_law_189 (by decide) ⟨by omega, by omega⟩ (fun q => ?_) (fun q => ?_)
  · refine bx_aload_n cx 3 dL_law_192 rfl rfl ?_
    refine bx_aload cx 4 dL_law_193 rfl ?_
    refine bx_iload cx 7 dL_law_195 rfl ?_
    refine bx_bipush (z := 20) cx dL_law_197 (by decide) ?_
    refine bx_idiv cx dL_law_199 ⟨⟨hx.1, hx.2⟩, by decide, by decide⟩ ?_
    refine bx_ldc (z := 100000) cx dL_law_200 hc_law_198 (by decide) ?_
    refine bx_irem cx dL_law_202 ⟨⟨by omega, by omega⟩, by decide, by decide⟩ ?_
    obtain ⟨C, e1, e2, e3⟩ := q_areNets h (y := x / 20 % 100000) ⟨by omega, by omega⟩
    refine bx_callH (As := [.ref (ad 28), .ref (ad 21), iV (x / 20 % 100000)]) (n := 3) (kk := 1) (st := []) cx (kL_areNets l hl ad M _ _ e1) (by show c + 4 + 1 ≤ 200; omega) gL_law_L_areNets rfl ⟨rfl, rfl⟩ (by decide +kernel) rfl ⟨by decide, by decide⟩ rfl (Nat.le_of_ble_eq_true rfl) dL_law_203 ?_
    refine bx_if_eq cx 248 dL_law_206 (by decide) R1 (fun z => absurd z N1) (fun _ => ?_)
    refine bx_goto cx 244 dL_law_209 (by decide) ?_
    exact J C (h.q e2 e3)
  · refine bx_widen cx (c + 5) (by show c + 4 ≤ c + 5; omega) ?_
    refine bx_iload cx 6 dL_law_212 rfl ?_
    refine bx_iconst cx dL_law_214 ?_
    refine bx_irem cx dL_law_215 ⟨⟨by omega, by omega⟩, by decide, by decide⟩ ?_
    refine bx_iconst cx dL_law_216 ?_
    refine bx_icmp_ne cx 237 dL_law_217 (by decide) ⟨by omega, by omega⟩ R1 (fun q2 => ?_) (fun q2 => ?_)
    · refine bx_aload_n cx 3 dL_law_220 rfl rfl ?_
      refine bx_aload cx 5 dL_law_221 rfl ?_
      refine bx_iload cx 7 dL_law_223 rfl ?_
      refine bx_bipush (z := 20) cx dL_law_225 (by decide) ?_
      refine bx_idiv cx dL_law_227 ⟨⟨hx.1, hx.2⟩, by decide, by decide⟩ ?_
      obtain ⟨C, e1, e2, e3⟩ := q_areFilms h (x / 20)
      refine bx_callH (As := [.ref (ad 28), .ref (ad 22), iV (x / 20)]) (n := 3) (kk := 0) (st := []) cx (kL_areFilms l hl ad M _ _ e1) (by show c + 5 + 0 ≤ 200; omega) gL_law_L_areFilms rfl ⟨rfl, rfl⟩ (by decide +kernel) rfl ⟨by decide, by decide⟩ rfl (Nat.le_of_ble_eq_true rfl) dL_law_228 ?_
      refine bx_if_eq cx 248 dL_law_231 (by decide) R1 (fun z => absurd z N1) (fun _ => ?_)
      refine bx_goto cx 244 dL_law_234 (by decide) ?_
      exact J C (h.q e2 e3)
    · refine bx_aload_n cx 3 dL_law_237 rfl rfl ?_
      obtain ⟨C, e1, e2, e3⟩ := q_isFoam h (by omega)
      refine bx_callH (As := [.ref (ad 28)]) (n := 1) (kk := 0) (st := []) cx (kL_isFoam l hl ad M _ e1) (by show c + 5 + 0 ≤ 200; omega) gL_law_L_isFoam rfl ⟨rfl, rfl⟩ (by decide +kernel) rfl ⟨by decide, by decide⟩ rfl (Nat.le_of_ble_eq_true rfl) dL_law_238 ?_
      refine bx_if_eq cx 248 dL_law_241 (by decide) R1 (fun z => absurd z N1) (fun _ => ?_)
      exact J C (h.q e2 e3)
set_option maxRecDepth 100000 in
set_option maxHeartbeats 8000000 in
theorem law_mid {l : Launch} (hl : l.stackTraces = false) {ad : Nat → Nat} {b L : Nat} {xs : Nat → Int32} {G : KSt → Nat → List (Nat × Value) → List Value → Prop} (cx : CK ad RL cL_law 11 wsL_law room_1 l (some .boolean) (fun _ => True) (some (b, L, xs)) 200 (fun _ _ => False) G) {r k c : Nat} (hk : k < 40) (hc : c + 5 ≤ 200) {M Mm : Mem} (h : SI (k : Int) M Mm) {x : Int} (hx : 0 ≤ x ∧ x < 2147483648)
    (nx : ∀ M2 Mm2 : Mem, SI ((k : Int) + 1) M2 Mm2 → G (c + 5, M2) 35 (lvB ad b r (k + 1)) []) : G (c, M) 128 [(7, iV x), (0, .ref b), (1, iV 1), (2, iV (r : Int)), (3, .ref (ad 28)), (4, .ref (ad 21)), (5, .ref (ad 22)), (6, iV (k : Int))] [] := by
  obtain ⟨kt, kt1, kt2, kt3⟩ := h.n0
  obtain ⟨C1, e1, e2, e3⟩ := q_mix h.1 kt2 kt3
  have h1 := h.q e2 e3
  obtain ⟨told, C2, d1, d2⟩ := q_does h1 ⟨by omega, by omega⟩ hx
  refine bx_aload_n cx 4 dL_law_128 rfl rfl ?_
  refine bx_aload cx 5 dL_law_129 rfl ?_
  refine bx_callH (As := [.ref (ad 28), .ref (ad 21)]) (n := 2) (kk := 1) (st := []) cx (kL_mix l hl ad M _ e1) (by show c + 1 ≤ 200; omega) gL_law_L_mix rfl ⟨rfl, rfl⟩ (by decide +kernel) rfl ⟨by decide, by decide⟩ rfl (Nat.le_of_ble_eq_true rfl) dL_law_131 ?_
  refine bx_lstore (lv' := [(8, .long (mixV Mm kt)), (7, iV x), (0, .ref b), (1, iV 1), (2, iV (r : Int)), (3, .ref (ad 28)), (4, .ref (ad 21)), (5, .ref (ad 22)), (6, iV (k : Int))]) cx dL_law_134 (by decide) rfl ?_
  refine bx_aload_n cx 5 dL_law_136 rfl rfl ?_
  refine bx_aload cx 6 dL_law_137 rfl ?_
  refine bx_aload cx 7 dL_law_139 rfl ?_
  refine bx_iload cx 1 dL_law_141 rfl ?_
  refine bx_callH (As := [.ref (ad 28), .ref (ad 21), .ref (ad 22), iV x]) (n := 4) (kk := 2) (st := []) cx (kL_does l hl ad C1 _ _ d1) (by show c + 1 + 2 ≤ 200; omega) gL_law_L_does rfl ⟨rfl, rfl⟩ (by decide +kernel) rfl ⟨by decide, by decide⟩ rfl (Nat.le_of_ble_eq_true rfl) dL_law_143 ?_
  refine bx_istore (lv' := [(10, iV told), (8, .long (mixV Mm kt)), (7, iV x), (0, .ref b), (1, iV 1), (2, iV (r : Int)), (3, .ref (ad 28)), (4, .ref (ad 21)), (5, .ref (ad 22)), (6, iV (k : Int))]) cx dL_law_146 (by decide) rfl ?_
  have tR : inR told := by
    rcases d2 with ⟨a, _⟩ | ⟨a, _⟩
    · exact a.R
    · exact ⟨by have := a.1; omega, by have := a.2; omega⟩
  have t9 : ¬ told = -9 := by
    rcases d2 with ⟨a, _⟩ | ⟨a, _⟩
    · rcases a with q | q | q <;> rw [q] <;> decide
    · have := a.1; omega
  have J : ∀ M2 Mm2 : Mem, SI ((k : Int) + 1) M2 Mm2 → G (c + 4, M2) 175 [(10, iV told), (8, .long (mixV Mm kt)), (7, iV x), (0, .ref b), (1, iV 1), (2, iV (r : Int)), (3, .ref (ad 28)), (4, .ref (ad 21)), (5, .ref (ad 22)), (6, iV (k : Int))] [] := by
    intro M2 Mm2 h2
    refine bx_iconst cx dL_law_175 ?_
    refine bx_goto cx 180 dL_law_176 (by decide) ?_
    refine bx_istore_n (lv' := [(1, iV 1), (10, iV told), (8, .long (mixV Mm kt)), (7, iV x), (0, .ref b), (2, iV (r : Int)), (3, .ref (ad 28)), (4, .ref (ad 21)), (5, .ref (ad 22)), (6, iV (k : Int))]) cx dL_law_180 rfl (by decide) rfl ?_
    refine bx_lv cx [4, 0, 5, 6, 7, 8, 9, 3] rfl ?_
    exact law_end hl cx hk hc h2 hx (fun M3 h3 => nx M3 Mm2 h3)
  refine bx_iload cx 0 dL_law_148 rfl ?_
  refine bx_bipush (z := (-9)) cx dL_law_150 (by decide) ?_
  refine bx_icmp_eq cx 179 dL_law_152 (by decide) tR ⟨by decide, by decide⟩ (fun z => absurd z t9) (fun _ => ?_)
  refine bx_iload cx 0 dL_law_155 rfl ?_
  rcases d2 with ⟨a, h2⟩ | ⟨a, Mm2, h2⟩
  · refine bx_callH (As := [iV told]) (n := 1) (kk := 0) (st := []) cx (kL_isRefused l hl ad C2 _ _ (refV a)) (by show c + 1 + 2 + 0 ≤ 200; omega) gL_law_L_isRefused rfl ⟨rfl, rfl⟩ (by decide +kernel) rfl ⟨by decide, by decide⟩ rfl (Nat.le_of_ble_eq_true rfl) dL_law_157 ?_
    refine bx_if_eq cx 175 dL_law_160 (by decide) R1 (fun z => absurd z N1) (fun _ => ?_)
    refine bx_aload_n cx 6 dL_law_163 rfl rfl ?_
    refine bx_aload cx 7 dL_law_164 rfl ?_
    obtain ⟨C3, g1, g2, g3⟩ := q_mix h2.1 kt2 (h2.n kt2)
    refine bx_callH (As := [.ref (ad 28), .ref (ad 21)]) (n := 2) (kk := 1) (st := []) cx (kL_mix l hl ad C2 _ g1) (by show c + 1 + 2 + 0 + 1 ≤ 200; omega) gL_law_L_mix rfl ⟨rfl, rfl⟩ (by decide +kernel) rfl ⟨by decide, by decide⟩ rfl (Nat.le_of_ble_eq_true rfl) dL_law_166 ?_
    refine bx_lload cx 1 dL_law_169 rfl ?_
    refine bx_lcmp cx dL_law_171 ?_
    refine bx_if_ne cx 179 dL_law_172 (by decide) (zlcmp_R _ _) (fun _ => ?_) (fun z => absurd (zlcmp_iff.mpr rfl) z)
    exact J C3 Mm (h2.q g2 g3).up
  · refine bx_callH (As := [iV told]) (n := 1) (kk := 0) (st := []) cx (kL_isRefused l hl ad C2 _ _ (okV a)) (by show c + 1 + 2 + 0 ≤ 200; omega) gL_law_L_isRefused rfl ⟨rfl, rfl⟩ (by decide +kernel) rfl ⟨by decide, by decide⟩ rfl (Nat.le_of_ble_eq_true rfl) dL_law_157 ?_
    refine bx_if_eq cx 175 dL_law_160 (by decide) R0 (fun _ => ?_) (fun z => absurd rfl z)
    refine bx_widen cx (c + 4) (by show c + 1 + 2 + 0 ≤ c + 4; omega) ?_
    exact J C2 Mm2 h2
set_option maxRecDepth 100000 in
set_option maxHeartbeats 8000000 in
theorem law_k {l : Launch} (hl : l.stackTraces = false) {ad : Nat → Nat} {b L : Nat} {xs : Nat → Int32} {G : KSt → Nat → List (Nat × Value) → List Value → Prop} (cx : CK ad RL cL_law 11 wsL_law room_1 l (some .boolean) (fun _ => True) (some (b, L, xs)) 200 (fun _ _ => False) G) (hL : L ≤ 260) {r : Nat} (hr : r < 2) (out : ∀ M : Mem, G (200, M) 256 [(0, .ref b), (1, iV 1), (2, iV (r : Int))] []) : ∀ (n k c : Nat) (M Mm : Mem), k + n = 40 → c = 5 * k → SI (k : Int) M Mm → G (c, M) 35 (lvB ad b r k) [] := by
  intro n
  induction n with
  | zero =>
    intro k c M Mm hk hc h
    refine bx_iload cx 6 dL_law_35 rfl ?_
    refine bx_bipush (z := 40) cx dL_law_37 (by decide) ?_
    refine bx_icmp_ge cx 256 dL_law_39 (by decide) ⟨by omega, by omega⟩ ⟨by decide, by decide⟩ (fun _ => ?_) (fun z => absurd (by omega) z)
    refine bx_lv cx [0, 1, 2] rfl ?_
    have e : c = 200 := by omega
    subst e
    exact out M
  | succ n ih =>
    intro k c M Mm hk hc h
    have hk4 : k < 40 := by omega
    have J : ∀ x0 x : Int, (0 ≤ x ∧ x < 2147483648) → G (c, M) 126 ((7, iV x0) :: lvB ad b r k) [iV x] := by
      intro x0 x hx
      refine bx_istore (lv' := (7, iV x) :: lvB ad b r k) cx dL_law_126 (by decide) rfl ?_
      exact law_mid hl cx hk4 (by omega) h hx (fun M2 Mm2 h2 => ih (k + 1) (c + 5) M2 Mm2 (by omega) (by omega) (by
        rw [show ((k + 1 : Nat) : Int) = (k : Int) + 1 by omega]
        exact h2))
    refine bx_iload cx 6 dL_law_35 rfl ?_
    refine bx_bipush (z := 40) cx dL_law_37 (by decide) ?_
    refine bx_icmp_ge cx 256 dL_law_39 (by decide) ⟨by omega, by omega⟩ ⟨by decide, by decide⟩ (fun z => absurd z (by omega)) (fun _ => ?_)
    refine bx_iload_n cx 1 dL_law_42 rfl rfl ?_
    refine bx_if_eq cx 256 dL_law_43 (by decide) R1 (fun z => absurd z N1) (fun _ => ?_)
    refine bx_aload_n cx 0 dL_law_46 rfl rfl ?_
    refine bx_bipush (z := 40) cx dL_law_47 (by decide) ?_
    refine bx_iload_n cx 2 dL_law_49 rfl rfl ?_
    refine bx_imul cx dL_law_50 ?_
    refine bx_iload cx 6 dL_law_51 rfl ?_
    refine bx_iadd cx dL_law_53 ?_
    refine bx_callD (As := [.ref b, iV (40 * (r : Int) + (k : Int))]) (n := 2) (st := []) cx rfl (kL_drawn l ad b L xs hL M (40 * (r : Int) + (k : Int)) ⟨by omega, by omega⟩) (by show c ≤ 200; omega) gL_law_L_drawn rfl ⟨rfl, rfl⟩ (by decide +kernel) rfl ⟨by decide, by decide⟩ rfl (Nat.le_of_ble_eq_true rfl) dL_law_54 ?_
    have db := drV_bd L xs (40 * (r : Int) + (k : Int))
    generalize drV L xs (40 * (r : Int) + (k : Int)) = dr at db
    refine bx_ldc (z := 2000000000) cx dL_law_57 hc_law_189 (by decide) ?_
    refine bx_irem cx dL_law_59 ⟨⟨db.1, db.2⟩, by decide, by decide⟩ ?_
    refine bx_istore (lv' := (7, iV (dr % 2000000000)) :: lvB ad b r k) cx dL_law_60 (by decide) rfl ?_
    have xb : 0 ≤ dr % 2000000000 ∧ dr % 2000000000 < 2000000000 := by omega
    generalize dr % 2000000000 = x0 at xb
    refine bx_iload cx 7 dL_law_62 rfl ?_
    refine bx_bipush (z := 8) cx dL_law_64 (by decide) ?_
    refine bx_icmp_ge cx 83 dL_law_66 (by decide) ⟨by omega, by omega⟩ ⟨by decide, by decide⟩ (fun q => ?_) (fun q => ?_)
    · refine bx_iload cx 7 dL_law_83 rfl ?_
      refine bx_bipush (z := 11) cx dL_law_85 (by decide) ?_
      refine bx_icmp_ge cx 103 dL_law_87 (by decide) ⟨by omega, by omega⟩ ⟨by decide, by decide⟩ (fun q2 => ?_) (fun q2 => ?_)
      · refine bx_iload cx 7 dL_law_103 rfl ?_
        refine bx_bipush (z := 16) cx dL_law_105 (by decide) ?_
        refine bx_icmp_ge cx 124 dL_law_107 (by decide) ⟨by omega, by omega⟩ ⟨by decide, by decide⟩ (fun q3 => ?_) (fun q3 => ?_)
        · refine bx_iload cx 0 dL_law_124 rfl ?_
          exact J x0 x0 ⟨by omega, by omega⟩
        · refine bx_bipush (z := 20) cx dL_law_110 (by decide) ?_
          refine bx_iload cx 0 dL_law_112 rfl ?_
          refine bx_bipush (z := 20) cx dL_law_114 (by decide) ?_
          refine bx_idiv cx dL_law_116 ⟨⟨by omega, by omega⟩, by decide, by decide⟩ ?_
          refine bx_imul cx dL_law_117 ?_
          refine bx_bipush (z := 8) cx dL_law_118 (by decide) ?_
          refine bx_iadd cx dL_law_120 ?_
          refine bx_goto cx 126 dL_law_121 (by decide) ?_
          exact J x0 _ ⟨by omega, by omega⟩
      · refine bx_bipush (z := 20) cx dL_law_90 (by decide) ?_
        refine bx_iload cx 0 dL_law_92 rfl ?_
        refine bx_bipush (z := 20) cx dL_law_94 (by decide) ?_
        refine bx_idiv cx dL_law_96 ⟨⟨by omega, by omega⟩, by decide, by decide⟩ ?_
        refine bx_imul cx dL_law_97 ?_
        refine bx_iconst cx dL_law_98 ?_
        refine bx_iadd cx dL_law_99 ?_
        refine bx_goto cx 126 dL_law_100 (by decide) ?_
        exact J x0 _ ⟨by omega, by omega⟩
    · refine bx_bipush (z := 20) cx dL_law_69 (by decide) ?_
      refine bx_iload cx 0 dL_law_71 rfl ?_
      refine bx_bipush (z := 20) cx dL_law_73 (by decide) ?_
      refine bx_idiv cx dL_law_75 ⟨⟨by omega, by omega⟩, by decide, by decide⟩ ?_
      refine bx_imul cx dL_law_76 ?_
      refine bx_bipush (z := 11) cx dL_law_77 (by decide) ?_
      refine bx_iadd cx dL_law_79 ?_
      refine bx_goto cx 126 dL_law_80 (by decide) ?_
      exact J x0 _ ⟨by omega, by omega⟩
