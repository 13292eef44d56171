def Facts (Rel : Mem → Mem → Prop) : Prop := Fc_cost Rel ∧ Fc_lay Rel ∧ Fc_edge Rel ∧ Fc_apart Rel ∧ Fc_town Rel ∧ Fc_away Rel ∧ Fc_townAt Rel ∧ Fc_least Rel ∧ Fc_leastAnew Rel ∧ Fc_bound Rel ∧ Fc_gap Rel ∧ Fc_isUsed Rel ∧ Fc_twoWays Rel ∧ Fc_pin Rel ∧ Fc_film Rel ∧ Fc_proof Rel ∧ Fc_side Rel ∧ Fc_costOf Rel ∧ Fc_pull Rel ∧ Fc_hold Rel ∧ Fc_breathe Rel ∧ Fc_bubbleAt Rel ∧ Fc_bubble Rel ∧ Fc_wall Rel ∧ Fc_corners Rel ∧ Fc_rests Rel ∧ Fc_energy Rel
theorem zand31 (x : Int) : 0 ≤ zand x 31 ∧ zand x 31 < 32 := by
  have h : Int32.ofInt x &&& Int32.ofInt 31 = nI ((Int32.ofInt x).toBitVec.toNat % 2 ^ 5) := pk_and (Int32.ofInt x) 5 (by decide)
  have h2 : (Int32.ofInt x).toBitVec.toNat % 2 ^ 5 < 2 ^ 5 := Nat.mod_lt _ (by decide)
  unfold zand
  rw [h, nI_toInt (by omega)]
  omega
set_option maxRecDepth 100000 in
set_option maxHeartbeats 8000000 in
theorem law_loop {Rel : Mem → Mem → Prop} (F : Facts Rel) (l : Launch) (hl : l.stackTraces = false) (adC adM : Nat → Nat) (ao b L : Nat) (xs : Nat → Int32) (G : LSt → Nat → List (Nat × Value) → List Value → Prop) (cx : CL adC adM ao RL cL_law 7 wsL_law room_1 l (fun _ => True) (some (b, L, xs)) 512 (fun z _ => z = 1) G) (hL : L ≤ 1536) : ∀ (n k : Nat) (Mc Mm : Mem) (o : Nat → Int64) (i : Int), i = 3 * (k : Int) → k ≤ 512 → L + 1 ≤ 3 * k + n → Rel Mc Mm → G (k, Mc, Mm, o) 23 [(0, .ref b), (1, .ref (adC 26)), (2, .ref (adM 14)), (3, .ref ao), (4, iV i)] [] := by
  have hL2 : L < 2147483648 := by omega
  intro n
  induction n with
  | zero =>
    intro k Mc Mm o i hi hk hn hR
    refine lx_iload cx 4 dL_law_23 rfl ?_
    refine lx_aload_n cx 0 dL_law_25 rfl rfl ?_
    refine lx_slen cx rfl dL_law_26 ?_
    refine lx_iconst cx dL_law_27 ?_
    refine lx_isub cx dL_law_28 ?_
    refine lx_icmp_gt cx 1533 dL_law_29 (by decide) ⟨by omega, by omega⟩ ⟨by omega, by omega⟩ (fun c => ?_) (fun c => absurd (by omega) c)
    refine lx_iconst cx dL_law_1533 ?_
    exact lx_ret cx dL_law_1534 hk rfl
  | succ n ih =>
    intro k Mc Mm o i hi hk hn hR
    refine lx_iload cx 4 dL_law_23 rfl ?_
    refine lx_aload_n cx 0 dL_law_25 rfl rfl ?_
    refine lx_slen cx rfl dL_law_26 ?_
    refine lx_iconst cx dL_law_27 ?_
    refine lx_isub cx dL_law_28 ?_
    refine lx_icmp_gt cx 1533 dL_law_29 (by decide) ⟨by omega, by omega⟩ ⟨by omega, by omega⟩ (fun c => ?_) (fun c => ?_)
    · refine lx_iconst cx dL_law_1533 ?_
      exact lx_ret cx dL_law_1534 hk rfl
    · have hk5 : k < 512 := by omega
      have hi0 : 0 ≤ i := by omega
      have hi2 : i + 2 < (L : Int) := by omega
      have J : ∀ (k2 : Nat) (Mc2 Mm2 : Mem) (o2 : Nat → Int64), k2 = k + 1 → Rel Mc2 Mm2 → G (k2, Mc2, Mm2, o2) 1527 [(0, .ref b), (1, .ref (adC 26)), (2, .ref (adM 14)), (3, .ref ao), (4, iV i)] [] := by
        intro k2 Mc2 Mm2 o2 hk2 hR2
        refine lx_iinc (lv' := [(4, iV (i + 3)), (0, .ref b), (1, .ref (adC 26)), (2, .ref (adM 14)), (3, .ref ao)]) cx 4 dL_law_1527 rfl (by decide) rfl ?_
        refine lx_goto cx 23 dL_law_1530 (by decide) ?_
        refine lx_lv cx [1, 2, 3, 4, 0] rfl ?_
        exact ih k2 Mc2 Mm2 o2 (i + 3) (by omega) (by omega) (by omega) hR2
      refine lx_aload_n cx 0 dL_law_32 rfl rfl ?_
      refine lx_iload cx 4 dL_law_33 rfl ?_
      refine lx_sld cx rfl hL2 ⟨by omega, by omega⟩ dL_law_35 ?_
      refine lx_bipush (z := 31) cx dL_law_36 (by decide) ?_
      refine lx_iand cx dL_law_38 ?_
      obtain ⟨h0, h32⟩ := zand31 (xs i.toNat).toInt
      have hr : inR (zand (xs i.toNat).toInt 31) := ⟨by omega, by omega⟩
      by_cases c0 : zand (xs i.toNat).toInt 31 = 0
      · refine lx_tableIn (off := 121) cx 160 dL_law_39 hr (by rw [c0]; decide) (by rw [c0]; decide) (by rw [c0]; rfl) (by decide) ?_
        exact lc_cost (F.1) l hl adC adM ao b L xs G cx hL2 k Mc Mm o i hk5 hi0 hi2 hR J
      by_cases c1 : zand (xs i.toNat).toInt 31 = 1
      · refine lx_tableIn (off := 189) cx 228 dL_law_39 hr (by rw [c1]; decide) (by rw [c1]; decide) (by rw [c1]; rfl) (by decide) ?_
        exact lc_lay (F.2.1) l hl adC adM ao b L xs G cx hL2 k Mc Mm o i hk5 hi0 hi2 hR J
      by_cases c2 : zand (xs i.toNat).toInt 31 = 2
      · refine lx_tableIn (off := 257) cx 296 dL_law_39 hr (by rw [c2]; decide) (by rw [c2]; decide) (by rw [c2]; rfl) (by decide) ?_
        exact lc_edge (F.2.2.1) l hl adC adM ao b L xs G cx hL2 k Mc Mm o i hk5 hi0 hi2 hR J
      by_cases c3 : zand (xs i.toNat).toInt 31 = 3
      · refine lx_tableIn (off := 313) cx 352 dL_law_39 hr (by rw [c3]; decide) (by rw [c3]; decide) (by rw [c3]; rfl) (by decide) ?_
        exact lc_apart (F.2.2.2.1) l hl adC adM ao b L xs G cx hL2 k Mc Mm o i hk5 hi0 hi2 hR J
      by_cases c4 : zand (xs i.toNat).toInt 31 = 4
      · refine lx_tableIn (off := 381) cx 420 dL_law_39 hr (by rw [c4]; decide) (by rw [c4]; decide) (by rw [c4]; rfl) (by decide) ?_
        exact lc_town (F.2.2.2.2.1) l hl adC adM ao b L xs G cx hL2 k Mc Mm o i hk5 hi0 hi2 hR J
      by_cases c5 : zand (xs i.toNat).toInt 31 = 5
      · refine lx_tableIn (off := 437) cx 476 dL_law_39 hr (by rw [c5]; decide) (by rw [c5]; decide) (by rw [c5]; rfl) (by decide) ?_
        exact lc_away (F.2.2.2.2.2.1) l hl adC adM ao b L xs G cx hL2 k Mc Mm o i hk5 hi0 hi2 hR J
      by_cases c6 : zand (xs i.toNat).toInt 31 = 6
      · refine lx_tableIn (off := 493) cx 532 dL_law_39 hr (by rw [c6]; decide) (by rw [c6]; decide) (by rw [c6]; rfl) (by decide) ?_
        exact lc_townAt (F.2.2.2.2.2.2.1) l hl adC adM ao b L xs G cx hL2 k Mc Mm o i hk5 hi0 hi2 hR J
      by_cases c7 : zand (xs i.toNat).toInt 31 = 7
      · refine lx_tableIn (off := 549) cx 588 dL_law_39 hr (by rw [c7]; decide) (by rw [c7]; decide) (by rw [c7]; rfl) (by decide) ?_
        exact lc_least (F.2.2.2.2.2.2.2.1) l hl adC adM ao b L xs G cx hL2 k Mc Mm o i hk5 hi0 hi2 hR J
      by_cases c8 : zand (xs i.toNat).toInt 31 = 8
      · refine lx_tableIn (off := 562) cx 601 dL_law_39 hr (by rw [c8]; decide) (by rw [c8]; decide) (by rw [c8]; rfl) (by decide) ?_
        exact lc_leastAnew (F.2.2.2.2.2.2.2.2.1) l hl adC adM ao b L xs G cx hL2 k Mc Mm o i hk5 hi0 hi2 hR J
      by_cases c9 : zand (xs i.toNat).toInt 31 = 9
      · refine lx_tableIn (off := 575) cx 614 dL_law_39 hr (by rw [c9]; decide) (by rw [c9]; decide) (by rw [c9]; rfl) (by decide) ?_
        exact lc_bound (F.2.2.2.2.2.2.2.2.2.1) l hl adC adM ao b L xs G cx hL2 k Mc Mm o i hk5 hi0 hi2 hR J
      by_cases c10 : zand (xs i.toNat).toInt 31 = 10
      · refine lx_tableIn (off := 588) cx 627 dL_law_39 hr (by rw [c10]; decide) (by rw [c10]; decide) (by rw [c10]; rfl) (by decide) ?_
        exact lc_gap (F.2.2.2.2.2.2.2.2.2.2.1) l hl adC adM ao b L xs G cx hL2 k Mc Mm o i hk5 hi0 hi2 hR J
      by_cases c11 : zand (xs i.toNat).toInt 31 = 11
      · refine lx_tableIn (off := 601) cx 640 dL_law_39 hr (by rw [c11]; decide) (by rw [c11]; decide) (by rw [c11]; rfl) (by decide) ?_
        exact lc_isUsed (F.2.2.2.2.2.2.2.2.2.2.2.1) l hl adC adM ao b L xs G cx hL2 k Mc Mm o i hk5 hi0 hi2 hR J
      by_cases c12 : zand (xs i.toNat).toInt 31 = 12
      · refine lx_tableIn (off := 664) cx 703 dL_law_39 hr (by rw [c12]; decide) (by rw [c12]; decide) (by rw [c12]; rfl) (by decide) ?_
        exact lc_twoWays (F.2.2.2.2.2.2.2.2.2.2.2.2.1) l hl adC adM ao b L xs G cx hL2 k Mc Mm o i hk5 hi0 hi2 hR J
      by_cases c13 : zand (xs i.toNat).toInt 31 = 13
      · refine lx_tableIn (off := 732) cx 771 dL_law_39 hr (by rw [c13]; decide) (by rw [c13]; decide) (by rw [c13]; rfl) (by decide) ?_
        exact lc_pin (F.2.2.2.2.2.2.2.2.2.2.2.2.2.1) l hl adC adM ao b L xs G cx hL2 k Mc Mm o i hk5 hi0 hi2 hR J
      by_cases c14 : zand (xs i.toNat).toInt 31 = 14
      · refine lx_tableIn (off := 800) cx 839 dL_law_39 hr (by rw [c14]; decide) (by rw [c14]; decide) (by rw [c14]; rfl) (by decide) ?_
        exact lc_film (F.2.2.2.2.2.2.2.2.2.2.2.2.2.2.1) l hl adC adM ao b L xs G cx hL2 k Mc Mm o i hk5 hi0 hi2 hR J
      by_cases c15 : zand (xs i.toNat).toInt 31 = 15
      · refine lx_tableIn (off := 813) cx 852 dL_law_39 hr (by rw [c15]; decide) (by rw [c15]; decide) (by rw [c15]; rfl) (by decide) ?_
        exact lc_proof (F.2.2.2.2.2.2.2.2.2.2.2.2.2.2.2.1) l hl adC adM ao b L xs G cx hL2 k Mc Mm o i hk5 hi0 hi2 hR J
      by_cases c16 : zand (xs i.toNat).toInt 31 = 16
      · refine lx_tableIn (off := 826) cx 865 dL_law_39 hr (by rw [c16]; decide) (by rw [c16]; decide) (by rw [c16]; rfl) (by decide) ?_
        exact lc_side (F.2.2.2.2.2.2.2.2.2.2.2.2.2.2.2.2.1) l hl adC adM ao b L xs G cx hL2 k Mc Mm o i hk5 hi0 hi2 hR J
      by_cases c17 : zand (xs i.toNat).toInt 31 = 17
      · refine lx_tableIn (off := 868) cx 907 dL_law_39 hr (by rw [c17]; decide) (by rw [c17]; decide) (by rw [c17]; rfl) (by decide) ?_
        exact lc_costOf (F.2.2.2.2.2.2.2.2.2.2.2.2.2.2.2.2.2.1) l hl adC adM ao b L xs G cx hL2 k Mc Mm o i hk5 hi0 hi2 hR J
      by_cases c18 : zand (xs i.toNat).toInt 31 = 18
      · refine lx_tableIn (off := 956) cx 995 dL_law_39 hr (by rw [c18]; decide) (by rw [c18]; decide) (by rw [c18]; rfl) (by decide) ?_
        exact lc_pull (F.2.2.2.2.2.2.2.2.2.2.2.2.2.2.2.2.2.2.1) l hl adC adM ao b L xs G cx hL2 k Mc Mm o i hk5 hi0 hi2 hR J
      by_cases c19 : zand (xs i.toNat).toInt 31 = 19
      · refine lx_tableIn (off := 1024) cx 1063 dL_law_39 hr (by rw [c19]; decide) (by rw [c19]; decide) (by rw [c19]; rfl) (by decide) ?_
        exact lc_hold (F.2.2.2.2.2.2.2.2.2.2.2.2.2.2.2.2.2.2.2.1) l hl adC adM ao b L xs G cx hL2 k Mc Mm o i hk5 hi0 hi2 hR J
      by_cases c20 : zand (xs i.toNat).toInt 31 = 20
      · refine lx_tableIn (off := 1115) cx 1154 dL_law_39 hr (by rw [c20]; decide) (by rw [c20]; decide) (by rw [c20]; rfl) (by decide) ?_
        exact lc_breathe (F.2.2.2.2.2.2.2.2.2.2.2.2.2.2.2.2.2.2.2.2.1) l hl adC adM ao b L xs G cx hL2 k Mc Mm o i hk5 hi0 hi2 hR J
      by_cases c21 : zand (xs i.toNat).toInt 31 = 21
      · refine lx_tableIn (off := 1171) cx 1210 dL_law_39 hr (by rw [c21]; decide) (by rw [c21]; decide) (by rw [c21]; rfl) (by decide) ?_
        exact lc_bubbleAt (F.2.2.2.2.2.2.2.2.2.2.2.2.2.2.2.2.2.2.2.2.2.1) l hl adC adM ao b L xs G cx hL2 k Mc Mm o i hk5 hi0 hi2 hR J
      by_cases c22 : zand (xs i.toNat).toInt 31 = 22
      · refine lx_tableIn (off := 1227) cx 1266 dL_law_39 hr (by rw [c22]; decide) (by rw [c22]; decide) (by rw [c22]; rfl) (by decide) ?_
        exact lc_bubble (F.2.2.2.2.2.2.2.2.2.2.2.2.2.2.2.2.2.2.2.2.2.2.1) l hl adC adM ao b L xs G cx hL2 k Mc Mm o i hk5 hi0 hi2 hR J
      by_cases c23 : zand (xs i.toNat).toInt 31 = 23
      · refine lx_tableIn (off := 1295) cx 1334 dL_law_39 hr (by rw [c23]; decide) (by rw [c23]; decide) (by rw [c23]; rfl) (by decide) ?_
        exact lc_wall (F.2.2.2.2.2.2.2.2.2.2.2.2.2.2.2.2.2.2.2.2.2.2.2.1) l hl adC adM ao b L xs G cx hL2 k Mc Mm o i hk5 hi0 hi2 hR J
      by_cases c24 : zand (xs i.toNat).toInt 31 = 24
      · refine lx_tableIn (off := 1363) cx 1402 dL_law_39 hr (by rw [c24]; decide) (by rw [c24]; decide) (by rw [c24]; rfl) (by decide) ?_
        exact lc_corners (F.2.2.2.2.2.2.2.2.2.2.2.2.2.2.2.2.2.2.2.2.2.2.2.2.1) l hl adC adM ao b L xs G cx hL2 k Mc Mm o i hk5 hi0 hi2 hR J
      by_cases c25 : zand (xs i.toNat).toInt 31 = 25
      · refine lx_tableIn (off := 1419) cx 1458 dL_law_39 hr (by rw [c25]; decide) (by rw [c25]; decide) (by rw [c25]; rfl) (by decide) ?_
        exact lc_rests (F.2.2.2.2.2.2.2.2.2.2.2.2.2.2.2.2.2.2.2.2.2.2.2.2.2.1) l hl adC adM ao b L xs G cx hL2 k Mc Mm o i hk5 hi0 hi2 hR J
      by_cases c26 : zand (xs i.toNat).toInt 31 = 26
      · refine lx_tableIn (off := 1432) cx 1471 dL_law_39 hr (by rw [c26]; decide) (by rw [c26]; decide) (by rw [c26]; rfl) (by decide) ?_
        exact lc_energy (F.2.2.2.2.2.2.2.2.2.2.2.2.2.2.2.2.2.2.2.2.2.2.2.2.2.2) l hl adC adM ao b L xs G cx hL2 k Mc Mm o i hk5 hi0 hi2 hR J
      refine lx_tableOut cx 1527 dL_law_39 hr (by omega) (by decide) ?_
      refine lx_widen cx ?_
      exact J _ _ _ _ rfl hR
