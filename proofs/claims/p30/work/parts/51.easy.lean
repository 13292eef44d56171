/-! townAt, pin, hold -/
theorem chT_y {M : Mem} {v : Nat} (h0 : 0 ≤ M 102 0 ∧ M 102 0 ≤ 6) (hv : (v : Int) < M 102 0) : fX5_checkTown M (v : Int) = some (0, 0, M) := by
  unfold fX5_checkTown fX3_size
  exact w_gdR (by omega) (by omega) (w_f (by omega) (w_bind rfl (w_gdR (by omega) (by omega) (w_t hv rfl))))
theorem chT_n {M : Mem} {x : Int} (h0 : 0 ≤ M 102 0 ∧ M 102 0 ≤ 6) (hx : inR x) (h : x < 0 ∨ M 102 0 ≤ x) : fX5_checkTown M x = some (1, 0, M) := by
  unfold fX5_checkTown fX3_size
  refine w_gd hx ?_
  by_cases c : x < 0
  · exact w_t c rfl
  · exact w_f c (w_bind rfl (w_gdR (by omega) (by omega) (w_f (by omega) rfl)))
theorem chB_y (M : Mem) {v : Nat} (hv : v < 8) : fX5_checkBubble M (v : Int) = some (0, 0, M) := by
  unfold fX5_checkBubble
  exact w_gdR (by omega) (by omega) (w_f (by omega) (w_t (by omega) rfl))
theorem chB_n (M : Mem) {x : Int} (hx : inR x) (h : x < 0 ∨ 8 ≤ x) : fX5_checkBubble M x = some (1, 0, M) := by
  unfold fX5_checkBubble
  refine w_gd hx ?_
  by_cases c : x < 0
  · exact w_t c rfl
  · exact w_f c (w_f (by omega) rfl)
theorem R2 : inR 2 := ⟨by decide, by decide⟩
theorem N2n : ¬ (2 : Nat) = 0 := by decide
theorem F_townAt : Fc_townAt Rl := by
  intro Mc Mm y0 hR hy
  obtain ⟨w1, w2, w3, w4⟩ := hR.2.2.2.2.1
  by_cases c : 0 ≤ y0 ∧ y0 < Mc 102 0
  · obtain ⟨e, rfl⟩ : ∃ e : Nat, y0 = e := ⟨y0.toNat, by omega⟩
    refine ⟨(0, Mc 7 e, Mc), (Mm 2 e, wr Mm 100 0 0), ?_, ?_, Or.inl rfl, rfl, fun _ => (w3 e c.2).1.symm, hR.thr 0⟩
    · unfold fX5_townAt
      exact w_bind (chT_y w2 c.2) (w_t rfl (w_bind (t := Mc 7 e) (by unfold fX3_nodeOf; exact w_gdB (by omega) (by omega) (by rw [Int.toNat_natCast])) rfl))
    · unfold fX6_townAt
      exact w_bind (in_yes Mm hy R0 ⟨by omega, by omega⟩ ⟨by omega, by omega⟩) (w_gd R1 (w_bind (t := 0) (w_f N1 rfl) (w_bind (ref0 Mm) (w_gd R0 (w_bind (t := Mm 2 e) (w_t rfl (w_gdB (by omega) (by omega) (by rw [Int.toNat_natCast]; rfl))) rfl)))))
  · refine ⟨(1, 0, Mc), (0, wr Mm 100 0 1), ?_, ?_, Or.inr rfl, rfl, fun q => absurd (show (1 : Nat) = 0 from q) (by decide), hR.thr 1⟩
    · unfold fX5_townAt
      exact w_bind (chT_n w2 hy (by omega)) (w_f N1n rfl)
    · unfold fX6_townAt
      exact w_bind (in_no Mm hy R0 ⟨by omega, by omega⟩ (by omega)) (w_gd R0 (w_bind (t := 1) (w_t rfl rfl) (w_bind (refk Mm (Or.inl rfl)) (w_gd R1 (w_bind (t := 0) (w_f N1 rfl) rfl)))))
theorem F_pin : Fc_pin Rl := by
  intro Mc Mm y0 y1 hR hy hz
  by_cases c : 0 ≤ y0 ∧ y0 < 36
  · obtain ⟨u, rfl⟩ : ∃ e : Nat, y0 = e := ⟨y0.toNat, by omega⟩
    have hu : u < 36 := by omega
    by_cases d : 0 ≤ y1 ∧ y1 ≤ 2
    · refine ⟨(0, Mc 12 u, wr Mc 12 u y1), (Mm 3 u, wr (wr Mm 100 0 0) 3 u y1), ?_, ?_, Or.inl rfl, rfl, fun _ => (hR.2.2.2.2.2.2.1 u hu).1, ?_⟩
      · unfold fX5_pin
        refine w_bind (chN_y Mc hu) (w_t rfl (w_gd hz (w_f (by omega) (w_t (by omega) (w_bind (t := (Mc 12 u, wr Mc 12 u y1)) ?_ rfl)))))
        unfold fX0_change
        exact w_gdB (by omega) (by omega) (w_gdB (by omega) (by omega) (by rw [Int.toNat_natCast]))
      · unfold fX6_pin
        refine w_bind (isNode_y Mm hu) (w_gd R1 (w_bind (t := 0) (w_f N1 (w_bind (in_yes Mm hz R0 R2 d) (w_gd R1 (w_f N1 rfl)))) (w_bind (ref0 Mm) (w_gd R0 (w_t rfl (w_gdB (by omega) (by omega) (w_gdB (by omega) (by omega) ?_)))))))
        rw [Int.toNat_natCast]
        rfl
      · obtain ⟨a1, a2, a3, a4, a5, a6, a7, a8⟩ := hR
        refine ⟨a1, a2, a3, a4, a5, a6, fun v hv => ?_, a8⟩
        show (if 12 = 12 ∧ v = u then y1 else Mc 12 v) = (if 3 = 3 ∧ v = u then y1 else wr Mm 100 0 0 3 v) ∧ 0 ≤ (if 3 = 3 ∧ v = u then y1 else wr Mm 100 0 0 3 v) ∧ (if 3 = 3 ∧ v = u then y1 else wr Mm 100 0 0 3 v) ≤ 2
        by_cases q : v = u
        · rw [if_pos ⟨rfl, q⟩, if_pos ⟨rfl, q⟩]; exact ⟨rfl, d⟩
        · rw [if_neg (fun z => q z.2), if_neg (fun z => q z.2)]; exact a7 v hv
    · refine ⟨(2, 0, Mc), (0, wr Mm 100 0 2), ?_, ?_, Or.inr (Or.inr rfl), rfl, fun q => absurd (show (2 : Nat) = 0 from q) (by decide), hR.thr 2⟩
      · unfold fX5_pin
        refine w_bind (chN_y Mc hu) (w_t rfl (w_gd hz ?_))
        by_cases q : y1 < 0
        · exact w_t q rfl
        · exact w_f q (w_f (by omega) rfl)
      · unfold fX6_pin
        exact w_bind (isNode_y Mm hu) (w_gd R1 (w_bind (t := 2) (w_f N1 (w_bind (in_no Mm hz R0 R2 (by omega)) (w_gd R0 (w_t rfl rfl)))) (w_bind (refk Mm (Or.inr rfl)) (w_gd R1 (w_f N1 rfl)))))
  · refine ⟨(1, 0, Mc), (0, wr Mm 100 0 1), ?_, ?_, Or.inr (Or.inl rfl), rfl, fun q => absurd (show (1 : Nat) = 0 from q) (by decide), hR.thr 1⟩
    · unfold fX5_pin
      exact w_bind (chN_n Mc hy (by omega)) (w_f N1n rfl)
    · unfold fX6_pin
      exact w_bind (isNode_n Mm hy (by omega)) (w_gd R0 (w_bind (t := 1) (w_t rfl rfl) (w_bind (refk Mm (Or.inl rfl)) (w_gd R1 (w_f N1 rfl)))))
theorem F_hold : Fc_hold Rl := by
  intro Mc Mm y0 y1 hR hy hz
  by_cases c : 0 ≤ y0 ∧ y0 < 8
  · obtain ⟨u, rfl⟩ : ∃ e : Nat, y0 = e := ⟨y0.toNat, by omega⟩
    have hu : u < 8 := by omega
    have hk := hR.2.2.2.2.2.2.2.2.1 u hu
    have hk1 : Mc 18 u = 0 ∨ Mc 18 u = 1 := by rw [hk.1]; exact hk.2
    refine ⟨(0, Mc 18 u, wr Mc 18 u y1), (Mm 5 u, wr (wr Mm 100 0 0) 5 u y1), ?_, ?_, Or.inl rfl, rfl, fun _ => ⟨hk.1, hk1⟩, ?_⟩
    · unfold fX5_hold
      refine w_bind (chB_y Mc hu) (w_t rfl (w_bind (t := (Mc 18 u, wr Mc 18 u y1)) ?_ (w_gd hk1 rfl)))
      unfold fX1_changeHeld
      refine w_gdB (by omega) (by omega) (w_gdB (by omega) (by omega) (w_gd hz ?_))
      rw [Int.toNat_natCast]
      exact w_gd hk1 rfl
    · unfold fX6_hold
      refine w_bind (isBub_y Mm hu) (w_gd R1 (w_bind (t := 0) (w_f N1 rfl) (w_bind (ref0 Mm) (w_gd R0 (w_t rfl (w_gdB (by omega) (by omega) (w_gdB (by omega) (by omega) (w_gd hz ?_))))))))
      rw [Int.toNat_natCast]
      exact w_gd hk.2 rfl
    · obtain ⟨a1, a2, a3, a4, a5, a6, a7, a8, a9, a10⟩ := hR
      refine ⟨a1, a2, a3, a4, a5, a6, a7, a8, fun v hv => ?_, a10⟩
      show (if 18 = 18 ∧ v = u then y1 else Mc 18 v) = (if 5 = 5 ∧ v = u then y1 else wr Mm 100 0 0 5 v) ∧ ((if 5 = 5 ∧ v = u then y1 else wr Mm 100 0 0 5 v) = 0 ∨ (if 5 = 5 ∧ v = u then y1 else wr Mm 100 0 0 5 v) = 1)
      by_cases q : v = u
      · rw [if_pos ⟨rfl, q⟩, if_pos ⟨rfl, q⟩]; exact ⟨rfl, hz⟩
      · rw [if_neg (fun z => q z.2), if_neg (fun z => q z.2)]; exact a9 v hv
  · refine ⟨(1, 0, Mc), (0, wr Mm 100 0 1), ?_, ?_, Or.inr rfl, rfl, fun q => absurd (show (1 : Nat) = 0 from q) (by decide), hR.thr 1⟩
    · unfold fX5_hold
      exact w_bind (chB_n Mc hy (by omega)) (w_f N1n rfl)
    · unfold fX6_hold
      exact w_bind (isBub_n Mm hy (by omega)) (w_gd R0 (w_bind (t := 1) (w_t rfl rfl) (w_bind (refk Mm (Or.inl rfl)) (w_gd R1 (w_f N1 rfl)))))
