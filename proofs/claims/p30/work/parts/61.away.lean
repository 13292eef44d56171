/-! away: a town goes, those behind it move up -/
theorem rem_L {M0 : Mem} {t c : Nat} (hc : M0 102 0 = (c : Int)) (h6 : c ≤ 6) (x2 : Int) : ∀ (m k n : Nat) (M : Mem), k + m = c → m < n → t + 1 ≤ k → (∀ a, a ≠ 7 → M a = M0 a) → (∀ i, M 7 i = if t ≤ i ∧ i + 1 < k then M0 7 (i + 1) else M0 7 i) →
    ∃ M', fX3_remove_L11 n M x2 (k : Int) = some M' ∧ (∀ a, a ≠ 7 → M' a = M0 a) ∧ ∀ i, M' 7 i = if t ≤ i ∧ i + 1 < c then M0 7 (i + 1) else M0 7 i := by
  intro m
  induction m with
  | zero =>
    intro k n M h hn ht ha hi
    obtain ⟨n, rfl⟩ : ∃ k, n = k + 1 := ⟨n - 1, by omega⟩
    have e : k = c := by omega
    subst e
    refine ⟨M, ?_, ha, hi⟩
    rw [fX3_remove_L11, ha 102 (by decide)]
    exact w_gdR (by omega) (by omega) (w_gdR (by omega) (by omega) (w_t (by omega) rfl))
  | succ m ih =>
    intro k n M h hn ht ha hi
    obtain ⟨n, rfl⟩ : ∃ k, n = k + 1 := ⟨n - 1, by omega⟩
    have hk : M 7 k = M0 7 k := by rw [hi k, if_neg (by omega)]
    obtain ⟨M', k1, k2⟩ := ih (k + 1) n (wr M 7 (k - 1) (M 7 k)) (by omega) (by omega) (by omega) (fun a h7 => (wr_row M _ h7).trans (ha a h7)) (fun i => by
      show (if (7 : Nat) = 7 ∧ i = k - 1 then M 7 k else M 7 i) = _
      by_cases q : i = k - 1
      · rw [if_pos ⟨rfl, q⟩, if_pos (by omega), hk, q, show k - 1 + 1 = k by omega]
      · rw [if_neg (fun z => q z.2), hi i]
        by_cases d : t ≤ i ∧ i + 1 < k
        · rw [if_pos d, if_pos (by omega)]
        · rw [if_neg d, if_neg (by omega)])
    refine ⟨M', ?_, k2⟩
    rw [fX3_remove_L11, ha 102 (by decide)]
    refine w_gdR (by omega) (by omega) (w_gdR (by omega) (by omega) (w_f (by omega) (w_gdB (by omega) (by omega) (w_gdB (by omega) (by omega) ?_))))
    rw [show ((k : Int) - 1).toNat = k - 1 by omega, Int.toNat_natCast, show (k : Int) + 1 = ((k + 1 : Nat) : Int) by omega]
    exact k1
theorem awm_L {M0 : Mem} {t c : Nat} (hc : M0 101 0 = (c : Int)) (h6 : c ≤ 5) (x2 : Int) : ∀ (m k n : Nat) (M : Mem), k + m = c → m < n → t ≤ k → (∀ a, a ≠ 2 → M a = M0 a) → (∀ i, M 2 i = if t ≤ i ∧ i < k then M0 2 (i + 1) else M0 2 i) →
    ∃ M', fX6_away_L47 n M x2 (k : Int) = some M' ∧ (∀ a, a ≠ 2 → M' a = M0 a) ∧ ∀ i, M' 2 i = if t ≤ i ∧ i < c then M0 2 (i + 1) else M0 2 i := by
  intro m
  induction m with
  | zero =>
    intro k n M h hn ht ha hi
    obtain ⟨n, rfl⟩ : ∃ k, n = k + 1 := ⟨n - 1, by omega⟩
    have e : k = c := by omega
    subst e
    refine ⟨M, ?_, ha, hi⟩
    rw [fX6_away_L47, ha 101 (by decide)]
    exact w_gdR (by omega) (by omega) (w_gdR (by omega) (by omega) (w_t (by omega) rfl))
  | succ m ih =>
    intro k n M h hn ht ha hi
    obtain ⟨n, rfl⟩ : ∃ k, n = k + 1 := ⟨n - 1, by omega⟩
    have hk : M 2 (k + 1) = M0 2 (k + 1) := by rw [hi (k + 1), if_neg (by omega)]
    obtain ⟨M', k1, k2⟩ := ih (k + 1) n (wr M 2 k (M 2 (k + 1))) (by omega) (by omega) (by omega) (fun a h7 => (wr_row M _ h7).trans (ha a h7)) (fun i => by
      show (if (2 : Nat) = 2 ∧ i = k then M 2 (k + 1) else M 2 i) = _
      by_cases q : i = k
      · rw [if_pos ⟨rfl, q⟩, if_pos (by omega), hk, q]
      · rw [if_neg (fun z => q z.2), hi i]
        by_cases d : t ≤ i ∧ i < k
        · rw [if_pos d, if_pos (by omega)]
        · rw [if_neg d, if_neg (by omega)])
    refine ⟨M', ?_, k2⟩
    rw [fX6_away_L47, ha 101 (by decide)]
    refine w_gdR (by omega) (by omega) (w_gdR (by omega) (by omega) (w_f (by omega) (w_gdB (by omega) (by omega) (w_gdB (by omega) (by omega) ?_))))
    rw [show (k : Int) + 1 = ((k + 1 : Nat) : Int) by omega, Int.toNat_natCast, Int.toNat_natCast]
    exact k1
theorem Rl.towns {Mc Mm Mc' Mm' : Mem} (h : Rl Mc Mm) (hc : ∀ a, a ≠ 7 → a ≠ 102 → a ≠ 103 → Mc' a = Mc a) (hm : ∀ a, a ≠ 2 → a ≠ 101 → Mm' a = Mm a) (hw : TWr Mc' Mm') (h0 : Mc' 103 0 = 0) : Rl Mc' Mm' := by
  obtain ⟨a1, a2, a3, a4, a5, a6, a7⟩ := h
  have e : coM Mm' = coM Mm := by
    funext i
    unfold coM
    rw [hm 0 (by decide) (by decide), hm 1 (by decide) (by decide)]
  refine ⟨?_, ?_, ?_, ?_, hw, Or.inl h0, ?_⟩
  · unfold GR at a1 ⊢
    rw [hc 0 (by decide) (by decide) (by decide), hc 1 (by decide) (by decide) (by decide), hc 4 (by decide) (by decide) (by decide), hc 2 (by decide) (by decide) (by decide)]
    exact a1
  · unfold MR at a2 ⊢
    rw [hm 0 (by decide) (by decide), hm 1 (by decide) (by decide)]
    exact a2
  · rw [hc 100 (by decide) (by decide) (by decide), hc 101 (by decide) (by decide) (by decide), hm 0 (by decide) (by decide)]
    exact a3
  · rw [e, hc 3 (by decide) (by decide) (by decide), hc 4 (by decide) (by decide) (by decide), hm 1 (by decide) (by decide)]
    exact a4
  · rw [hc 12 (by decide) (by decide) (by decide), hc 16 (by decide) (by decide) (by decide), hc 18 (by decide) (by decide) (by decide), hc 104 (by decide) (by decide) (by decide), hc 105 (by decide) (by decide) (by decide), hm 3 (by decide) (by decide), hm 4 (by decide) (by decide), hm 5 (by decide) (by decide), hm 102 (by decide) (by decide), hm 103 (by decide) (by decide), hm 104 (by decide) (by decide)]
    exact a7
theorem F_away : Fc_away Rl := by
  intro Mc Mm y0 hR hy
  obtain ⟨w1, w2, w3, w4⟩ := hR.2.2.2.2.1
  by_cases c : 0 ≤ y0 ∧ y0 < Mc 102 0
  · obtain ⟨t, rfl⟩ : ∃ e : Nat, y0 = e := ⟨y0.toNat, by omega⟩
    obtain ⟨k, hk⟩ : ∃ e : Nat, Mc 102 0 = e := ⟨(Mc 102 0).toNat, by omega⟩
    obtain ⟨C1, p1, p2, p3⟩ := rem_L (M0 := Mc) (t := t) hk (by omega) (Mc 7 t) (k - (t + 1)) (t + 1) FU Mc (by omega) (by have := FU_big; omega) (Nat.le_refl _) (fun _ _ => rfl) (fun i => by rw [if_neg (by omega)])
    have hm1 : wr (wr Mm 100 0 0) 101 0 (Mm 101 0 - 1) 101 0 = ((k - 1 : Nat) : Int) := by rw [wr_at]; omega
    obtain ⟨M1, q1, q2, q3⟩ := awm_L (M0 := wr (wr Mm 100 0 0) 101 0 (Mm 101 0 - 1)) (t := t) hm1 (by omega) (Mm 2 t) (k - 1 - t) t FU _ (by omega) (by have := FU_big; omega) (Nat.le_refl _) (fun _ _ => rfl) (fun i => by rw [if_neg (by omega)])
    have c102 : C1 102 0 = (k : Int) := by rw [p2 102 (by decide)]; exact hk
    have m2 : wr (wr Mm 100 0 0) 101 0 (Mm 101 0 - 1) 2 = Mm 2 := by rw [wr_row _ _ (by decide), wr_row _ _ (by decide)]
    have at7 : ∀ i, wr (wr C1 102 0 (C1 102 0 - 1)) 103 0 0 7 i = if t ≤ i ∧ i + 1 < k then Mc 7 (i + 1) else Mc 7 i := fun i => p3 i
    have at102 : wr (wr C1 102 0 (C1 102 0 - 1)) 103 0 0 102 0 = (k : Int) - 1 := by
      show C1 102 0 - 1 = _
      rw [c102]
    have hRl : Rl (wr (wr C1 102 0 (C1 102 0 - 1)) 103 0 0) M1 := by
      refine (hR.thr 0).towns (fun a h7 h102 h103 => ?_) (fun a h2 h101 => ?_) ⟨?_, ?_, fun i hi => ?_, fun i j hi hj e => ?_⟩ rfl
      · rw [wr_row _ _ h103, wr_row _ _ h102, p2 a h7]
      · rw [q2 a h2, wr_row _ _ h101]
      · rw [q2 101 (by decide), hm1, at102]; omega
      · rw [at102]; omega
      · rw [at102] at hi
        rw [at7 i, q3 i, m2]
        by_cases d : t ≤ i ∧ i + 1 < k
        · rw [if_pos d, if_pos (by omega)]
          exact w3 (i + 1) (by omega)
        · rw [if_neg d, if_neg (by omega)]
          exact w3 i (by omega)
      · rw [at102] at hi hj
        rw [at7 i, at7 j] at e
        by_cases d : t ≤ i ∧ i + 1 < k
        · by_cases d2 : t ≤ j ∧ j + 1 < k
          · rw [if_pos d, if_pos d2] at e
            have := w4 _ _ (by omega) (by omega) e
            omega
          · rw [if_pos d, if_neg d2] at e
            have := w4 _ _ (by omega) (by omega) e
            omega
        · by_cases d2 : t ≤ j ∧ j + 1 < k
          · rw [if_neg d, if_pos d2] at e
            have := w4 _ _ (by omega) (by omega) e
            omega
          · rw [if_neg d, if_neg d2] at e
            exact w4 _ _ (by omega) (by omega) e
    refine ⟨(0, Mc 7 t, wr (wr C1 102 0 (C1 102 0 - 1)) 103 0 0), (Mm 2 t, M1), ?_, ?_, Or.inl rfl, ?_, fun _ => (w3 t c.2).1.symm, hRl⟩
    · unfold fX5_away
      refine w_bind (chT_y w2 c.2) (w_t rfl (w_bind (t := (Mc 7 t, wr (wr C1 102 0 (C1 102 0 - 1)) 103 0 0)) ?_ rfl))
      unfold fX3_remove
      refine w_gdB (by omega) (by omega) ?_
      rw [Int.toNat_natCast, show (t : Int) + 1 = ((t + 1 : Nat) : Int) by omega]
      exact w_bind p1 (w_bind rfl rfl)
    · unfold fX6_away
      refine w_bind (in_yes Mm hy R0 ⟨by omega, by omega⟩ ⟨by omega, by omega⟩) (w_gd R1 (w_bind (t := 0) (w_f N1 rfl) (w_bind (ref0 Mm) (w_gd R0 (w_t rfl (w_gdB (by omega) (by omega) ?_))))))
      rw [Int.toNat_natCast]
      exact w_bind q1 rfl
    · show M1 100 0 = 0
      rw [q2 100 (by decide)]
      rfl
  · refine ⟨(1, 0, Mc), (0, wr Mm 100 0 1), ?_, ?_, Or.inr rfl, rfl, fun q => absurd (show (1 : Nat) = 0 from q) (by decide), hR.thr 1⟩
    · unfold fX5_away
      exact w_bind (chT_n w2 hy (by omega)) (w_f N1n rfl)
    · unfold fX6_away
      exact w_bind (in_no Mm hy R0 ⟨by omega, by omega⟩ (by omega)) (w_gd R0 (w_bind (t := 1) (w_t rfl rfl) (w_bind (refk Mm (Or.inl rfl)) (w_gd R1 (w_f N1 rfl)))))
