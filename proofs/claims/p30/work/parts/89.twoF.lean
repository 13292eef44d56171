/-! two ways on both sides; all facts -/
theorem twC {Mc Mm : Mem} (hR : Rl Mc Mm) {s t : Nat} (hs : s < 36) (ht : t < 36) : ∃ (f ρ : Nat → Int) (C : Mem), fX4_cheapestPair Mc (s : Int) (t : Int) = some (dsF (coM Mm) s t + ρ t, C) ∧ uni f ∧ stO f s t 1 ∧ cst (coM Mm) f = dsF (coM Mm) s t ∧ Pot (coM Mm) f s (dsF (coM Mm) s) ∧ Dsd (coM Mm) f s ρ ∧ LE36 (dsF (coM Mm) s) ρ ∧ (∀ v, v < 36 → ρ v ≤ 2124) ∧ ∀ a, a ≠ 5 → a ≠ 6 → C a = Mc a := by
  have hm := hR.2.1
  have hp : p159 (coM Mm) := fun e he => coM_bd hm he
  have hP := hm.PR
  have e4 : ∀ e, e < 60 → Mc 4 e = coM Mm e := fun e he => (hR.2.2.2.1 e he).2
  have hG := (dsF_is hP hs).gc hP hs (B := 1000000) (by decide)
  have hG2 : GC (Mc 4) (stR s 1000000) (dsF (coM Mm) s) := ⟨fun e he => by rw [e4 e he]; exact hG.1 e he, hG.2.1, fun g h1 h2 => hG.2.2 g (fun e he => by rw [← e4 e he]; exact h1 e he) h2⟩
  obtain ⟨M1, a1, a2, a3⟩ := meaC (M := Mc) (tb := 5) (b := 0) ⟨⟨by decide, by decide⟩, by decide, by decide, by decide, by decide, by decide⟩ hR.1 hs hG2
  have r5 : ∀ v, v < 36 → M1 5 v = dsF (coM Mm) s v := fun v hv => by
    have := a3 v hv
    unfold rowOf at this
    rw [Nat.zero_add] at this
    exact this
  have hg1 : GR M1 := by
    have g := hR.1
    unfold GR at g ⊢
    rw [a2.arr (show 0 ≠ 5 by decide), a2.arr (show 1 ≠ 5 by decide), a2.arr (show 2 ≠ 5 by decide), a2.arr (show 4 ≠ 5 by decide)]
    exact g
  obtain ⟨M2, b1, b2, b3, b4, b5⟩ := tbC hg1 hp (by rw [a2.arr (show 4 ≠ 5 by decide)]; exact e4) hs ht r5
  have hpot := unit_pot hp hs ht b3 b4 b5
  obtain ⟨ρ, d1, d2, d3⟩ := Dsd_ex hp hs (NB_unit hs ht b4 b3) hpot
  have hg2 : GR M2 := by
    unfold GR
    rw [b2 0 (by decide), b2 1 (by decide), b2 2 (by decide), b2 4 (by decide)]
    exact hg1
  have ρ0 : ∀ v, v < 36 → 0 ≤ ρ v ∧ ρ v ≤ 2124 := fun v hv => ⟨by have := d2 v hv; have := (hpot.2.2 v hv).1; omega, d3 v hv⟩
  obtain ⟨M3, c1, c2, c3⟩ := mbC hg2 hp (by rw [b2 4 (by decide), a2.arr (show 4 ≠ 5 by decide)]; exact e4) (f := M2 6) (fun _ _ => rfl) b3 hs d1 ρ0
  refine ⟨M2 6, ρ, M3, ?_, b3, b4, b5, hpot, d1, d2, d3, fun a h5 h6 => by rw [c2.arr h5, b2 a h6, a2.arr h5]⟩
  unfold fX4_cheapestPair
  refine w_bind (t := (dsF (coM Mm) s t, M1)) ?_ (w_bind b1 (w_bind c1 (w_gdB (by omega) (by omega) ?_)))
  · unfold fX4_cheapest
    refine w_bind a1 (w_gdB (by omega) (by omega) ?_)
    rw [Int.toNat_natCast, r5 t ht]
  · rw [Int.toNat_natCast, c3 t ht]
theorem twZ_L {M0 : Mem} (x1 x2 : Int) : ∀ (m e n : Nat) (M : Mem), e + m = 60 → m < n → (∀ a, a ≠ 9 → M a = M0 a) → (∀ i, i < e → M 9 i = 0) →
    ∃ M', fX6_twoWays_L39 n M x1 x2 (e : Int) = some M' ∧ (∀ a, a ≠ 9 → M' a = M0 a) ∧ ∀ i, i < 60 → M' 9 i = 0 := by
  intro m
  induction m with
  | zero =>
    intro e n M h hn ha hz
    obtain ⟨n, rfl⟩ : ∃ k, n = k + 1 := ⟨n - 1, by omega⟩
    refine ⟨M, ?_, ha, fun i hi => hz i (by omega)⟩
    rw [fX6_twoWays_L39]
    exact w_gdR (by omega) (by omega) (w_t (by omega) rfl)
  | succ m ih =>
    intro e n M h hn ha hz
    obtain ⟨n, rfl⟩ : ∃ k, n = k + 1 := ⟨n - 1, by omega⟩
    obtain ⟨M', g1, g2⟩ := ih (e + 1) n (wr M 9 e 0) (by omega) (by omega) (fun a h1 => (wr_row M _ h1).trans (ha a h1)) (fun i hi => by
      rw [wr_put]
      by_cases q : i = e
      · rw [q, put_at]
      · rw [put_ne q]; exact hz i (by omega))
    refine ⟨M', ?_, g2⟩
    rw [fX6_twoWays_L39]
    refine w_gdR (by omega) (by omega) (w_f (by omega) (w_gdB (by omega) (by omega) ?_))
    rw [show (e : Int) + 1 = ((e + 1 : Nat) : Int) by omega, Int.toNat_natCast]
    exact g1
theorem zero_pot {p f : Nat → Int} (hp : p159 p) {s : Nat} (hs : s < 36) (hf : ∀ e, e < 60 → f e = 0) : Pot p f s (dsF p s) ∧ Dsd p f s (dsF p s) := by
  have hP : PR p := fun e he => by have := hp e he; omega
  have d := dsF_is hP hs
  have iff1 : ∀ g, CLo p g → CLd p f g := fun g hg j hj _ => by
    have he : j / 2 < 60 := by omega
    have c := hg _ he
    unfold rcL arT arF
    rw [hf _ he, if_pos rfl]
    by_cases q : j % 2 = 0
    · rw [if_pos q, if_pos q]; exact c.1
    · rw [if_neg q, if_neg q]; exact c.2
  have iff2 : ∀ g, CLd p f g → CLo p g := fun g hg e he => by
    have a := hg (2 * e) (by omega)
    have b := hg (2 * e + 1) (by omega)
    unfold alA arF arT rcL at a b
    rw [if_pos (show 2 * e % 2 = 0 by omega), if_pos (show 2 * e % 2 = 0 by omega), if_pos (show 2 * e % 2 = 0 by omega), show 2 * e / 2 = e by omega, hf e he, if_pos rfl] at a
    rw [if_neg (show ¬ (2 * e + 1) % 2 = 0 by omega), if_neg (show ¬ (2 * e + 1) % 2 = 0 by omega), if_neg (show ¬ (2 * e + 1) % 2 = 0 by omega), show (2 * e + 1) / 2 = e by omega, hf e he, if_pos rfl] at b
    exact ⟨a (Int.le_refl 0), b (Int.le_refl 0)⟩
  exact ⟨⟨iff1 _ d.1, dsF_self hP hs, fun v hv => dsF_bd hP hs hv⟩, iff1 _ d.1, d.2.1, fun g g1 g2 => d.2.2 g (iff2 g g1) g2⟩
theorem twM {Mm : Mem} (hm : MR Mm) {s t : Nat} (hs : s < 36) (ht : t < 36) : ∃ (f ρ x : Nat → Int) (M1 M2 M3 : Mem), fX6_twoWays_L39 FU Mm (s : Int) (t : Int) 0 = some M1 ∧ fX6_oneWay M1 (s : Int) (t : Int) = some (dsF (coM Mm) s t, M2) ∧ fX6_oneWay M2 (s : Int) (t : Int) = some (ρ t, M3) ∧ uni f ∧ stO f s t 1 ∧ cst (coM Mm) f = dsF (coM Mm) s t ∧ Dsd (coM Mm) f s ρ ∧ (∀ v, v < 36 → 0 ≤ ρ v ∧ ρ v ≤ 2124) ∧ uni x ∧ stO x s t 2 ∧ cst (coM Mm) x = dsF (coM Mm) s t + ρ t ∧ ∀ a, a ≠ 6 → a ≠ 9 → a ≠ 10 → M3 a = Mm a := by
  have hp : p159 (coM Mm) := fun e he => coM_bd hm he
  have hP := hm.PR
  obtain ⟨M1, a1, a2, a3⟩ := twZ_L (M0 := Mm) (s : Int) (t : Int) 60 0 FU Mm (by omega) (by have := FU_big; omega) (fun _ _ => rfl) (fun i hi => absurd hi (by omega))
  have c1 : coM M1 = coM Mm := coM_of (a2 0 (by decide)) (a2 1 (by decide))
  have hm1 : MR M1 := by
    unfold MR at hm ⊢
    rw [a2 0 (by decide), a2 1 (by decide)]
    exact hm
  obtain ⟨z1, z2⟩ := zero_pot hp hs a3
  obtain ⟨M2, b1, b2, b3, b4, b5⟩ := owM hm1 (fun e he => Or.inr (Or.inl (a3 e he))) hs ht (π := dsF (coM Mm) s) (ρ := dsF (coM Mm) s) (by rw [c1]; exact z1) (by rw [c1]; exact z2) (fun _ _ => Int.le_refl _) (fun v hv => by have := dsF_bd hP hs hv; omega)
  rw [c1, cst0 a3, Int.zero_add] at b5
  have o2 : stO (M2 9) s t 1 := fun v hv => by rw [b4 v hv, out0 a3, Int.zero_add]
  have hpot := unit_pot hp hs ht b3 o2 b5
  obtain ⟨ρ, d1, d2, d3⟩ := Dsd_ex hp hs (NB_unit hs ht o2 b3) hpot
  have c2 : coM M2 = coM Mm := (coM_of (b2 0 (by decide) (by decide) (by decide)) (b2 1 (by decide) (by decide) (by decide))).trans c1
  have hm2 : MR M2 := by
    unfold MR at hm1 ⊢
    rw [b2 0 (by decide) (by decide) (by decide), b2 1 (by decide) (by decide) (by decide)]
    exact hm1
  obtain ⟨M3, e1, e2, e3, e4, e5⟩ := owM hm2 b3 hs ht (π := dsF (coM Mm) s) (ρ := ρ) (by rw [c2]; exact hpot) (by rw [c2]; exact d1) d2 d3
  rw [c2, b5] at e5
  refine ⟨M2 9, ρ, M3 9, M1, M2, M3, a1, b1, e1, b3, o2, b5, d1, fun v hv => ⟨by have := d2 v hv; have := (hpot.2.2 v hv).1; omega, d3 v hv⟩, e3, fun v hv => ?_, e5, fun a h6 h9 h10 => by rw [e2 a h6 h9 h10, b2 a h6 h9 h10, a2 a h9]⟩
  rw [e4 v hv, o2 v hv]
  by_cases q1 : v = s
  · by_cases q2 : v = t
    · rw [if_pos q1, if_pos q2, if_pos q1, if_pos q2]; omega
    · rw [if_pos q1, if_neg q2, if_pos q1, if_neg q2]; omega
  · by_cases q2 : v = t
    · rw [if_neg q1, if_pos q2, if_neg q1, if_pos q2]; omega
    · rw [if_neg q1, if_neg q2, if_neg q1, if_neg q2]; omega
theorem F_twoWays : Fc_twoWays Rl := by
  intro Mc Mm y0 y1 hR hy hz
  by_cases c : 0 ≤ y0 ∧ y0 < 36
  · obtain ⟨s, rfl⟩ : ∃ e : Nat, y0 = e := ⟨y0.toNat, by omega⟩
    have hs : s < 36 := by omega
    by_cases d : 0 ≤ y1 ∧ y1 < 36
    · obtain ⟨t, rfl⟩ : ∃ e : Nat, y1 = e := ⟨y1.toNat, by omega⟩
      have ht : t < 36 := by omega
      by_cases e : s = t
      · refine ⟨(2, 0, Mc), (0, wr Mm 100 0 2), ?_, ?_, Or.inr (Or.inr rfl), rfl, fun q => absurd (show (2 : Nat) = 0 from q) (by decide), hR.thr 2⟩
        · unfold fX5_twoWays
          exact w_bind (chN_y Mc hs) (w_t rfl (w_bind (chN_y Mc ht) (w_t rfl (w_gd hy (w_gd hz (w_t (by omega) rfl))))))
        · unfold fX6_twoWays
          exact w_bind (isNode_y Mm hs) (w_gd R1 (w_bind (t := 2) (w_f N1 (w_bind (isNode_y Mm ht) (w_gd R1 (w_f N1 (w_gd hy (w_gd hz (w_t (by omega) rfl))))))) (w_bind (refk Mm (Or.inr rfl)) (w_gd R1 (w_f N1 rfl)))))
      · have h0 := hR.thr 0
        have hp : p159 (coM Mm) := fun e he => coM_bd hR.2.1 he
        have c0 : coM (wr Mm 100 0 0) = coM Mm := rfl
        obtain ⟨f, ρ, C, a1, a2, a3, a4, a5, a6, a7, a8, a9⟩ := twC hR hs ht
        obtain ⟨g, σ, x, M1, M2, M3, b1, b2, b3, b4, b5, b6, b7, b8, b9, b10, b11, b12⟩ := twM (Mm := wr Mm 100 0 0) h0.2.1 hs ht
        rw [c0] at b2 b6 b7 b11
        have ρ0 : 0 ≤ ρ s := by have := a7 s hs; have := (a5.2.2 s hs).1; omega
        -- the class's first way, gone on with by the reference's means
        have hmN : MR (fun a => if a = 9 then f else Mm a) := hR.2.1
        have cN : coM (fun a => if a = 9 then f else Mm a) = coM Mm := rfl
        obtain ⟨M4, e1, e2, e3, e4, e5⟩ := owM (M := fun a => if a = 9 then f else Mm a) hmN a2 hs ht (π := dsF (coM Mm) s) (ρ := ρ) (by rw [cN]; exact a5) (by rw [cN]; exact a6) a7 a8
        rw [cN] at e5
        have e5 : cst (coM Mm) (M4 9) = cst (coM Mm) f + ρ t := e5
        have o4 : stO (M4 9) s t 2 := fun v hv => by
          have k : outF (M4 9) v = outF f v + (if v = s then 1 else 0) - (if v = t then 1 else 0) := e4 v hv
          rw [k, a3 v hv]
          by_cases q1 : v = s
          · by_cases q2 : v = t
            · rw [if_pos q1, if_pos q2, if_pos q1, if_pos q2]; omega
            · rw [if_pos q1, if_neg q2, if_pos q1, if_neg q2]; omega
          · by_cases q2 : v = t
            · rw [if_neg q1, if_pos q2, if_neg q1, if_pos q2]; omega
            · rw [if_neg q1, if_neg q2, if_neg q1, if_neg q2]; omega
        have l1 := two_low hp hs ht a2 b9 a3 b10 a6 ρ0
        have l2 := two_low hp hs ht b4 e3 b5 o4 b7 (b8 s hs).1
        have same : ρ t = σ t := by omega
        refine ⟨(0, dsF (coM Mm) s t + ρ t, C), (dsF (coM Mm) s t + σ t, M3), ?_, ?_, Or.inl rfl, ?_, fun _ => by rw [same], (h0.keep (fun a ha => a9 a (by intro q; subst q; revert ha; decide) (by intro q; subst q; revert ha; decide)) (fun a ha => b12 a (by intro q; subst q; revert ha; decide) (by intro q; subst q; revert ha; decide) (by intro q; subst q; revert ha; decide)))⟩
        · unfold fX5_twoWays
          exact w_bind (chN_y Mc hs) (w_t rfl (w_bind (chN_y Mc ht) (w_t rfl (w_gd hy (w_gd hz (w_f (by omega) (w_bind a1 rfl)))))))
        · unfold fX6_twoWays
          exact w_bind (isNode_y Mm hs) (w_gd R1 (w_bind (t := 0) (w_f N1 (w_bind (isNode_y Mm ht) (w_gd R1 (w_f N1 (w_gd hy (w_gd hz (w_f (by omega) rfl))))))) (w_bind (ref0 Mm) (w_gd R0 (w_t rfl (w_bind b1 (w_bind b2 (w_bind b3 rfl))))))))
        · show M3 100 0 = 0
          rw [b12 100 (by decide) (by decide) (by decide)]
          rfl
    · refine ⟨(1, 0, Mc), (0, wr Mm 100 0 1), ?_, ?_, Or.inr (Or.inl rfl), rfl, fun q => absurd (show (1 : Nat) = 0 from q) (by decide), hR.thr 1⟩
      · unfold fX5_twoWays
        exact w_bind (chN_y Mc hs) (w_t rfl (w_bind (chN_n Mc hz (by omega)) (w_f N1n rfl)))
      · unfold fX6_twoWays
        exact w_bind (isNode_y Mm hs) (w_gd R1 (w_bind (t := 1) (w_f N1 (w_bind (isNode_n Mm hz (by omega)) (w_gd R0 (w_t rfl rfl)))) (w_bind (refk Mm (Or.inl rfl)) (w_gd R1 (w_f N1 rfl)))))
  · refine ⟨(1, 0, Mc), (0, wr Mm 100 0 1), ?_, ?_, Or.inr (Or.inl rfl), rfl, fun q => absurd (show (1 : Nat) = 0 from q) (by decide), hR.thr 1⟩
    · unfold fX5_twoWays
      exact w_bind (chN_n Mc hy (by omega)) (w_f N1n rfl)
    · unfold fX6_twoWays
      exact w_bind (isNode_n Mm hy (by omega)) (w_gd R0 (w_bind (t := 1) (w_t rfl rfl) (w_bind (refk Mm (Or.inl rfl)) (w_gd R1 (w_f N1 rfl)))))
theorem facts : Facts Rl := ⟨F_cost, F_lay, F_edge, F_apart, F_town, F_away, F_townAt, F_least, F_leastAnew, F_bound, F_gap, F_isUsed, F_twoWays, F_pin, F_film, F_proof, F_side, F_costOf, F_pull, F_hold, F_breathe, F_bubbleAt, F_bubble, F_wall, F_corners, F_rests, F_energy⟩
