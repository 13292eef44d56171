/-! leastAnew on both sides -/
theorem hgC_L {M : Mem} {k : Nat} {p : Nat → Int} {tw : Nat → Nat} (hp : PR p) (h : MTw M k p tw) {x y : Nat} (hx : x < 36) (hy : y < 36) : ∀ (m t n : Nat) (s : Int), t + m = k → m < n → fX3_hungOn_L5 n M (x : Int) (y : Int) s (t : Int) = some (s + ss (fun t => mn (dsF p (tw t) y) (dsF p (tw t) x)) t m) := by
  obtain ⟨hc, hk, h3, h4⟩ := h
  intro m
  induction m with
  | zero =>
    intro t n s h1 hn
    obtain ⟨n, rfl⟩ : ∃ k, n = k + 1 := ⟨n - 1, by omega⟩
    rw [fX3_hungOn_L5, hc, ss, Int.add_zero]
    exact w_gdR (by omega) (by omega) (w_gdR (by omega) (by omega) (w_t (by omega) rfl))
  | succ m ih =>
    intro t n s h1 hn
    obtain ⟨n, rfl⟩ : ∃ k, n = k + 1 := ⟨n - 1, by omega⟩
    have ht : t < k := by omega
    have b1 := dsF_bd hp (h3 t ht).2 hx
    have b2 := dsF_bd hp (h3 t ht).2 hy
    rw [fX3_hungOn_L5, hc]
    refine w_gdR (by omega) (by omega) (w_gdR (by omega) (by omega) (w_f (by omega) (w_gdB (by omega) (by omega) (w_gdB (by omega) (by omega) ?_))))
    rw [show ((t : Int) * 36 + (x : Int)).toNat = 36 * t + x by omega, show ((t : Int) * 36 + (y : Int)).toNat = 36 * t + y by omega, h4 t ht x hx, h4 t ht y hy]
    refine w_gdR (by omega) (by omega) (w_gdR (by omega) (by omega) ?_)
    rw [show (t : Int) + 1 = ((t + 1 : Nat) : Int) by omega, ss, ← Int.add_assoc]
    exact ih (t + 1) n _ (by omega) (by omega)
theorem MTw.keep10 {M M' : Mem} {k : Nat} {p : Nat → Int} {tw : Nat → Nat} (h : MTw M k p tw) (f : ∀ a, a ≠ 10 → M' a = M a) : MTw M' k p tw := by
  unfold MTw at h ⊢
  rw [f 102 (by decide), f 7 (by decide), f 9 (by decide)]
  exact h
theorem hg_bd {p : Nat → Int} (hp : PR p) {k : Nat} (hk : k ≤ 6) {tw : Nat → Nat} (htw : ∀ i, i < k → tw i < 36) {x y : Nat} (hx : x < 36) (hy : y < 36) : 0 ≤ ss (fun t => mn (dsF p (tw t) y) (dsF p (tw t) x)) 0 k ∧ ss (fun t => mn (dsF p (tw t) y) (dsF p (tw t) x)) 0 k ≤ 3540 := by
  have b : ∀ t, t < k → 0 ≤ mn (dsF p (tw t) y) (dsF p (tw t) x) ∧ mn (dsF p (tw t) y) (dsF p (tw t) x) ≤ 590 := fun t ht => by
    have b1 := dsF_bd hp (htw t ht) hx
    have b2 := dsF_bd hp (htw t ht) hy
    have m := mn_le (dsF p (tw t) y) (dsF p (tw t) x)
    omega
  have u := ss_ub (f := fun t => mn (dsF p (tw t) y) (dsF p (tw t) x)) (c := 590) k 0 (fun t _ ht => (b t (by omega)).2)
  exact ⟨ss_nn k 0 (fun t _ ht => (b t (by omega)).1), by omega⟩
theorem cs49 {M : Mem} {k : Nat} {p : Nat → Int} {tw : Nat → Nat} (hp : PR p) (h : MTw M k p tw) {x : Nat} (hx : x < 36) (h10 : ∀ v, v < 36 → M 10 v = dsF p x v) : ∀ (m y n : Nat) (b : Int), y + m = 36 → m < n → 0 ≤ b ∧ b ≤ 1000000 →
    ∃ r, fX3_cheapestOfShapes_L49 n M b (x : Int) (y : Int) = some r ∧ (0 ≤ r ∧ r ≤ 1000000) ∧ ∀ X, X ≤ r ↔ (X ≤ b ∧ ∀ z, y ≤ z → z < 36 → X ≤ shp p k tw x z) := by
  have htw := fun i hi => (h.2.2.1 i hi).2
  have hk := h.2.1
  intro m
  induction m with
  | zero =>
    intro y n b h1 hn hb
    obtain ⟨n, rfl⟩ : ∃ k, n = k + 1 := ⟨n - 1, by omega⟩
    refine ⟨b, ?_, hb, fun X => ⟨fun z => ⟨z, fun z z1 z2 => absurd z2 (by omega)⟩, fun z => z.1⟩⟩
    rw [fX3_cheapestOfShapes_L49]
    exact w_gdR (by omega) (by omega) (w_t (by omega) rfl)
  | succ m ih =>
    intro y n b h1 hn hb
    obtain ⟨n, rfl⟩ : ∃ k, n = k + 1 := ⟨n - 1, by omega⟩
    have hy : y < 36 := by omega
    have hd := dsF_bd hp hx hy
    have hh := hg_bd hp hk htw hx hy
    have hs : shp p k tw x y = dsF p x y + ss (fun t => mn (dsF p (tw t) y) (dsF p (tw t) x)) 0 k := rfl
    have c := mn_le (shp p k tw x y) b
    obtain ⟨r, g1, g2, g3⟩ := ih (y + 1) n (mn (shp p k tw x y) b) (by omega) (by omega) (by omega)
    refine ⟨r, ?_, g2, fun X => (g3 X).trans ⟨fun z => ⟨by omega, fun q q1 q2 => ?_⟩, fun z => ⟨by have := z.2 y (Nat.le_refl _) hy; omega, fun q q1 q2 => z.2 q (by omega) q2⟩⟩⟩
    · clear g3
      have hg := hgC_L hp h hx hy k 0 FU 0 (by omega) (by have := FU_big; omega)
      rw [Int.zero_add] at hg
      rw [fX3_cheapestOfShapes_L49]
      refine w_gdR (by omega) (by omega) (w_f (by omega) (w_gdB (by omega) (by omega) (w_bind (t := ss (fun t => mn (dsF p (tw t) y) (dsF p (tw t) x)) 0 k) ?_ ?_)))
      · unfold fX3_hungOn
        exact w_bind hg rfl
      · rw [Int.toNat_natCast, h10 y hy]
        refine w_gdR (by omega) (by omega) (w_gdR (by omega) (by omega) ?_)
        rw [show (y : Int) + 1 = ((y + 1 : Nat) : Int) by omega, ← hs]
        exact g1
    · by_cases e : q = y
      · rw [e]; omega
      · exact z.2 q (by omega) q2
theorem cs30 {M0 : Mem} {k : Nat} {tw : Nat → Nat} (hg : GR M0) (h : MTw M0 k (M0 4) tw) : ∀ (m x n : Nat) (M : Mem) (b : Int), x + m = 36 → m < n → (∀ a, a ≠ 10 → M a = M0 a) → 0 ≤ b ∧ b ≤ 1000000 →
    ∃ (r : Int) (M' : Mem), fX3_cheapestOfShapes_L30 n M b (x : Int) = some (r, M') ∧ (∀ a, a ≠ 10 → M' a = M0 a) ∧ (0 ≤ r ∧ r ≤ 1000000) ∧ ∀ X, X ≤ r ↔ (X ≤ b ∧ ∀ u, x ≤ u → u < 36 → ∀ z, u ≤ z → z < 36 → X ≤ shp (M0 4) k tw u z) := by
  intro m
  induction m with
  | zero =>
    intro x n M b h1 hn ha hb
    obtain ⟨n, rfl⟩ : ∃ k, n = k + 1 := ⟨n - 1, by omega⟩
    refine ⟨b, M, ?_, ha, hb, fun X => ⟨fun z => ⟨z, fun z z1 z2 => absurd z2 (by omega)⟩, fun z => z.1⟩⟩
    rw [fX3_cheapestOfShapes_L30]
    exact w_gdR (by omega) (by omega) (w_t (by omega) rfl)
  | succ m ih =>
    intro x n M b h1 hn ha hb
    obtain ⟨n, rfl⟩ : ∃ k, n = k + 1 := ⟨n - 1, by omega⟩
    have hx : x < 36 := by omega
    have hgM : GR M := by
      unfold GR
      rw [ha 0 (by decide), ha 1 (by decide), ha 2 (by decide), ha 4 (by decide)]
      exact hg
    have e4 : M 4 = M0 4 := ha 4 (by decide)
    obtain ⟨M1, m1, m2, m3⟩ := meaC (M := M) (tb := 10) (b := 0) ⟨⟨by decide, by decide⟩, by decide, by decide, by decide, by decide, by decide⟩ hgM hx (by rw [e4]; exact (dsF_is hg.PR hx).gc hg.PR hx (B := 1000000) (by decide))
    have ha1 : ∀ a, a ≠ 10 → M1 a = M0 a := fun a h10 => by rw [m2.arr h10, ha a h10]
    obtain ⟨y, y1, y2, y3⟩ := cs49 hg.PR (h.keep10 ha1) hx (fun v hv => by
      have := m3 v hv
      unfold rowOf at this
      rw [Nat.zero_add] at this
      exact this) (36 - x) x FU b (by omega) (by have := FU_big; omega) hb
    obtain ⟨r, M', g1, g2, g3, g4⟩ := ih (x + 1) n M1 y (by omega) (by omega) ha1 y2
    refine ⟨r, M', ?_, g2, g3, fun X => (g4 X).trans ⟨fun z => ?_, fun z => ⟨(y3 X).mpr ⟨z.1, z.2 x (Nat.le_refl _) hx⟩, fun u u1 u2 => z.2 u (by omega) u2⟩⟩⟩
    · clear g4 y3
      rw [fX3_cheapestOfShapes_L30]
      refine w_gdR (by omega) (by omega) (w_f (by omega) (w_bind m1 (w_bind y1 ?_)))
      rw [show (x : Int) + 1 = ((x + 1 : Nat) : Int) by omega]
      exact g1
    · have q := (y3 X).mp z.1
      refine ⟨q.1, fun u u1 u2 => ?_⟩
      by_cases e : u = x
      · rw [e]; exact q.2
      · exact z.2 u (by omega) u2
theorem Rm1 : inR (-1) := ⟨by decide, by decide⟩
theorem F_leastAnew : Fc_leastAnew Rl := by
  intro Mc Mm hR
  have h0 := hR.thr 0
  obtain ⟨w1, w2, w3, w4⟩ := hR.2.2.2.2.1
  obtain ⟨k, hk⟩ : ∃ k : Nat, Mc 102 0 = (k : Int) := ⟨(Mc 102 0).toNat, by omega⟩
  have e101 : wr Mm 100 0 0 101 0 = (k : Int) := by rw [← hk]; exact w1
  by_cases c4 : k ≤ 4
  · have htwM : ∀ i, i < k → 0 ≤ Mm 2 i ∧ Mm 2 i < 36 := fun i hi => by
      have := w3 i (by omega)
      rw [this.1]; exact this.2
    obtain ⟨r, M, a1, a2, a3, a4, a5⟩ := lnM (M0 := wr Mm 100 0 0) h0.2.1 hR.2.2.2.2.2.2.2.2.2.2.2 (by omega) e101 htwM
    have hRM : Rl Mc M := h0.keep (fun _ _ => rfl) (fun a ha => a2 a (by intro q; subst q; revert ha; decide) (by intro q; subst q; revert ha; decide))
    have mod : fX6_leastAnew Mm = some (r, M) := by
      unfold fX6_leastAnew
      rw [e101]
      exact w_gdR (by omega) (by omega) (w_bind (w_t (by omega) (w_bind a1 rfl)) rfl)
    by_cases c2 : k < 2
    · refine ⟨(0, Mc), (r, M), ?_, mod, (a4 c2).symm, ?_, hRM⟩
      · unfold fX5_leastAnew
        refine w_bind (t := (0, Mc)) ?_ rfl
        unfold fX3_cheapestOfShapes
        exact w_gdR (by omega) (by omega) (w_t (by omega) (w_f (by omega) rfl))
      · rw [a4 c2]; exact R0
    · obtain ⟨s1, s2⟩ := a5 (by omega)
      have htw : ∀ i, i < k → Mc 7 i = ((Mc 7 i).toNat : Int) ∧ (Mc 7 i).toNat < 36 := fun i hi => by
        have := w3 i (by omega)
        omega
      have s3 : STt (Mc 4) k (fun i => (Mc 7 i).toNat) (fun S v => M 8 (36 * S + v)) := s1.congr (fun e he => (hR.2.2.2.1 e he).2.symm) (fun i hi => by
        show (Mm 2 i).toNat = (Mc 7 i).toNat
        rw [(w3 i (by omega)).1])
      obtain ⟨C1, m1, m2, m3⟩ := mtC hR.1 (by omega) hk htw
      have e4 : C1 4 = Mc 4 := m2 4 (by decide)
      have hg1 : GR C1 := by
        have g := hR.1
        unfold GR at g ⊢
        rw [m2 0 (by decide), m2 1 (by decide), m2 2 (by decide), e4]
        exact g
      rw [← e4] at m3 s3
      obtain ⟨x, C2, b1, b2, b3, b4⟩ := cs30 hg1 m3 36 0 FU C1 1000000 (by omega) (by have := FU_big; omega) (fun _ _ => rfl) ⟨by omega, by omega⟩
      have tw36 : ∀ i, i < k → (Mc 7 i).toNat < 36 := fun i hi => (htw i hi).2
      have e0 : (Mm 2 0).toNat = (Mc 7 0).toNat := by rw [(w3 0 (by omega)).1]
      have s2 : r = M 8 (36 * (2 ^ k - 1) + (Mc 7 0).toNat) := by rw [← e0]; exact s2
      have p1 := pow_mono (i := 0) (k := k) (by omega)
      rw [Nat.pow_zero] at p1
      have p7 := (pow7 k (by omega)).1
      have bd := s3.bd hg1.PR (by omega) tw36 (2 ^ k - 1) (by omega) (by omega) (Mc 7 0).toNat (tw36 0 (by omega))
      have bd : 0 ≤ M 8 (36 * (2 ^ k - 1) + (Mc 7 0).toNat) ∧ M 8 (36 * (2 ^ k - 1) + (Mc 7 0).toNat) ≤ 590 * ((2 ^ k - 1 : Nat) : Int) := bd
      rw [← s2] at bd
      have xr : x = r := by
        refine Int.le_antisymm ?_ ((b4 r).mpr ⟨by omega, fun u _ u2 z z1 z2 => ?_⟩)
        · obtain ⟨u, z, o1, o2, o3⟩ := shp_le hg1.PR (by omega) c4 tw36 s3
          have := ((b4 x).mp (Int.le_refl _)).2 u (Nat.zero_le _) (by omega) z o1 o2
          have o3 : shp (C1 4) k (fun i => (Mc 7 i).toNat) u z ≤ M 8 (36 * (2 ^ k - 1) + (Mc 7 0).toNat) := o3
          rw [← s2] at o3
          omega
        · have := shp_ge hg1.PR (by omega) (by omega) tw36 s3 u2 z2
          have this : M 8 (36 * (2 ^ k - 1) + (Mc 7 0).toNat) ≤ shp (C1 4) k (fun i => (Mc 7 i).toNat) u z := this
          rw [← s2] at this
          exact this
      refine ⟨(x, C2), (r, M), ?_, mod, xr, ⟨by omega, by omega⟩, hRM.keep (fun a ha => ?_) (fun _ _ => rfl)⟩
      · unfold fX5_leastAnew
        refine w_bind (t := (x, C2)) ?_ rfl
        unfold fX3_cheapestOfShapes
        exact w_gdR (by omega) (by omega) (w_t (by omega) (w_t (by omega) (w_bind m1 (w_bind b1 rfl))))
      · have n9 : a ≠ 9 := by intro q; subst q; revert ha; decide
        have n10 : a ≠ 10 := by intro q; subst q; revert ha; decide
        exact (b2 a n10).trans (m2 a n9)
  · refine ⟨(-1, Mc), (-1, wr Mm 100 0 0), ?_, ?_, rfl, Rm1, h0⟩
    · unfold fX5_leastAnew
      refine w_bind (t := (-1, Mc)) ?_ rfl
      unfold fX3_cheapestOfShapes
      exact w_gdR (by omega) (by omega) (w_f (by omega) rfl)
    · unfold fX6_leastAnew
      rw [e101]
      exact w_gdR (by omega) (by omega) (w_bind (w_f (by omega) rfl) rfl)
