/-! breathe, rests, energy -/
theorem stM_L {Mm : Mem} (hs : fX6_breath Mm = some (0, Mm)) {B : Nat} (hB : B ≤ 100) (x2 x3 : Int) : ∀ (m k n : Nat), k + m = B → m < n → fX6_breathe_L34 n Mm (B : Int) x2 x3 (k : Int) = some (x3, Mm) := by
  intro m
  induction m with
  | zero =>
    intro k n h hn
    obtain ⟨n, rfl⟩ : ∃ k, n = k + 1 := ⟨n - 1, by omega⟩
    rw [fX6_breathe_L34]
    exact w_gdR (by omega) (by omega) (w_gdR (by omega) (by omega) (w_t (by omega) rfl))
  | succ m ih =>
    intro k n h hn
    obtain ⟨n, rfl⟩ : ∃ k, n = k + 1 := ⟨n - 1, by omega⟩
    rw [fX6_breathe_L34]
    refine w_gdR (by omega) (by omega) (w_gdR (by omega) (by omega) (w_f (by omega) (w_bind hs ?_)))
    rw [Int.add_zero, show (k : Int) + 1 = ((k + 1 : Nat) : Int) by omega]
    exact ih (k + 1) n (by omega) (by omega)
theorem letJ_L {B : Nat} (hB : B ≤ 100) (x3 x2 : Int) : ∀ (m k n n' : Nat) (Mc Mm : Mem) (mv x5 : Int), k + m = B → m < n → m < n' → FJ 16 Mc Mm → (x5 = 1 ∨ (x5 = 0 ∧ fX6_breath Mm = some (0, Mm))) →
    ∃ r Mc' Mm', fX1_letBreathe_L15 n Mc (B : Int) x3 mv x5 (k : Int) = some (r, Mc') ∧ fX6_breathe_L34 n' Mm (B : Int) x2 mv (k : Int) = some (r, Mm') ∧ FJ 16 Mc' Mm' ∧ onlyRow Mc Mc' 16 0 ∧ onlyRow Mm Mm' 4 0 := by
  intro m
  induction m with
  | zero =>
    intro k n n' Mc Mm mv x5 h hn hn' hJ hx
    obtain ⟨n, rfl⟩ : ∃ k, n = k + 1 := ⟨n - 1, by omega⟩
    obtain ⟨n', rfl⟩ : ∃ k, n' = k + 1 := ⟨n' - 1, by omega⟩
    refine ⟨mv, Mc, Mm, ?_, ?_, hJ, onlyRow.refl _ _ _, onlyRow.refl _ _ _⟩
    · rw [fX1_letBreathe_L15]
      exact w_gdR (by omega) (by omega) (w_gdR (by omega) (by omega) (w_t (by omega) rfl))
    · rw [fX6_breathe_L34]
      exact w_gdR (by omega) (by omega) (w_gdR (by omega) (by omega) (w_t (by omega) rfl))
  | succ m ih =>
    intro k n n' Mc Mm mv x5 h hn hn' hJ hx
    rcases hx with rfl | ⟨rfl, hs⟩
    · obtain ⟨n, rfl⟩ : ∃ k, n = k + 1 := ⟨n - 1, by omega⟩
      obtain ⟨n', rfl⟩ : ∃ k, n' = k + 1 := ⟨n' - 1, by omega⟩
      obtain ⟨d, C1, M1, b1, b2, b3, b4, b5, b6, b7, b8⟩ := brJ hJ
      obtain ⟨r, Mc', Mm', g1, g2, g3, g4, g5⟩ := ih (k + 1) n n' C1 M1 (mv + d) (if d ≤ 0 then 0 else 1) (by omega) (by omega) (by omega) b4 (by
        by_cases q : d ≤ 0
        · rw [if_pos q]
          have d0 : d = 0 := by omega
          refine Or.inr ⟨rfl, ?_⟩
          have e := b8 d0
          rw [e, d0] at b2
          rw [e]
          exact b2
        · rw [if_neg q]; exact Or.inl rfl)
      rw [show ((k + 1 : Nat) : Int) = (k : Int) + 1 by omega] at g1 g2
      refine ⟨r, Mc', Mm', ?_, ?_, g3, b5.trans g4, b6.trans g5⟩
      · rw [fX1_letBreathe_L15]
        refine w_gdR (by omega) (by omega) (w_gdR (by omega) (by omega) (w_f (by omega) (w_gdR (by omega) (by omega) (w_f (by decide) (w_bind b1 (w_gdR (by omega) (by omega) (w_bind (t := if d ≤ 0 then 0 else 1) ?_ g1)))))))
        by_cases q : d ≤ 0
        · exact Eq.trans (w_t q rfl) (congrArg some (by rw [if_pos q]))
        · exact Eq.trans (w_f q rfl) (congrArg some (by rw [if_neg q]))
      · rw [fX6_breathe_L34]
        exact w_gdR (by omega) (by omega) (w_gdR (by omega) (by omega) (w_f (by omega) (w_bind b2 g2)))
    · refine ⟨mv, Mc, Mm, ?_, stM_L hs hB x2 mv (m + 1) k n' h hn', hJ, onlyRow.refl _ _ _, onlyRow.refl _ _ _⟩
      obtain ⟨n, rfl⟩ : ∃ k, n = k + 1 := ⟨n - 1, by omega⟩
      rw [fX1_letBreathe_L15]
      exact w_gdR (by omega) (by omega) (w_gdR (by omega) (by omega) (w_f (by omega) (w_gdR (by omega) (by omega) (w_t rfl rfl))))
theorem Rl.fj {Mc Mm : Mem} (h : Rl Mc Mm) : FJ 16 Mc Mm := by
  obtain ⟨a1, a2, a3, a4, a5, a6, a7, a8, a9, b1⟩ := h
  exact ⟨a1, a2, fun e he => (a4 e he).2, a9, fun v hv => (a8 v hv).1, fun v hv => (a8 v hv).2, Or.inl rfl⟩
theorem Rl.foam {Mc Mm Mc' Mm' : Mem} (h : Rl Mc Mm) (o1 : onlyRow Mc Mc' 16 0) (o2 : onlyRow Mm Mm' 4 0) (hJ : FJ 16 Mc' Mm') : Rl Mc' Mm' := by
  obtain ⟨a1, a2, a3, a4, a5, a6, a7, a8, a9, b1⟩ := h
  have c := fun a (q : a ≠ 16) => o1.arr q
  have m := fun a (q : a ≠ 4) => o2.arr q
  refine ⟨hJ.1, hJ.2.1, ?_, ?_, ?_, ?_, ?_, fun v hv => ⟨hJ.2.2.2.2.1 v hv, hJ.2.2.2.2.2.1 v hv⟩, ?_, ?_⟩
  · rw [c 100 (by decide), c 101 (by decide), m 0 (by decide)]; exact a3
  · rw [coM_only o2 (by decide) (by decide), c 3 (by decide), c 4 (by decide), m 1 (by decide)]; exact a4
  · unfold TWr at a5 ⊢
    rw [c 102 (by decide), c 7 (by decide), m 101 (by decide), m 2 (by decide)]; exact a5
  · unfold JT at a6 ⊢
    rw [c 103 (by decide), c 4 (by decide), c 102 (by decide), c 7 (by decide), c 8 (by decide)]; exact a6
  · rw [c 12 (by decide), m 3 (by decide)]; exact a7
  · rw [c 18 (by decide), m 5 (by decide)]; exact a9
  · rw [c 104 (by decide), c 105 (by decide), m 102 (by decide), m 103 (by decide), m 104 (by decide)]; exact b1
theorem Rl.lose {Mc Mm : Mem} (h : Rl Mc Mm) (a : Int) : Rl (wr Mc 105 0 (Mc 105 0 + a)) (wr Mm 103 0 (Mm 103 0 + a)) := by
  obtain ⟨a1, a2, a3, a4, a5, a6, a7, a8, a9, b1, b2, b3⟩ := h
  refine ⟨a1, a2, a3, a4, a5, a6, a7, a8, a9, b1, ?_, b3⟩
  show Mc 105 0 + a = Mm 103 0 + a
  rw [b2]
theorem R100 : inR 100 := ⟨by decide, by decide⟩
theorem F_breathe : Fc_breathe Rl := by
  intro Mc Mm y0 hR hy
  by_cases c : 1 ≤ y0 ∧ y0 ≤ 100
  · obtain ⟨B, rfl⟩ : ∃ e : Nat, y0 = e := ⟨y0.toNat, by omega⟩
    have h0 := hR.thr 0
    obtain ⟨r, C1, M1, g1, g2, g3, g4, g5⟩ := letJ_L (B := B) (by omega) (enS (coM Mm) (Mm 4)) (enS (coM Mm) (Mm 4)) B 0 FU FU Mc (wr Mm 100 0 0) 0 1 (by omega) (by have := FU_big; omega) (by have := FU_big; omega) h0.fj (Or.inl rfl)
    have h1 : Rl C1 M1 := h0.foam g4 g5 g3
    refine ⟨(0, r, wr C1 105 0 (C1 105 0 + (enS (coM Mm) (Mm 4) - enS (coM M1) (M1 4)))), (r, wr M1 103 0 (M1 103 0 + (enS (coM Mm) (Mm 4) - enS (coM M1) (M1 4)))), ?_, ?_, Or.inl rfl, ?_, fun _ => rfl, h1.lose _⟩
    · unfold fX5_breathe
      refine w_gdR (by omega) (by omega) (w_f (by omega) (w_t (by omega) (w_bind (t := (r, _)) ?_ rfl)))
      unfold fX1_letBreathe
      exact w_bind hR.enNow (w_bind g1 (w_bind h1.enNow rfl))
    · unfold fX6_breathe
      exact w_bind (in_yes Mm hy R1 R100 c) (w_gd R1 (w_bind (t := 0) (w_f N1 rfl) (w_bind (ref0 Mm) (w_gd R0 (w_t rfl (w_bind (enM h0.bubs) (w_bind g2 (w_bind (enM h1.bubs) rfl))))))))
    · show M1 100 0 = 0
      rw [g5.arr (by decide)]
      rfl
  · refine ⟨(2, 0, Mc), (0, wr Mm 100 0 1), ?_, ?_, Or.inr rfl, rfl, fun q => absurd (show (2 : Nat) = 0 from q) (by decide), hR.thr 1⟩
    · unfold fX5_breathe
      refine w_gd hy ?_
      by_cases q : y0 < 1
      · exact w_t q rfl
      · exact w_f q (w_f (by omega) rfl)
    · unfold fX6_breathe
      exact w_bind (in_no Mm hy R1 R100 (by omega)) (w_gd R0 (w_bind (t := 1) (w_t rfl rfl) (w_bind (refk Mm (Or.inl rfl)) (w_gd R1 (w_f N1 rfl)))))
theorem rsJ_L (x1 : Int) : ∀ (N n n' : Nat) (Mc Mm : Mem) (r : Nat), enS (coM Mm) (Mm 4) ≤ (N : Int) → r + N < 4000 → N < n → N < n' → FJ 17 Mc Mm →
    ∃ r' Mc' Mm', fX1_breathsToRest_L17 n Mc (r : Int) = some (r', Mc') ∧ fX6_resting_L28 n' Mm x1 (r : Int) = some (r', Mm') ∧ (0 ≤ r' ∧ r' ≤ 4000) ∧ FJ 17 Mc' Mm' ∧ onlyRow Mc Mc' 17 0 ∧ onlyRow Mm Mm' 4 0 := by
  intro N
  induction N with
  | zero =>
    intro n n' Mc Mm r hE hr hn hn' hJ
    obtain ⟨n, rfl⟩ : ∃ k, n = k + 1 := ⟨n - 1, by omega⟩
    obtain ⟨n', rfl⟩ : ∃ k, n' = k + 1 := ⟨n' - 1, by omega⟩
    obtain ⟨d, C1, M1, b1, b2, b3, b4, b5, b6, b7, b8⟩ := brJ hJ
    have nn := (en_nn (pc := coM Mm) (b := M1 4) (fun e he => coM_bd hJ.2.1 he)).1
    refine ⟨(r : Int), C1, M1, ?_, ?_, ⟨by omega, by omega⟩, b4, b5, b6⟩
    · rw [fX1_breathsToRest_L17]
      exact w_gdR (by omega) (by omega) (w_f (by omega) (w_bind b1 (w_gdR (by omega) (by omega) (w_t (by omega) rfl))))
    · rw [fX6_resting_L28]
      exact w_bind b2 (w_gdR (by omega) (by omega) (w_t (by omega) rfl))
  | succ N ih =>
    intro n n' Mc Mm r hE hr hn hn' hJ
    obtain ⟨n, rfl⟩ : ∃ k, n = k + 1 := ⟨n - 1, by omega⟩
    obtain ⟨n', rfl⟩ : ∃ k, n' = k + 1 := ⟨n' - 1, by omega⟩
    obtain ⟨d, C1, M1, b1, b2, b3, b4, b5, b6, b7, b8⟩ := brJ hJ
    by_cases q : d ≤ 0
    · refine ⟨(r : Int), C1, M1, ?_, ?_, ⟨by omega, by omega⟩, b4, b5, b6⟩
      · rw [fX1_breathsToRest_L17]
        exact w_gdR (by omega) (by omega) (w_f (by omega) (w_bind b1 (w_gdR (by omega) (by omega) (w_t q rfl))))
      · rw [fX6_resting_L28]
        exact w_bind b2 (w_gdR (by omega) (by omega) (w_t q rfl))
    · have ec : coM M1 = coM Mm := coM_only b6 (by decide) (by decide)
      obtain ⟨r', Mc', Mm', g1, g2, g3, g4, g5, g6⟩ := ih n n' C1 M1 (r + 1) (by rw [ec]; omega) (by omega) (by omega) (by omega) b4
      rw [show ((r + 1 : Nat) : Int) = (r : Int) + 1 by omega] at g1 g2
      refine ⟨r', Mc', Mm', ?_, ?_, g3, g4, b5.trans g5, b6.trans g6⟩
      · rw [fX1_breathsToRest_L17]
        exact w_gdR (by omega) (by omega) (w_f (by omega) (w_bind b1 (w_gdR (by omega) (by omega) (w_f q g1))))
      · rw [fX6_resting_L28]
        exact w_bind b2 (w_gdR (by omega) (by omega) (w_f q g2))
theorem keepM_L {M0 : Mem} (x1 : Int) : ∀ (m k n : Nat) (M : Mem), k + m = 36 → m < n → onlyRow M0 M 12 0 → (∀ v, v < k → M 12 v = M0 4 v) →
    ∃ M', fX6_resting_L2 n M x1 (k : Int) = some M' ∧ onlyRow M0 M' 12 0 ∧ ∀ v, v < 36 → M' 12 v = M0 4 v := by
  intro m
  induction m with
  | zero =>
    intro k n M h hn ho hk
    obtain ⟨n, rfl⟩ : ∃ k, n = k + 1 := ⟨n - 1, by omega⟩
    refine ⟨M, ?_, ho, fun v hv => hk v (by omega)⟩
    rw [fX6_resting_L2]
    exact w_gdR (by omega) (by omega) (w_t (by omega) rfl)
  | succ m ih =>
    intro k n M h hn ho hk
    obtain ⟨n, rfl⟩ : ∃ k, n = k + 1 := ⟨n - 1, by omega⟩
    have e4 : M 4 = M0 4 := ho.arr (by decide)
    obtain ⟨M', k1, k2⟩ := ih (k + 1) n (wr M 12 k (M 4 k)) (by omega) (by omega) (ho.trans (only_wr0 M 12 _ (by omega))) (fun v hv => by
      rw [wr_put]
      by_cases q : v = k
      · rw [q, put_at, e4]
      · rw [put_ne q]; exact hk v (by omega))
    refine ⟨M', ?_, k2⟩
    rw [fX6_resting_L2]
    refine w_gdR (by omega) (by omega) (w_f (by omega) (w_gdB (by omega) (by omega) (w_gdB (by omega) (by omega) ?_)))
    rw [show (k : Int) + 1 = ((k + 1 : Nat) : Int) by omega, Int.toNat_natCast]
    exact k1
theorem backM_L {M0 : Mem} (x1 x2 x3 : Int) : ∀ (m k n : Nat) (M : Mem), k + m = 36 → m < n → onlyRow M0 M 4 0 → (∀ v, v < k → M 4 v = M0 12 v) →
    ∃ M', fX6_resting_L49 n M x1 x2 x3 (k : Int) = some M' ∧ onlyRow M0 M' 4 0 ∧ ∀ v, v < 36 → M' 4 v = M0 12 v := by
  intro m
  induction m with
  | zero =>
    intro k n M h hn ho hk
    obtain ⟨n, rfl⟩ : ∃ k, n = k + 1 := ⟨n - 1, by omega⟩
    refine ⟨M, ?_, ho, fun v hv => hk v (by omega)⟩
    rw [fX6_resting_L49]
    exact w_gdR (by omega) (by omega) (w_t (by omega) rfl)
  | succ m ih =>
    intro k n M h hn ho hk
    obtain ⟨n, rfl⟩ : ∃ k, n = k + 1 := ⟨n - 1, by omega⟩
    have e4 : M 12 = M0 12 := ho.arr (by decide)
    obtain ⟨M', k1, k2⟩ := ih (k + 1) n (wr M 4 k (M 12 k)) (by omega) (by omega) (ho.trans (only_wr0 M 4 _ (by omega))) (fun v hv => by
      rw [wr_put]
      by_cases q : v = k
      · rw [q, put_at, e4]
      · rw [put_ne q]; exact hk v (by omega))
    refine ⟨M', ?_, k2⟩
    rw [fX6_resting_L49]
    refine w_gdR (by omega) (by omega) (w_f (by omega) (w_gdB (by omega) (by omega) (w_gdB (by omega) (by omega) ?_)))
    rw [show (k : Int) + 1 = ((k + 1 : Nat) : Int) by omega, Int.toNat_natCast]
    exact k1
theorem rsL2 : ∀ (n : Nat) (M : Mem) (k : Int), fX6_resting_L2 n M 1 k = fX6_resting_L2 n M 0 k := by
  intro n
  induction n with
  | zero => intro M k; rfl
  | succ n ih => intro M k; rw [fX6_resting_L2, fX6_resting_L2]; simp only [ih]
theorem rsL28 : ∀ (n : Nat) (M : Mem) (k : Int), fX6_resting_L28 n M 1 k = fX6_resting_L28 n M 0 k := by
  intro n
  induction n with
  | zero => intro M k; rfl
  | succ n ih => intro M k; rw [fX6_resting_L28, fX6_resting_L28]; simp only [ih]
theorem rsL49 : ∀ (n : Nat) (M : Mem) (x2 x3 k : Int), fX6_resting_L49 n M 1 x2 x3 k = fX6_resting_L49 n M 0 x2 x3 k := by
  intro n
  induction n with
  | zero => intro M x2 x3 k; rfl
  | succ n ih => intro M x2 x3 k; rw [fX6_resting_L49, fX6_resting_L49]; simp only [ih]
theorem rest_run {Mm M1 M2 M3 : Mem} {r en : Int} (h1 : fX6_resting_L2 FU Mm 0 0 = some M1) (h2 : fX6_resting_L28 FU M1 0 0 = some (r, M2)) (h3 : fX6_energyNow M2 = some en) (h4 : fX6_resting_L49 FU M2 0 r en 0 = some M3) : fX6_resting Mm 0 = some (r, M3) ∧ fX6_resting Mm 1 = some (en, M3) := by
  constructor
  · unfold fX6_resting
    exact w_bind h1 (w_bind h2 (w_bind h3 (w_bind h4 (w_gd R0 (w_bind (t := r) (w_t rfl rfl) rfl)))))
  · unfold fX6_resting
    exact w_bind (t := M1) ((rsL2 _ _ _).trans h1) (w_bind (t := (r, M2)) ((rsL28 _ _ _).trans h2) (w_bind (t := en) h3 (w_bind (t := M3) ((rsL49 _ _ _ _ _).trans h4) (w_gd R1 (w_bind (t := en) (w_f N1 rfl) rfl)))))
/-- both sides come to rest: after how many breaths, with which energy; the foam itself stays -/
theorem restJ {Mc Mm : Mem} (hR : Rl Mc Mm) : ∃ (r en : Int) (Mc' Mm' : Mem), fX1_breathsToRest Mc = some (r, Mc') ∧ fX1_energyOf Mc' 17 = some en ∧ fX6_resting Mm 0 = some (r, Mm') ∧ fX6_resting Mm 1 = some (en, Mm') ∧ inR r ∧ inR en ∧ Mm' 100 = Mm 100 ∧ Rl Mc' Mm' := by
  obtain ⟨M1, s1, s2, s3⟩ := keepM_L (M0 := Mm) 0 36 0 FU Mm (by omega) (by have := FU_big; omega) (onlyRow.refl _ _ _) (fun v hv => absurd hv (by omega))
  have ec1 : coM M1 = coM Mm := coM_only s2 (by decide) (by decide)
  have oC : onlyRow Mc (cpA Mc 16 17 36) 17 0 := by
    intro a j h
    unfold cpA
    exact if_neg (fun q => h ⟨q.1, by omega, by omega⟩)
  have hF := hR.fj
  have r0 : cpA Mc 16 17 36 0 = Mc 0 := oC.arr (by decide)
  have r1 : cpA Mc 16 17 36 1 = Mc 1 := oC.arr (by decide)
  have r2 : cpA Mc 16 17 36 2 = Mc 2 := oC.arr (by decide)
  have r4 : cpA Mc 16 17 36 4 = Mc 4 := oC.arr (by decide)
  have r18 : cpA Mc 16 17 36 18 = Mc 18 := oC.arr (by decide)
  have k4 : M1 4 = Mm 4 := s2.arr (by decide)
  have k5 : M1 5 = Mm 5 := s2.arr (by decide)
  have hJ : FJ 17 (cpA Mc 16 17 36) M1 := by
    refine ⟨?_, MR_only s2 (by decide) (by decide) hF.2.1, ?_, ?_, fun v hv => ?_, ?_, Or.inr rfl⟩
    · have g := hF.1
      unfold GR at g ⊢
      rw [r0, r1, r2, r4]
      exact g
    · rw [ec1, r4]; exact hF.2.2.1
    · rw [r18, k5]; exact hF.2.2.2.1
    · rw [k4, ← hF.2.2.2.2.1 v hv]
      unfold cpA
      exact if_pos ⟨rfl, hv⟩
    · unfold BR
      rw [k4]
      exact hF.2.2.2.2.2.1
  have hE := en_nn (pc := coM Mm) (b := Mm 4) (fun e he => coM_bd hF.2.1 he)
  obtain ⟨r, C2, M2, g1, g2, g3, g4, g5, g6⟩ := rsJ_L 0 3540 FU FU (cpA Mc 16 17 36) M1 0 (by rw [ec1, k4]; omega) (by omega) (by have := FU_big; omega) (by have := FU_big; omega) hJ
  have e12 : M2 12 = M1 12 := g6.arr (by decide)
  have hE2 := en_nn (pc := coM M2) (b := M2 4) (fun e he => coM_bd g4.2.1 he)
  have enc : enS (C2 4) (C2 17) = enS (coM M2) (M2 4) := by
    unfold enS
    refine ss_congr 60 0 (fun e _ he => ?_)
    have he : e < 60 := by omega
    rw [g4.2.2.1 e he, g4.2.2.2.2.1 _ (lo_lt he), g4.2.2.2.2.1 _ (hi_lt he)]
  obtain ⟨M3, b1, b2, b3⟩ := backM_L (M0 := M2) 0 r (enS (coM M2) (M2 4)) 36 0 FU M2 (by omega) (by have := FU_big; omega) (onlyRow.refl _ _ _) (fun v hv => absurd hv (by omega))
  have row : ∀ a, a ≠ 12 → M3 a = Mm a := by
    intro a ha
    by_cases q : a = 4
    · rw [q]
      funext j
      by_cases hj : j < 36
      · rw [b3 j hj, e12, s3 j hj]
      · rw [b2 4 j (fun z => hj (by omega)), g6 4 j (fun z => hj (by omega)), k4]
    · rw [b2.arr q, g6.arr q, s2.arr ha]
  obtain ⟨x1, x2⟩ := rest_run s1 g2 (enM g4.2.2.2.2.2.1) b1
  refine ⟨r, enS (coM M2) (M2 4), C2, M3, ?_, ?_, x1, x2, ⟨by omega, by omega⟩, ⟨by omega, by omega⟩, row 100 (by decide), ?_⟩
  · unfold fX1_breathsToRest
    exact w_bind g1 rfl
  · rw [← enc]
    exact enC g4.1 g4.tb
  · refine hR.keep (fun a ha => ?_) (fun a ha => row a (by intro q; subst q; revert ha; decide))
    have n17 : a ≠ 17 := by intro q; subst q; revert ha; decide
    rw [g5.arr n17, oC.arr n17]
theorem F_rests : Fc_rests Rl := by
  intro Mc Mm hR
  obtain ⟨r, en, C, M, h1, h2, h3, h4, h5, h6, h7, h8⟩ := restJ (hR.thr 0)
  refine ⟨(r, C), (r, M), ?_, ?_, rfl, h5, h8⟩
  · unfold fX5_rests
    exact w_bind h1 rfl
  · unfold fX6_rests
    exact w_bind h3 rfl
theorem R4 : inR 4 := ⟨by decide, by decide⟩
theorem F_energy : Fc_energy Rl := by
  intro Mc Mm y0 hR hy
  have h0 := hR.thr 0
  by_cases c : 0 ≤ y0 ∧ y0 ≤ 4
  · have c2 : y0 = 0 ∨ y0 = 1 ∨ y0 = 2 ∨ y0 = 3 ∨ y0 = 4 := by omega
    have hm := h0.bubs
    rcases c2 with rfl | rfl | rfl | rfl | rfl
    · refine ⟨(0, enS (coM Mm) (Mm 4), Mc), (enS (coM Mm) (Mm 4), wr Mm 100 0 0), ?_, ?_, Or.inl rfl, rfl, fun _ => rfl, h0⟩
      · unfold fX5_energy
        exact w_gd hy (w_t rfl (w_bind hR.enNow rfl))
      · unfold fX6_energy
        exact w_bind (in_yes Mm hy R0 R4 c) (w_gd R1 (w_bind (t := 0) (w_f N1 rfl) (w_bind (ref0 Mm) (w_gd R0 (w_t rfl (w_gd hy (w_t rfl (w_bind (enM hm) rfl))))))))
    · obtain ⟨r, en, C, M, h1, h2, h3, h4, h5, h6, h7, h8⟩ := restJ h0
      refine ⟨(0, en, C), (en, M), ?_, ?_, Or.inl rfl, ?_, fun _ => rfl, h8⟩
      · unfold fX5_energy
        refine w_gd hy (w_f (by decide) (w_t rfl (w_bind (t := (en, C)) ?_ rfl)))
        unfold fX1_energyAtRest
        exact w_bind h1 (w_bind h2 rfl)
      · unfold fX6_energy
        exact w_bind (in_yes Mm hy R0 R4 c) (w_gd R1 (w_bind (t := 0) (w_f N1 rfl) (w_bind (ref0 Mm) (w_gd R0 (w_t rfl (w_gd hy (w_f (by decide) (w_t rfl (w_bind h4 rfl)))))))))
      · show M 100 0 = 0
        rw [h7]
        rfl
    · refine ⟨(0, Mc 104 0, Mc), (Mm 102 0, wr Mm 100 0 0), ?_, ?_, Or.inl rfl, rfl, fun _ => hR.2.2.2.2.2.2.2.2.2.1, h0⟩
      · unfold fX5_energy
        exact w_gd hy (w_f (by decide) (w_f (by decide) (w_t rfl (w_bind rfl rfl))))
      · unfold fX6_energy
        exact w_bind (in_yes Mm hy R0 R4 c) (w_gd R1 (w_bind (t := 0) (w_f N1 rfl) (w_bind (ref0 Mm) (w_gd R0 (w_t rfl (w_gd hy (w_f (by decide) (w_f (by decide) (w_t rfl rfl)))))))))
    · refine ⟨(0, Mc 105 0, Mc), (Mm 103 0, wr Mm 100 0 0), ?_, ?_, Or.inl rfl, rfl, fun _ => hR.2.2.2.2.2.2.2.2.2.2.1, h0⟩
      · unfold fX5_energy
        exact w_gd hy (w_f (by decide) (w_f (by decide) (w_f (by decide) (w_t rfl (w_bind rfl rfl)))))
      · unfold fX6_energy
        exact w_bind (in_yes Mm hy R0 R4 c) (w_gd R1 (w_bind (t := 0) (w_f N1 rfl) (w_bind (ref0 Mm) (w_gd R0 (w_t rfl (w_gd hy (w_f (by decide) (w_f (by decide) (w_f (by decide) (w_t rfl rfl))))))))))
    · refine ⟨(0, enS (coM Mm) (Mm 4) + Mc 105 0 - Mc 104 0, Mc), (enS (coM Mm) (Mm 4) + Mm 103 0 - Mm 102 0, wr Mm 100 0 0), ?_, ?_, Or.inl rfl, rfl, fun _ => by rw [hR.2.2.2.2.2.2.2.2.2.2.1, hR.2.2.2.2.2.2.2.2.2.1], h0⟩
      · unfold fX5_energy
        exact w_gd hy (w_f (by decide) (w_f (by decide) (w_f (by decide) (w_f (by decide) (w_t rfl (w_bind hR.enNow (w_bind rfl (w_bind rfl rfl))))))))
      · unfold fX6_energy
        exact w_bind (in_yes Mm hy R0 R4 c) (w_gd R1 (w_bind (t := 0) (w_f N1 rfl) (w_bind (ref0 Mm) (w_gd R0 (w_t rfl (w_gd hy (w_f (by decide) (w_f (by decide) (w_f (by decide) (w_f (by decide) (w_bind (enM hm) rfl)))))))))))
  · refine ⟨(2, 0, Mc), (0, wr Mm 100 0 1), ?_, ?_, Or.inr rfl, rfl, fun q => absurd (show (2 : Nat) = 0 from q) (by decide), hR.thr 1⟩
    · unfold fX5_energy
      exact w_gd hy (w_f (by omega) (w_f (by omega) (w_f (by omega) (w_f (by omega) (w_f (by omega) rfl)))))
    · unfold fX6_energy
      exact w_bind (in_no Mm hy R0 R4 (by omega)) (w_gd R0 (w_bind (t := 1) (w_t rfl rfl) (w_bind (refk Mm (Or.inl rfl)) (w_gd R1 (w_f N1 rfl)))))
