/-! areNets answers true -/
theorem net107 {Mm : Mem} {k : Nat} (hk : Mm 101 0 = (k : Int)) {r : Int} (hr : Lst Mm r) {y : Int} (hy : 0 ≤ y ∧ y < 100000) (h8 : y % 8 = 0) : ∀ (m j n : Nat) (C : Mem) (s : Int), j + m = 60 → m < n → Rl C Mm → (0 ≤ s ∧ s ≤ (j : Int)) →
    ∃ (s' : Int) (C' : Mem), fL_areNets_L107 n C y 1 s (j : Int) = some (s', C') ∧ Rl C' Mm ∧ Qf C C' ∧ (s ≤ s' ∧ s' ≤ 60) ∧ (k < 2 → s' = s) ∧ (2 ≤ k → (∃ e, j ≤ e ∧ e < 60 ∧ Used (coM Mm) k (tn Mm) r e) → s < s') := by
  intro m
  induction m with
  | zero =>
    intro j n C s hj hn hR hs
    obtain ⟨n, rfl⟩ : ∃ k, n = k + 1 := ⟨n - 1, by omega⟩
    refine ⟨s, C, ?_, hR, Qf.refl _, ⟨Int.le_refl _, by omega⟩, fun _ => rfl, fun _ ⟨e, e1, e2, _⟩ => absurd e1 (by omega)⟩
    rw [fL_areNets_L107]
    exact w_gdR (by omega) (by omega) (w_t (by omega) rfl)
  | succ m ih =>
    intro j n C s hj hn hR hs
    obtain ⟨n, rfl⟩ : ∃ k, n = k + 1 := ⟨n - 1, by omega⟩
    obtain ⟨x, C1, a1, a2, a3, a4, a5, a6⟩ := g_isUsed hR hk hr (e := j) (by omega)
    obtain ⟨s', C', g1, g2, g3, g4, g5, g6⟩ := ih (j + 1) n C1 (s + x) (by omega) (by omega) a2 ⟨by omega, by omega⟩
    refine ⟨s', C', ?_, g2, a3.trans g3, ⟨by omega, g4.2⟩, fun c => by rw [g5 c, a5 c]; omega, fun c => ?_⟩
    · clear g6 a6
      rw [fL_areNets_L107]
      refine w_gdR (by omega) (by omega) (w_f (by omega) (w_gd R1 (w_f N1 (w_gd ⟨by omega, by omega⟩ (w_gdR (by omega) (by omega) (w_t h8 (w_bind a1 ?_)))))))
      rw [show (j : Int) + 1 = ((j + 1 : Nat) : Int) by omega]
      exact g1
    · rintro ⟨e, e1, e2, e3⟩
      have g4 := g4.1
      by_cases q : e = j
      · rw [q] at e3
        have := (a6 c).mpr e3
        clear a6 g6 e3
        omega
      · have := g6 c ⟨e, by omega, e2, e3⟩
        clear a6 g6 e3
        omega
theorem t_two {M Mm : Mem} (h : Rl M Mm) {s t : Nat} (hs : s < 36) (ht : t < 36) : ∃ (b : Int) (C : Mem), tL_twoWays M (s : Int) (t : Int) = some (b, C) ∧ Rl C Mm ∧ Qf M C ∧ ((s = t ∧ b = -2000000002) ∨ (s ≠ t ∧ (2 * dsF (coM Mm) s t ≤ b ∧ b ≤ 10000) ∧ Two (coM Mm) s t b)) := by
  by_cases e : s = t
  · refine ⟨-2000000002, M, ?_, h, Qf.refl _, Or.inl ⟨e, rfl⟩⟩
    unfold tL_twoWays
    refine w_bind (t := (2, 0, M)) ?_ (w_gd (Or.inr (Or.inr rfl)) (w_f (show ¬ (2 : Nat) = 0 by decide) (w_f (show ¬ (2 : Nat) = 1 by decide) rfl)))
    unfold fX5_twoWays
    exact w_bind (chN_y M hs) (w_t rfl (w_bind (chN_y M ht) (w_t rfl (w_gdR (by omega) (by omega) (w_gdR (by omega) (by omega) (w_t (by omega) rfl))))))
  · obtain ⟨w, C, a1, a2, a3, a4, a5⟩ := q_two h hs ht e
    refine ⟨w, C, ?_, a2, a3, Or.inr ⟨e, a4, a5⟩⟩
    unfold tL_twoWays
    exact w_bind a1 (w_gd (Or.inl rfl) (w_t rfl rfl))
theorem g_two {M Mm : Mem} (h : Rl M Mm) {s t : Nat} (hs : s < 36) (ht : t < 36) (e : s ≠ t) : ∃ (b : Int) (C : Mem), fL_twoWays M (s : Int) (t : Int) = some (b, C) ∧ Rl C Mm ∧ Qf M C ∧ (2 * dsF (coM Mm) s t ≤ b ∧ b ≤ 10000) ∧ Two (coM Mm) s t b := by
  obtain ⟨w, C, a1, a2, a3, a4, a5⟩ := q_two h hs ht e
  refine ⟨w, C, ?_, a2, a3, a4, a5⟩
  unfold fL_twoWays
  exact w_bind a1 (w_t rfl rfl)
theorem SI.n0 {i : Int} {M Mm : Mem} (h : SI i M Mm) : ∃ k : Nat, k ≤ 6 ∧ Mm 101 0 = (k : Int) ∧ M 21 (0 : Int).toNat = (k : Int) := by
  obtain ⟨k, k1, k2, k3, k4, k5⟩ := h.1.tws
  exact ⟨k, k1, k3, h.n k3⟩
theorem q_areNets {i : Int} {M Mm : Mem} (h : SI i M Mm) {y : Int} (hy : 0 ≤ y ∧ y < 100000) : ∃ C : Mem, fL_areNets M y = some (1, C) ∧ Rl C Mm ∧ Qf M C := by
  have hR := h.1
  obtain ⟨k, k1, k2, k3, k4, k5⟩ := hR.tws
  obtain ⟨r, C1, a1, a2, a3, a4, hr⟩ := q_least hR
  obtain ⟨s, C2, b1, b2, b3, b4, hs⟩ := q_bound a2
  obtain ⟨C3, c1, c2, c3⟩ := q_gap b2 hr hs
  obtain ⟨C4, d1, d2, d3⟩ := q_leastAnew c2 k3 hr
  have qf4 := ((a3.trans b3).trans c3).trans d3
  have n4 := (h.q d2 qf4).n k3
  have le := bound_le hR hr hs a4.1
  have key : ok (fL_areNets M y) (fun T => T.1 = 1 ∧ Rl T.2 Mm ∧ Qf M T.2) := by
    unfold fL_areNets
    refine ok_eq a1 (ok_eq b1 (ok_gdR (by omega) (by omega) (ok_bind (Q := fun T => T.1 = 1 ∧ Rl T.2 Mm ∧ Qf M T.2) ?_ (fun t46 ht => ?_))))
    · refine ok_f (by omega) (ok_gdR (by omega) (by omega) (ok_f (by omega) (ok_eq c1 (ok_gdR (by omega) (by omega) (ok_gdR (by omega) (by omega) (ok_t rfl (ok_eq d1 ?_)))))))
      have eb : -2147483648 ≤ (if k ≤ 4 then r else -1) ∧ (if k ≤ 4 then r else -1) < 2147483648 := by split <;> omega
      refine ok_gd (show inR (C4 21 (0 : Int).toNat) from ⟨by omega, by omega⟩) (ok_eq (t := if k ≤ 4 then r else -1) ?_ (ok_gdR eb.1 eb.2 (ok_gdR eb.1 eb.2 (ok_t rfl ?_))))
      · by_cases q : k ≤ 4
        · rw [if_pos q]; exact w_t (show C4 21 (0 : Int).toNat ≤ 4 by omega) rfl
        · rw [if_neg q]; exact w_f (show ¬ C4 21 (0 : Int).toNat ≤ 4 by omega) rfl
      · have fin : ok (some ((1 : Int), C4)) (fun T => T.1 = 1 ∧ Rl T.2 Mm ∧ Qf M T.2) := ok_some ⟨rfl, d2, qf4⟩
        by_cases q1 : 1 < k
        · refine ok_t (show 1 < C4 21 (0 : Int).toNat by omega) ?_
          by_cases q2 : k = 2
          · obtain ⟨e1, e2⟩ := two_towns hR (by omega) hr hs a4.1
            obtain ⟨C5, g1, g2, g3⟩ := g_apart d2 (k4 0 (by omega)).2.2 (k4 1 (by omega)).2.2
            rw [← (k4 0 (by omega)).2.1, ← (k4 1 (by omega)).2.1, ← e2] at g1
            exact ok_t (show C4 21 (0 : Int).toNat = 2 by omega) (ok_t e1 (ok_eq (g_townAt d2 k3 (i := 0) (by omega)) (ok_eq (g_townAt d2 k3 (i := 1) (by omega)) (ok_eq g1 (ok_gdR (by omega) (by omega) (ok_t rfl (ok_some ⟨rfl, g2, qf4.trans g3⟩)))))))
          · exact ok_f (show ¬ C4 21 (0 : Int).toNat = 2 by omega) fin
        · have r0 := (hr k k3).1 (by omega)
          exact ok_f (show ¬ 1 < C4 21 (0 : Int).toNat by omega) (ok_t r0 (ok_f (show ¬ C4 21 (0 : Int).toNat = 2 by omega) fin))
    · obtain ⟨x, C5⟩ := t46
      obtain ⟨e, h5, f5⟩ := ht
      have e : x = 1 := e
      subst e
      have h5 : Rl C5 Mm := h5
      have f5 : Qf M C5 := f5
      -- the edges that are used
      refine ok_bind (Q := fun T => (Rl T.2 Mm ∧ Qf M T.2) ∧ (y % 8 = 0 → (0 ≤ T.1 ∧ T.1 ≤ 60) ∧ (k < 2 → T.1 = 0) ∧ (2 ≤ k → 0 < T.1))) ?_ (fun t59 ht => ?_)
      · by_cases q : y % 8 = 0
        · obtain ⟨s', C', g1, g2, g3, g4, g5, g6⟩ := net107 k3 hr hy q 60 0 FU C5 0 (by omega) (by have := FU_big; omega) h5 ⟨by omega, by omega⟩
          exact ⟨(s', C'), g1, ⟨g2, f5.trans g3⟩, fun _ => ⟨⟨g4.1, g4.2⟩, g5, fun c => g6 c (by
            obtain ⟨e, e1, e2⟩ := used_some hR k3 c hr
            exact ⟨e, Nat.zero_le _, e1, e2⟩)⟩⟩
        · refine ⟨(0, C5), ?_, ⟨h5, f5⟩, fun z => absurd z q⟩
          obtain ⟨n, hn⟩ : ∃ n, FU = n + 1 := ⟨FU - 1, by have := FU_big; omega⟩
          rw [hn, fL_areNets_L107]
          exact w_gdR (by omega) (by omega) (w_f (by omega) (w_gd R1 (w_f N1 (w_gd ⟨by omega, by omega⟩ (w_gdR (by omega) (by omega) (w_f q rfl))))))
      · obtain ⟨sm, C6⟩ := t59
        obtain ⟨⟨h6, f6⟩, u6⟩ := ht
        have h6 : Rl C6 Mm := h6
        have f6 : Qf M C6 := f6
        have n6 := (h.q h6 f6).n k3
        refine ok_gd R1 (ok_eq (t := 1) ?_ ?_)
        · refine w_f N1 (w_gd ⟨by omega, by omega⟩ (w_gdR (by omega) (by omega) ?_))
          by_cases q : 0 < y % 8
          · exact w_t q rfl
          · obtain ⟨v1, v2, v3⟩ := u6 (by omega)
            have v1 : 0 ≤ sm ∧ sm ≤ 60 := v1
            have v2 : k < 2 → sm = 0 := v2
            have v3 : 2 ≤ k → 0 < sm := v3
            refine w_f q (w_gdR (by omega) (by omega) ?_)
            by_cases c : k < 2
            · have z := v2 c
              refine w_bind (t := 0) (w_t (by omega) rfl) ?_
              exact w_gd (show inR (C6 21 (0 : Int).toNat) from ⟨by omega, by omega⟩) (w_bind (t := 0) (w_t (show C6 21 (0 : Int).toNat ≤ 1 by omega) rfl) (w_gd R0 (w_gd R0 (w_t rfl rfl))))
            · have z := v3 (by omega)
              refine w_bind (t := 1) (w_f (by omega) rfl) ?_
              exact w_gd (show inR (C6 21 (0 : Int).toNat) from ⟨by omega, by omega⟩) (w_bind (t := 1) (w_f (show ¬ C6 21 (0 : Int).toNat ≤ 1 by omega) rfl) (w_gd R1 (w_gd R1 (w_t rfl rfl))))
        · clear u6
          refine ok_gd ⟨by omega, by omega⟩ (ok_gd ⟨by omega, by omega⟩ (ok_gd ⟨by omega, by omega⟩ (ok_gd ⟨by omega, by omega⟩ (ok_gd ⟨by omega, by omega⟩ ?_))))
          obtain ⟨u, hu⟩ : ∃ u : Nat, y % 36 = (u : Int) := ⟨(y % 36).toNat, by omega⟩
          obtain ⟨v, hv⟩ : ∃ u : Nat, y / 36 % 36 = (u : Int) := ⟨(y / 36 % 36).toNat, by omega⟩
          obtain ⟨w, hw⟩ : ∃ u : Nat, y / 1296 % 36 = (u : Int) := ⟨(y / 1296 % 36).toNat, by omega⟩
          have u36 : u < 36 := by omega
          have v36 : v < 36 := by omega
          have w36 : w < 36 := by omega
          rw [hu, hv, hw]
          have hP := hR.2.1.PR
          obtain ⟨C7, g1, g2, g3⟩ := g_apart h6 u36 v36
          obtain ⟨b, C8, l1, l2, l3, l4⟩ := t_two g2 u36 v36
          obtain ⟨C9, p1, p2, p3⟩ := g_apart l2 v36 u36
          obtain ⟨C10, o1, o2, o3⟩ := g_apart p2 u36 w36
          obtain ⟨C11, m1, m2, m3⟩ := g_apart o2 w36 v36
          have sy := dsF_sym hP u36 v36
          have tr := dsF_tri hP u36 w36 v36
          have bd1 := dsF_bd hP u36 v36
          have bd2 := dsF_bd hP u36 w36
          have bd3 := dsF_bd hP w36 v36
          have qf := ((((f6.trans g3).trans l3).trans p3).trans o3).trans m3
          rw [← sy] at p1
          refine ok_eq g1 (ok_eq l1 (ok_gd R1 (ok_bind (Q := fun T => T.1 = 1 ∧ Rl T.2 Mm ∧ Qf M T.2) ?_ (fun T hT => ?_))))
          · refine ok_f N1 (ok_eq p1 (ok_gdR (by omega) (by omega) (ok_gdR (by omega) (by omega) (ok_t rfl (ok_eq o1 (ok_eq m1 (ok_gdR (by omega) (by omega) (ok_f (by omega) (ok_gdR (by omega) (by omega) (ok_gdR (by omega) (by omega) ?_))))))))))
            rcases l4 with ⟨e1, e2⟩ | ⟨e1, e2, e3⟩
            · have z : dsF (coM Mm) u v = 0 := by rw [← e1]; exact dsF_self hP u36
              subst e2
              exact ok_t (by omega) (ok_t z (ok_gd (show inR (-2000000002 : Int) from ⟨by decide, by decide⟩) (ok_t rfl (ok_some ⟨rfl, m2, qf⟩))))
            · have ps := dsF_pos hP (fun e he => (hR.p159 e he).1) u36 v36 (fun z => e1 z.symm)
              obtain ⟨b2, C12, q1, q2, q3, q4, q5⟩ := g_two m2 v36 u36 (fun z => e1 z.symm)
              have eb := e3.symm q5
              subst eb
              exact ok_f (by omega) (ok_f (by omega) (ok_gdR (by omega) (by omega) (ok_gdR (by omega) (by omega) (ok_f (by omega) (ok_eq q1 (ok_gdR (by omega) (by omega) (ok_t rfl (ok_some ⟨rfl, q2, qf.trans q3⟩))))))))
          · exact ok_gd (Or.inr hT.1) (ok_some hT)
  obtain ⟨T, t1, t2, t3, t4⟩ := key
  obtain ⟨x, C⟩ := T
  have t2 : x = 1 := t2
  subst t2
  exact ⟨C, t1, t3, t4⟩
