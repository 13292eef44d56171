/-! breaths one after the other, as owners: a stripped ghost, a chain of breaths that change something, rest -/
def cb (Mm : Mem) (b : Nat → Int) : Mem := fun a => if a = 4 then b else if a = 0 then Mm 0 else if a = 1 then Mm 1 else if a = 5 then Mm 5 else fun _ => 0
def Brt (Mm : Mem) (b : Nat → Int) (d : Int) (b' : Nat → Int) : Prop := fX6_breath (cb Mm b) = some (d, cb Mm b')
def Chb (Mm : Mem) : Nat → (Nat → Int) → (Nat → Int) → Prop
  | 0, b, b' => b' = b
  | n + 1, b, b' => ∃ d b1, Brt Mm b d b1 ∧ 0 < d ∧ Chb Mm n b1 b'
def Rst (Mm : Mem) (r : Nat) (b be : Nat → Int) : Prop := Chb Mm r b be ∧ Brt Mm be 0 be
theorem cb_in {b b' : Nat → Int} {Mm : Mem} (h : cb Mm b = cb Mm b') : b = b' := by
  have := congrFun h 4
  exact this
theorem Brt.one {Mm : Mem} {b b1 b2 : Nat → Int} {d e : Int} (h : Brt Mm b d b1) (k : Brt Mm b e b2) : d = e ∧ b1 = b2 := by
  unfold Brt at h k
  rw [h] at k
  have k2 := Option.some.inj k
  exact ⟨congrArg Prod.fst k2, cb_in (congrArg Prod.snd k2)⟩
theorem Rst.part {Mm : Mem} : ∀ (j r : Nat) {b be b' : Nat → Int}, Rst Mm r b be → Chb Mm j b b' → j ≤ r ∧ Rst Mm (r - j) b' be
  | 0, r, b, be, b', h, k => by
    have k : b' = b := k
    rw [k]
    exact ⟨Nat.zero_le _, h⟩
  | j + 1, 0, b, be, b', h, k => by
    obtain ⟨h1, h2⟩ := h
    have h1 : be = b := h1
    obtain ⟨d, b1, k1, k2, k3⟩ := k
    rw [h1] at h2
    have := (h2.one k1).1
    omega
  | j + 1, r + 1, b, be, b', h, k => by
    obtain ⟨⟨d, b1, a1, a2, a3⟩, h2⟩ := h
    obtain ⟨e, c1, k1, k2, k3⟩ := k
    have z := (a1.one k1).2
    rw [← z] at k3
    have g := Rst.part j r (b := b1) (be := be) (b' := b') ⟨a3, h2⟩ k3
    refine ⟨by omega, ?_⟩
    rw [show r + 1 - (j + 1) = r - j by omega]
    exact g.2
theorem Rst.one {Mm : Mem} {r s : Nat} {b be bf : Nat → Int} (h : Rst Mm r b be) (k : Rst Mm s b bf) : r = s ∧ be = bf := by
  have a := Rst.part s r h k.1
  have c := Rst.part r s k h.1
  have e : r = s := by omega
  subst e
  have z := c.2.1
  rw [Nat.sub_self] at z
  exact ⟨rfl, z.symm⟩
theorem FJ.cb {tb : Nat} {C Mm : Mem} (h : FJ tb C Mm) : FJ tb C (cb Mm (Mm 4)) := h
theorem only_cb {Mm M1 : Mem} {b : Nat → Int} (o : onlyRow (cb Mm b) M1 4 0) : M1 = cb Mm (M1 4) := by
  funext a
  by_cases q : a = 4
  · subst q; rfl
  · rw [o.arr q]
    unfold cb
    rw [if_neg q, if_neg q]
/-- one breath of the class -/
theorem brC {tb : Nat} {C Mm : Mem} {b : Nat → Int} (hJ : FJ tb C (cb Mm b)) : ∃ d C' b', fX1_breath C tb = some (d, C') ∧ Brt Mm b d b' ∧ (0 ≤ d ∧ d ≤ 36) ∧ FJ tb C' (cb Mm b') ∧ onlyRow C C' tb 0 ∧ enS (coM Mm) b' + d ≤ enS (coM Mm) b ∧ (d = 0 → b' = b) ∧ ∀ v, 36 ≤ v → b' v = b v := by
  obtain ⟨d, C', M1, b1, b2, b3, b4, b5, b6, b7, b8⟩ := brJ hJ
  have e := only_cb b6
  refine ⟨d, C', M1 4, b1, ?_, b3, ?_, b5, b7, fun z => by rw [b8 z]; rfl, fun v hv => b6 4 v (fun z => by omega)⟩
  · unfold Brt; rw [← e]; exact b2
  · rw [← e]; exact b4
theorem Chb.en {Mm : Mem} : ∀ (n : Nat) {b b' : Nat → Int} {C : Mem}, FJ 16 C (cb Mm b) → Chb Mm n b b' → enS (coM Mm) b' + (n : Int) ≤ enS (coM Mm) b ∧ (∃ C', FJ 16 C' (cb Mm b')) ∧ ∀ v, 36 ≤ v → b' v = b v
  | 0, b, b', C, hJ, k => by
    have k : b' = b := k
    rw [k]
    exact ⟨by omega, ⟨C, hJ⟩, fun _ _ => rfl⟩
  | n + 1, b, b', C, hJ, k => by
    obtain ⟨d, b1, k1, k2, k3⟩ := k
    obtain ⟨e, C', b2, a1, a2, a3, a4, a5, a6, a7, a8⟩ := brC hJ
    obtain ⟨z1, z2⟩ := k1.one a2
    rw [← z2] at a4 a6 a8
    obtain ⟨g1, g2, g3⟩ := Chb.en n a4 k3
    exact ⟨by omega, g2, fun v hv => (g3 v hv).trans (a8 v hv)⟩
/-- the class's breaths to rest -/
theorem rsC_L {Mm : Mem} : ∀ (N n : Nat) (C : Mem) (b : Nat → Int) (r : Nat), enS (coM Mm) b ≤ (N : Int) → r + N < 4000 → N < n → FJ 17 C (cb Mm b) →
    ∃ (s : Nat) (C' : Mem) (be : Nat → Int), fX1_breathsToRest_L17 n C (r : Int) = some (((r + s : Nat) : Int), C') ∧ s ≤ N ∧ FJ 17 C' (cb Mm be) ∧ Rst Mm s b be ∧ onlyRow C C' 17 0 := by
  intro N
  induction N with
  | zero =>
    intro n C b r hE hr hn hJ
    obtain ⟨n, rfl⟩ : ∃ k, n = k + 1 := ⟨n - 1, by omega⟩
    obtain ⟨d, C1, b1, a1, a2, a3, a4, a5, a6, a7, a8⟩ := brC hJ
    have nn := (en_nn (pc := coM Mm) (b := b1) (fun e he => coM_bd hJ.2.1 he)).1
    have d0 : d = 0 := by omega
    have eb := a7 d0
    rw [eb] at a2 a4
    rw [d0] at a2
    refine ⟨0, C1, b, ?_, Nat.le_refl _, a4, ⟨rfl, a2⟩, a5⟩
    rw [fX1_breathsToRest_L17]
    exact w_gdR (by omega) (by omega) (w_f (by omega) (w_bind a1 (w_gdR (by omega) (by omega) (w_t (by omega) rfl))))
  | succ N ih =>
    intro n C b r hE hr hn hJ
    obtain ⟨n, rfl⟩ : ∃ k, n = k + 1 := ⟨n - 1, by omega⟩
    obtain ⟨d, C1, b1, a1, a2, a3, a4, a5, a6, a7, a8⟩ := brC hJ
    by_cases q : d ≤ 0
    · have d0 : d = 0 := by omega
      have eb := a7 d0
      rw [eb] at a2 a4
      rw [d0] at a2
      refine ⟨0, C1, b, ?_, Nat.zero_le _, a4, ⟨rfl, a2⟩, a5⟩
      rw [fX1_breathsToRest_L17]
      exact w_gdR (by omega) (by omega) (w_f (by omega) (w_bind a1 (w_gdR (by omega) (by omega) (w_t q rfl))))
    · obtain ⟨s, C', be, g1, g2, g3, g4, g5⟩ := ih n C1 b1 (r + 1) (by omega) (by omega) (by omega) a4
      refine ⟨s + 1, C', be, ?_, by omega, g3, ⟨⟨d, b1, a2, by omega, g4.1⟩, g4.2⟩, a5.trans g5⟩
      rw [show ((r + 1 : Nat) : Int) = (r : Int) + 1 by omega] at g1
      rw [fX1_breathsToRest_L17, show r + (s + 1) = r + 1 + s by omega]
      exact w_gdR (by omega) (by omega) (w_f (by omega) (w_bind a1 (w_gdR (by omega) (by omega) (w_f q g1))))
theorem restC {M Mm : Mem} (h : Rl M Mm) : ∃ (r : Nat) (be : Nat → Int) (C : Mem), fX1_breathsToRest M = some ((r : Int), C) ∧ fX1_energyOf C 17 = some (enS (coM Mm) be) ∧ Rst Mm r (Mm 4) be ∧ r ≤ 3540 ∧ (0 ≤ enS (coM Mm) be ∧ enS (coM Mm) be + r ≤ enS (coM Mm) (Mm 4)) := by
  have oC : onlyRow M (cpA M 16 17 36) 17 0 := by
    intro a j h
    unfold cpA
    exact if_neg (fun q => h ⟨q.1, by omega, by omega⟩)
  have hF := h.fj
  have hJ : FJ 17 (cpA M 16 17 36) Mm := by
    refine ⟨?_, hF.2.1, ?_, ?_, fun v hv => ?_, hF.2.2.2.2.2.1, Or.inr rfl⟩
    · have g := hF.1
      unfold GR at g ⊢
      rw [oC.arr (show 0 ≠ 17 by decide), oC.arr (show 1 ≠ 17 by decide), oC.arr (show 2 ≠ 17 by decide), oC.arr (show 4 ≠ 17 by decide)]
      exact g
    · rw [oC.arr (show 4 ≠ 17 by decide)]; exact hF.2.2.1
    · rw [oC.arr (show 18 ≠ 17 by decide)]; exact hF.2.2.2.1
    · rw [← hF.2.2.2.2.1 v hv]
      unfold cpA
      exact if_pos ⟨rfl, hv⟩
  have hE := en_nn (pc := coM Mm) (b := Mm 4) (fun e he => coM_bd hF.2.1 he)
  obtain ⟨s, C, be, g1, g2, g3, g4, g5⟩ := rsC_L (Mm := Mm) 3540 FU (cpA M 16 17 36) (Mm 4) 0 (by omega) (by omega) (by have := FU_big; omega) hJ.cb
  rw [Nat.zero_add] at g1
  have enc : enS (C 4) (C 17) = enS (coM Mm) be := by
    unfold enS
    refine ss_congr 60 0 (fun e _ he => ?_)
    have he : e < 60 := by omega
    have z1 := g3.2.2.1 e he
    have z2 := g3.2.2.2.2.1 _ (lo_lt he)
    have z3 := g3.2.2.2.2.1 _ (hi_lt he)
    rw [z1, z2, z3]
    rfl
  have le := (Chb.en s h.fj.cb g4.1).1
  have nn := (en_nn (pc := coM Mm) (b := be) (fun e he => coM_bd hF.2.1 he)).1
  refine ⟨s, be, C, ?_, ?_, g4, g2, nn, le⟩
  · unfold fX1_breathsToRest
    exact w_bind g1 rfl
  · rw [← enc]
    exact enC g3.1 g3.tb
theorem g_rests {M Mm : Mem} (h : Rl M Mm) : ∃ (r : Nat) (be : Nat → Int) (C : Mem), fX5_rests M = some ((r : Int), C) ∧ Rst Mm r (Mm 4) be ∧ Rl C Mm ∧ Qf M C ∧ r ≤ 3540 ∧ (0 ≤ enS (coM Mm) be ∧ enS (coM Mm) be + r ≤ enS (coM Mm) (Mm 4)) := by
  obtain ⟨r, be, C, h1, h2, h3, h4, h5⟩ := restC h
  obtain ⟨x, C2, T9, a1, a2, a3, a4, a5, a6⟩ := q_rests h
  have c5 : fX5_rests M = some ((r : Int), C) := by unfold fX5_rests; exact w_bind h1 rfl
  rw [a1] at c5
  have e := Option.some.inj c5
  have e2 : C2 = C := congrArg Prod.snd e
  rw [e2] at a1 a4 a5
  refine ⟨r, be, C, ?_, h3, a4, a5, h4, h5⟩
  unfold fX5_rests; exact w_bind h1 rfl
theorem g_rest1 {M Mm : Mem} (h : Rl M Mm) : ∃ (r : Nat) (be : Nat → Int) (C : Mem), fL_energy M 1 = some (enS (coM Mm) be, C) ∧ Rst Mm r (Mm 4) be ∧ Rl C Mm ∧ Qf M C := by
  obtain ⟨r, be, C, h1, h2, h3, h4, h5⟩ := restC h
  obtain ⟨x, C2, T9, a1, a2, a3, a4, a5, a6⟩ := g_en1 h
  have c5 : fX5_energy M 1 = some (0, enS (coM Mm) be, C) := by
    unfold fX5_energy
    refine w_gd R1 (w_f (by decide) (w_t rfl (w_bind (t := (enS (coM Mm) be, C)) ?_ rfl)))
    unfold fX1_energyAtRest
    exact w_bind h1 (w_bind h2 rfl)
  have cL : fL_energy M 1 = some (enS (coM Mm) be, C) := by unfold fL_energy; exact w_bind c5 (w_t rfl rfl)
  have e := Option.some.inj (a1.symm.trans cL)
  have e2 : C2 = C := congrArg Prod.snd e
  rw [e2] at a4 a5
  exact ⟨r, be, C, cL, h3, a4, a5⟩
/-- the class's breaths, as many as are asked for -/
theorem letC_L {Mm : Mem} {B : Nat} (hB : B ≤ 100) (x3 : Int) : ∀ (m k n : Nat) (C : Mem) (b : Nat → Int) (mv x5 : Int), k + m = B → m < n → FJ 16 C (cb Mm b) → (0 ≤ mv ∧ mv ≤ 36 * (k : Int)) → (x5 = 1 ∨ (x5 = 0 ∧ Brt Mm b 0 b)) →
    ∃ (s : Int) (j : Nat) (C' : Mem) (b' : Nat → Int), fX1_letBreathe_L15 n C (B : Int) x3 mv x5 (k : Int) = some (mv + s, C') ∧ (0 ≤ s ∧ mv + s ≤ 36 * (B : Int)) ∧ FJ 16 C' (cb Mm b') ∧ onlyRow C C' 16 0 ∧ Chb Mm j b b' ∧ j ≤ m ∧ (j = m ∨ Brt Mm b' 0 b') ∧ (s = 0 ↔ j = 0) := by
  intro m
  induction m with
  | zero =>
    intro k n C b mv x5 h hn hJ hm hx
    obtain ⟨n, rfl⟩ : ∃ k, n = k + 1 := ⟨n - 1, by omega⟩
    refine ⟨0, 0, C, b, ?_, ⟨by omega, by omega⟩, hJ, onlyRow.refl _ _ _, rfl, Nat.le_refl _, Or.inl rfl, ⟨fun _ => rfl, fun _ => rfl⟩⟩
    rw [fX1_letBreathe_L15, Int.add_zero]
    exact w_gdR (by omega) (by omega) (w_gdR (by omega) (by omega) (w_t (by omega) rfl))
  | succ m ih =>
    intro k n C b mv x5 h hn hJ hm hx
    obtain ⟨n, rfl⟩ : ∃ k, n = k + 1 := ⟨n - 1, by omega⟩
    rcases hx with rfl | ⟨rfl, hs⟩
    · obtain ⟨d, C1, b1, a1, a2, a3, a4, a5, a6, a7, a8⟩ := brC hJ
      by_cases q : d ≤ 0
      · have d0 : d = 0 := by omega
        have eb := a7 d0
        rw [eb] at a2 a4
        rw [d0] at a2
        obtain ⟨s, j, C', b', g1, g2, g3, g4, g5, g6, g7, g8⟩ := ih (k + 1) n C1 b (mv + d) 0 (by omega) (by omega) a4 ⟨by omega, by omega⟩ (Or.inr ⟨rfl, a2⟩)
        have hj : j = 0 := by
          rcases Nat.eq_zero_or_pos j with z | z
          · exact z
          · obtain ⟨j2, rfl⟩ : ∃ x, j = x + 1 := ⟨j - 1, by omega⟩
            obtain ⟨e, c1, y1, y2, y3⟩ := g5
            have := (a2.one y1).1
            omega
        subst hj
        have g5 : b' = b := g5
        rw [show ((k + 1 : Nat) : Int) = (k : Int) + 1 by omega] at g1
        rw [d0, Int.add_zero] at g1 g2
        refine ⟨s, 0, C', b', ?_, g2, g3, a5.trans g4, g5, Nat.zero_le _, Or.inr (by rw [g5]; exact a2), g8⟩
        rw [fX1_letBreathe_L15]
        refine w_gdR (by omega) (by omega) (w_gdR (by omega) (by omega) (w_f (by omega) (w_gdR (by omega) (by omega) (w_f (by decide) (w_bind a1 (w_gdR (by omega) (by omega) (w_bind (t := 0) (w_t q rfl) ?_)))))))
        show fX1_letBreathe_L15 n C1 (B : Int) x3 (mv + d) 0 ((k : Int) + 1) = _
        rw [d0, Int.add_zero]
        exact g1
      · obtain ⟨s, j, C', b', g1, g2, g3, g4, g5, g6, g7, g8⟩ := ih (k + 1) n C1 b1 (mv + d) 1 (by omega) (by omega) a4 ⟨by omega, by omega⟩ (Or.inl rfl)
        rw [show ((k + 1 : Nat) : Int) = (k : Int) + 1 by omega] at g1
        refine ⟨d + s, j + 1, C', b', ?_, ⟨by omega, by omega⟩, g3, a5.trans g4, ⟨d, b1, a2, by omega, g5⟩, by omega, ?_, ⟨fun z => by omega, fun z => by omega⟩⟩
        · rw [fX1_letBreathe_L15, ← Int.add_assoc]
          exact w_gdR (by omega) (by omega) (w_gdR (by omega) (by omega) (w_f (by omega) (w_gdR (by omega) (by omega) (w_f (by decide) (w_bind a1 (w_gdR (by omega) (by omega) (w_bind (t := 1) (w_f q rfl) g1)))))))
        · rcases g7 with z | z
          · exact Or.inl (by omega)
          · exact Or.inr z
    · refine ⟨0, 0, C, b, ?_, ⟨by omega, by omega⟩, hJ, onlyRow.refl _ _ _, rfl, Nat.zero_le _, Or.inr hs, ⟨fun _ => rfl, fun _ => rfl⟩⟩
      rw [fX1_letBreathe_L15, Int.add_zero]
      exact w_gdR (by omega) (by omega) (w_gdR (by omega) (by omega) (w_f (by omega) (w_gdR (by omega) (by omega) (w_t rfl rfl))))
theorem Chb.tr {Mm Mn : Mem} (e : cb Mn = cb Mm) : ∀ (n : Nat) {b b' : Nat → Int}, Chb Mn n b b' → Chb Mm n b b'
  | 0, _, _, h => h
  | n + 1, b, b', h => by
    obtain ⟨d, b1, h1, h2, h3⟩ := h
    unfold Brt at h1
    rw [e] at h1
    exact ⟨d, b1, h1, h2, Chb.tr e n h3⟩
theorem Rst.tr {Mm Mn : Mem} (e : cb Mn = cb Mm) {r : Nat} {b be : Nat → Int} (h : Rst Mn r b be) : Rst Mm r b be := by
  obtain ⟨h1, h2⟩ := h
  unfold Brt at h2
  rw [e] at h2
  exact ⟨h1.tr e, h2⟩
