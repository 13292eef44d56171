/-! breathes -/
def Dn (i : Int) (M Mm : Mem) (told : Int) (C : Mem) : Prop := (Refd told ∧ SI i C Mm) ∨ (OkT told ∧ ∃ Mm', SI (i + 1) C Mm')
theorem SI.up {i : Int} {M Mm : Mem} (h : SI i M Mm) : SI (i + 1) M Mm := by
  obtain ⟨h1, h2, h3, h4, h5⟩ := h
  exact ⟨h1, h2, h3, ⟨h4.1, by omega⟩, h5⟩
theorem En.dn {i : Int} {M Mm : Mem} (h : SI i M Mm) {told : Int} {C : Mem} (e : En i M Mm told C) : Dn i M Mm told C := by
  rcases e with ⟨a, b⟩ | ⟨a, Mm', b⟩
  · exact Or.inl ⟨a, by rw [b]; exact h⟩
  · exact Or.inr ⟨a, Mm', b.up⟩
theorem e_breathe {i : Int} {M Mm : Mem} (h : SI i M Mm) {B : Nat} (hB : 1 ≤ B ∧ B ≤ 3) : ∃ (s : Int) (C Mm' : Mem) (j : Nat), tL_breathe M (B : Int) = some (s, C) ∧ (0 ≤ s ∧ s ≤ 10000) ∧ SI (i + 1) C Mm' ∧ coM Mm' = coM Mm ∧ cb Mm' = cb Mm ∧ Chb Mm j (Mm 4) (Mm' 4) ∧ j ≤ B ∧ (j = B ∨ Brt Mm (Mm' 4) 0 (Mm' 4)) ∧ (s = 0 ↔ j = 0) ∧ C 105 0 = M 105 0 + (enS (coM Mm) (Mm 4) - enS (coM Mm) (Mm' 4)) := by
  have hR := h.1
  obtain ⟨s, j, C', b', g1, g2, g3, g4, g5, g6, g7, g8⟩ := letC_L (Mm := Mm) (B := B) (by omega) (enS (coM Mm) (Mm 4)) B 0 FU M (Mm 4) 0 1 (by omega) (by have := FU_big; omega) hR.fj.cb ⟨by omega, by omega⟩ (Or.inl rfl)
  obtain ⟨n1, n2, n3⟩ := Chb.en j hR.fj.cb g5
  rw [Int.zero_add] at g1 g2
  obtain ⟨N, hN⟩ : ∃ N : Mem, N = fun a => if a = 4 then b' else Mm a := ⟨_, rfl⟩
  have nr : ∀ a, a ≠ 4 → N a = Mm a := fun a ha => by rw [hN]; exact if_neg ha
  have n4 : N 4 = b' := by rw [hN]; exact if_pos rfl
  have o2 : onlyRow Mm N 4 0 := fun a v hv => by
    by_cases q : a = 4
    · subst q
      rw [n4]
      exact n3 v (by omega)
    · rw [nr a q]
  have hJ : FJ 16 C' N := by rw [hN]; exact g3
  have h1 : Rl C' N := hR.foam g4 o2 hJ
  have cN : coM N = coM Mm := coM_of (nr 0 (by decide)) (nr 1 (by decide))
  have h2 := h1.lose (enS (coM Mm) (Mm 4) - enS (coM Mm) b')
  have e1 : fX1_energyNow C' = some (enS (coM Mm) b') := by rw [← cN, ← n4]; exact h1.enNow
  have c5 : fX5_breathe M (B : Int) = some (0, s, wr C' 105 0 (C' 105 0 + (enS (coM Mm) (Mm 4) - enS (coM Mm) b'))) := by
    unfold fX5_breathe
    refine w_gdR (by omega) (by omega) (w_f (by omega) (w_t (by omega) (w_bind (t := (s, _)) ?_ rfl)))
    unfold fX1_letBreathe
    exact w_bind hR.enNow (w_bind g1 (w_bind e1 rfl))
  have E1 := en_nn (pc := coM Mm) (b := Mm 4) hR.p159
  have E2 := en_nn (pc := coM Mm) (b := b') hR.p159
  have k105 : C' 105 = M 105 := g4.arr (by decide)
  have d4 : wr N 103 0 (N 103 0 + (enS (coM Mm) (Mm 4) - enS (coM Mm) b')) 4 = b' := by rw [wr_row _ _ (by decide), n4]
  have dc : coM (wr N 103 0 (N 103 0 + (enS (coM Mm) (Mm 4) - enS (coM Mm) b'))) = coM Mm := by
    rw [coM_of (wr_row _ _ (show 0 ≠ 103 by decide)) (wr_row _ _ (show 1 ≠ 103 by decide)), cN]
  refine ⟨s, _, _, j, ?_, ⟨g2.1, by omega⟩, ⟨h2, ?_, ?_, ?_, ?_⟩, dc, ?_, by rw [d4]; exact g5, g6, by rw [d4]; exact g7, g8, ?_⟩
  · unfold tL_breathe
    exact w_bind c5 (w_gd (Or.inl rfl) (w_t rfl rfl))
  · rw [wr_row _ _ (show 21 ≠ 105 by decide), wr_row _ _ (show 102 ≠ 105 by decide), g4.arr (show 21 ≠ 16 by decide), g4.arr (show 102 ≠ 16 by decide)]
    exact h.2.1
  · rw [wr_row _ _ (show 22 ≠ 105 by decide), wr_row _ _ (show 12 ≠ 105 by decide), g4.arr (show 22 ≠ 16 by decide), g4.arr (show 12 ≠ 16 by decide)]
    exact h.2.2.1
  · rw [wr_at, k105]
    have := h.2.2.2.1
    omega
  · rw [en_eq h2, dc, d4, wr_at, k105, wr_row _ _ (show 104 ≠ 105 by decide), g4.arr (show 104 ≠ 16 by decide)]
    have := h.bal
    omega
  · funext b a
    unfold cb
    by_cases q4 : a = 4
    · rw [if_pos q4, if_pos q4]
    · rw [if_neg q4, if_neg q4, wr_row _ _ (show 0 ≠ 103 by decide), wr_row _ _ (show 1 ≠ 103 by decide), wr_row _ _ (show 5 ≠ 103 by decide), nr 0 (by decide), nr 1 (by decide), nr 5 (by decide)]
  · rw [wr_at, k105, d4]
theorem t_breathe0 {M : Mem} : tL_breathe M 0 = some (-2000000002, M) := by
  unfold tL_breathe
  refine w_bind (t := (2, 0, M)) ?_ (w_gd (Or.inr rfl) (w_f Z20 rfl))
  unfold fX5_breathe
  exact w_gd R0 (w_t (by decide) rfl)
theorem notR {x : Int} (h : 0 ≤ x) : ¬ (x = -2000000001 ∨ x = -2000000002 ∨ x = -2000000003) := by omega
theorem q_breathes {i : Int} {M Mm : Mem} (h : SI i M Mm) (hi : 0 ≤ i ∧ i ≤ 90) {B : Nat} (hB : B ≤ 3) : ∃ told C, fL_breathes M (B : Int) = some (told, C) ∧ Dn i M Mm told C := by
  have hR := h.1
  obtain ⟨r, be, C1, a1, a2, a3, a4, a5, a6, a7⟩ := g_rests hR
  obtain ⟨r2, be2, C2, b1, b2, b3, b4⟩ := g_rest1 a3
  obtain ⟨e1, e2⟩ := a2.one b2
  subst e1
  subst e2
  have S2 := (h.q a3 a4).q b3 b4
  have en := g_en0 hR
  have el := g_en3 (M := M)
  have E := en_nn (pc := coM Mm) (b := Mm 4) hR.p159
  have l0 := h.2.2.2.1
  by_cases c : B = 0
  · subst c
    refine ⟨-2000000002, C2, ?_, Or.inl ⟨Or.inr (Or.inl rfl), S2⟩⟩
    have en2 := g_en0 b3
    have rf := isRef (M := C2) (x := -2000000002) ⟨by decide, by decide⟩
    rw [if_pos (Or.inr (Or.inl rfl))] at rf
    unfold fL_breathes
    exact w_bind en (w_bind el (w_bind a1 (w_bind b1 (w_bind t_breathe0 (w_bind en2 (w_bind rf (w_gd R1 (w_bind (t := (1, C2)) (w_f N1 rfl) (w_gd R1 (w_bind (w_f N1 rfl) rfl))))))))))
  · obtain ⟨s, C3, Mn, j, t1, t2, t3, t4, t5, t6, t7, t8, t9, t10⟩ := e_breathe S2 (B := B) ⟨by omega, hB⟩
    have n1 := (Chb.en j hR.fj.cb t6).1
    obtain ⟨p1, p2⟩ := Rst.part j r a2 t6
    obtain ⟨r1, be1, C4, u1, u2, u3, u4⟩ := g_rest1 t3.1
    obtain ⟨v1, v2⟩ := (u2.tr t5).one p2
    obtain ⟨r3, be3, C5, w1, w2, w3, w4, w5, w6⟩ := g_rests u3
    obtain ⟨z1, z2⟩ := (w2.tr t5).one p2
    have en3 := g_en0 t3.1
    have el3 := g_en3 (M := C3)
    rw [t4] at en3 u1
    rw [v2] at u1
    have E3 := en_nn (pc := coM Mm) (b := Mn 4) hR.p159
    have l2 := S2.2.2.2.1
    have k105 : C2 105 = M 105 := (a4.trans b4) 105 (by decide)
    rw [k105] at t10
    have atr : Brt Mm (Mn 4) 0 (Mn 4) → r - j = 0 := fun q => (p2.one (s := 0) (bf := Mn 4) ⟨show Chb Mm 0 (Mn 4) (Mn 4) from rfl, q⟩).1
    have zero : s = 0 → enS (coM Mm) (Mn 4) = enS (coM Mm) (Mm 4) := fun q => by
      have q2 := t9.mp q
      rw [q2] at t6
      have t6 : Mn 4 = Mm 4 := t6
      rw [t6]
    have s0r : s = 0 ↔ r = 0 := by
      constructor
      · intro q
        have q2 := t9.mp q
        rcases t8 with y | y
        · omega
        · have := atr y; omega
      · intro q
        exact t9.mpr (by omega)
    have rest : r ≤ B → r - j = 0 := fun q => by
      rcases t8 with y | y
      · omega
      · exact atr y
    have rest2 : B < r → r - j = r - B := fun q => by
      rcases t8 with y | y
      · rw [y]
      · have := atr y; omega
    have fin : r ≤ B → enS (coM Mm) (Mn 4) = enS (coM Mm) be := fun q => by
      have y := rest q
      rw [y] at p2
      have p3 : be = Mn 4 := p2.1
      rw [p3]
    have rf := isRef (M := C3) (x := s) ⟨by omega, by omega⟩
    rw [if_neg (notR t2.1)] at rf
    have S5 := (t3.q u3 u4).q w3 w4
    refine ⟨s, C5, ?_, Or.inr ⟨⟨t2.1, by omega⟩, Mn, S5⟩⟩
    rw [z1] at w1
    have jr : r - j ≤ 3540 := by omega
    generalize enS (coM Mm) (Mm 4) = EN at *
    generalize enS (coM Mm) (Mn 4) = EM at *
    generalize enS (coM Mm) be = EB at *
    have tail : Option.bind (fX5_rests C4) (fun t44 => gd (inR ((B : Nat) : Int)) (Option.bind (if ((r : Nat) : Int) ≤ ((B : Nat) : Int) then (some (0 : Int)) else (some (((r : Nat) : Int) - ((B : Nat) : Int)))) (fun t48 => gd (inR (t44.1)) (gd (inR (t48)) (if t44.1 = t48 then (if ((B : Nat) : Int) < ((r : Nat) : Int) then (some ((1 : Int), t44.2)) else (if EM = EB then (some (1, t44.2)) else (some (0, t44.2)))) else (some (0, t44.2))))))) = some (1, C5) := by
      refine w_bind w1 (w_gdR (by omega) (by omega) ?_)
      by_cases q : r ≤ B
      · have y := rest q
        exact w_bind (w_t (by omega) rfl) (w_gdR (by omega) (by omega) (w_gd R0 (w_t (by omega) (w_f (by omega) (w_t (fin q) rfl)))))
      · have y := rest2 (by omega)
        exact w_bind (w_f (by omega) rfl) (w_gdR (by omega) (by omega) (w_gdR (by omega) (by omega) (w_t (by omega) (w_t (by omega) rfl))))
    unfold fL_breathes
    refine w_bind en (w_bind el (w_bind a1 (w_bind b1 (w_bind t1 (w_bind en3 (w_bind rf (w_gd R0 (w_bind (t := (1, C5)) ?_ (w_gd R1 (w_bind (t := s) (w_f N1 rfl) rfl))))))))))
    refine w_t rfl (w_bind el3 (w_gdR (by omega) (by omega) (w_gdR (by omega) (by omega) (w_t (by omega) (w_gdR (by omega) (by omega) ?_)))))
    by_cases q : s = 0
    · have q2 := s0r.mp q
      exact w_bind (w_t (by omega) rfl) (w_gdR (by omega) (by omega) (w_bind (w_t (by omega) rfl) (w_gd R0 (w_gd R0 (w_t rfl (w_t q (w_gdR (by omega) (by omega) (w_gdR (by omega) (by omega) (w_t (zero q) (w_bind u1 (w_gdR (by omega) (by omega) (w_gdR (by omega) (by omega) (w_t rfl tail)))))))))))))
    · have q2 : ¬ r = 0 := fun y => q (s0r.mpr y)
      have j0 : ¬ j = 0 := fun y => q (t9.mpr y)
      exact w_bind (w_f (by omega) rfl) (w_gdR (by omega) (by omega) (w_bind (w_f (by omega) rfl) (w_gd R1 (w_gd R1 (w_t rfl (w_f q (w_gdR (by omega) (by omega) (w_gdR (by omega) (by omega) (w_f (by omega) (w_bind u1 (w_gdR (by omega) (by omega) (w_gdR (by omega) (by omega) (w_t rfl tail)))))))))))))
