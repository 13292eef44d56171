/-! isFoam answers true -/
theorem wl_bd {M Mm : Mem} (h : Rl M Mm) (u j : Nat) : 0 ≤ wl (coM Mm) (Mm 4) u j ∧ wl (coM Mm) (Mm 4) u j ≤ 3540 := by
  have w := wb_nn (b := Mm 4) h.p159 (u : Int) (j : Int)
  unfold wl
  by_cases q : (u : Int) = (j : Int)
  · rw [if_pos q]; omega
  · rw [if_neg q]; exact w
theorem foam33 {M Mm : Mem} (h : Rl M Mm) {u : Nat} (hu : u < 8) (x1 x2 x3 : Int) : ∀ (m j n : Nat) (w o : Int), j + m = 8 → m < n →
    fL_isFoam_L33 n M x1 x2 x3 1 (u : Int) w o (j : Int) = some (1, w + ss (wl (coM Mm) (Mm 4) u) j m, o + ss (fun j => if wl (coM Mm) (Mm 4) u j ≤ 0 then 0 else 1) j m) := by
  intro m
  induction m with
  | zero =>
    intro j n w o hj hn
    obtain ⟨n, rfl⟩ : ∃ k, n = k + 1 := ⟨n - 1, by omega⟩
    rw [fL_isFoam_L33]
    refine w_gdR (by omega) (by omega) (w_t (by omega) ?_)
    rw [ss, ss, Int.add_zero, Int.add_zero]
  | succ m ih =>
    intro j n w o hj hn
    obtain ⟨n, rfl⟩ : ∃ k, n = k + 1 := ⟨n - 1, by omega⟩
    have hj8 : j < 8 := by omega
    have bd := wl_bd h u j
    have bd2 := wl_bd h j u
    have sy := wl_symm (coM Mm) (Mm 4) u j
    have g1 : fL_wall M (u : Int) (j : Int) = some (wl (coM Mm) (Mm 4) u j) := g_wall h hu hj8
    have g2 : fL_wall M (j : Int) (u : Int) = some (wl (coM Mm) (Mm 4) j u) := g_wall h hj8 hu
    have z : (j : Int) = (u : Int) → wl (coM Mm) (Mm 4) u j = 0 := fun q => by unfold wl; rw [if_pos q.symm]
    rw [fL_isFoam_L33, ss, ss]
    generalize wl (coM Mm) (Mm 4) u j = W at g1 bd sy z
    generalize wl (coM Mm) (Mm 4) j u = V at g2 bd2 sy
    refine w_gdR (by omega) (by omega) (w_f (by omega) (w_bind g1 (w_gdR (by omega) (by omega) (w_bind (t := if W ≤ 0 then 0 else 1) ?_ (w_gd R1 (w_bind (t := 1) ?_ ?_))))))
    · by_cases q : W ≤ 0
      · rw [if_pos q, if_pos q]
      · rw [if_neg q, if_neg q]
    · refine w_f N1 (w_bind g2 (w_gdR (by omega) (by omega) (w_t sy (w_gdR (by omega) (by omega) ?_))))
      by_cases q : (j : Int) = (u : Int)
      · exact w_t q (w_t (z q) rfl)
      · exact w_f q rfl
    · have g := ih (j + 1) n (w + W) (o + if W ≤ 0 then 0 else 1) (by omega) (by omega)
      rw [show ((j + 1 : Nat) : Int) = (j : Int) + 1 by omega, Int.add_assoc w, Int.add_assoc o] at g
      exact g
theorem foam12 {Mm : Mem} : ∀ (m k n : Nat) (C : Mem) (s nd : Int), k + m = 8 → m < n → Rl C Mm →
    ∃ C', fL_isFoam_L12 n C s nd 0 1 (k : Int) = some (s + ss (fun k => ss (fun j => wl (coM Mm) (Mm 4) k j) 0 8) k m, nd + ss (fun k => szS (Mm 4) (k : Int)) k m, 1, C') ∧ Rl C' Mm ∧ Qf C C' := by
  intro m
  induction m with
  | zero =>
    intro k n C s nd hk hn hR
    obtain ⟨n, rfl⟩ : ∃ k, n = k + 1 := ⟨n - 1, by omega⟩
    refine ⟨C, ?_, hR, Qf.refl _⟩
    rw [fL_isFoam_L12]
    refine w_gdR (by omega) (by omega) (w_t (by omega) ?_)
    rw [ss, ss, Int.add_zero, Int.add_zero]
  | succ m ih =>
    intro k n C s nd hk hn hR
    obtain ⟨n, rfl⟩ : ∃ k, n = k + 1 := ⟨n - 1, by omega⟩
    have hk8 : k < 8 := by omega
    have f33 := foam33 hR hk8 s nd 0 8 0 FU 0 0 (by omega) (by have := FU_big; omega)
    rw [Int.zero_add, Int.zero_add] at f33
    obtain ⟨t, C1, p1, p2, p3, p4, p5⟩ := g_pieces hR hk8
    have pb := pi_bd p2 p3
    have sb := szS_bd (Mm 4) (k : Int)
    have ar : fL_bubble C1 (k : Int) 2 = some (ss (wl (coM Mm) (Mm 4) k) 0 8, C1) := g_around p4 hk8
    have nr : fL_bubble C1 (k : Int) 3 = some (ss (fun j => if wl (coM Mm) (Mm 4) k j ≤ 0 then 0 else 1) 0 8, C1) := g_near p4 hk8
    have wsb : 0 ≤ ss (wl (coM Mm) (Mm 4) k) 0 8 ∧ ss (wl (coM Mm) (Mm 4) k) 0 8 ≤ 28320 := by
      refine ⟨ss_nn 8 0 (fun j _ _ => (wl_bd hR k j).1), ?_⟩
      have := ss_ub (c := 3540) (f := wl (coM Mm) (Mm 4) k) 8 0 (fun j _ _ => (wl_bd hR k j).2)
      omega
    have osb : 0 ≤ ss (fun j => if wl (coM Mm) (Mm 4) k j ≤ 0 then (0 : Int) else 1) 0 8 ∧ ss (fun j => if wl (coM Mm) (Mm 4) k j ≤ 0 then (0 : Int) else 1) 0 8 ≤ 8 := by
      refine ⟨ss_nn 8 0 (fun j _ _ => by split <;> omega), ?_⟩
      have := ss_ub (c := 1) (f := fun j => if wl (coM Mm) (Mm 4) k j ≤ 0 then (0 : Int) else 1) 8 0 (fun j _ _ => by show (if wl (coM Mm) (Mm 4) k j ≤ 0 then (0 : Int) else 1) ≤ 1; split <;> omega)
      omega
    obtain ⟨C', g1, g2, g3⟩ := ih (k + 1) n C1 (s + ss (wl (coM Mm) (Mm 4) k) 0 8) (nd + szS (Mm 4) (k : Int)) (by omega) (by omega) p4
    refine ⟨C', ?_, g2, p5.trans g3⟩
    rw [show ((k + 1 : Nat) : Int) = (k : Int) + 1 by omega, Int.add_assoc s, Int.add_assoc nd] at g1
    have s1 : ss (fun k => ss (fun j => wl (coM Mm) (Mm 4) k j) 0 8) k (m + 1) = ss (wl (coM Mm) (Mm 4) k) 0 8 + ss (fun k => ss (fun j => wl (coM Mm) (Mm 4) k j) 0 8) (k + 1) m := rfl
    have s2 : ss (fun k => szS (Mm 4) (k : Int)) k (m + 1) = szS (Mm 4) (k : Int) + ss (fun k => szS (Mm 4) (k : Int)) (k + 1) m := rfl
    rw [fL_isFoam_L12, s1, s2]
    clear s1 s2
    generalize ss (wl (coM Mm) (Mm 4) k) 0 8 = A at f33 ar wsb g1 ⊢
    generalize ss (fun j => if wl (coM Mm) (Mm 4) k j ≤ 0 then (0 : Int) else 1) 0 8 = O at f33 nr osb
    have sz := g_size hR hk8
    generalize ss (piN (Mm 4) t (k : Int)) 0 36 = P at p1 pb
    generalize szS (Mm 4) (k : Int) = Z at sz sb pb g1 ⊢
    have AR : inR A := ⟨by omega, by omega⟩
    have OR : inR O := ⟨by omega, by omega⟩
    have PR1 : inR P := ⟨by omega, by omega⟩
    have ZR : inR Z := ⟨by omega, by omega⟩
    refine w_gdR (by omega) (by omega) (w_f (by omega) (w_gd R1 (w_f N1 (w_bind f33 (w_bind sz (w_bind p1 (w_gd R1 (w_bind (t := (1, C1)) ?_ g1))))))))
    refine w_f N1 (w_bind ar (w_gd AR (w_gd AR (w_t rfl (w_bind nr (w_gd OR (w_gd OR (w_t rfl (w_gdR (by omega) (by omega) (w_gdR (by omega) (by omega) (w_f (by omega) ?_)))))))))))
    by_cases q : P ≤ 0
    · have q2 : Z ≤ 0 := by omega
      exact w_bind (w_t q rfl) (w_bind (w_t q2 rfl) (w_gd R0 (w_gd R0 (w_t rfl rfl))))
    · have q2 : ¬ Z ≤ 0 := by omega
      exact w_bind (w_f q rfl) (w_bind (w_f q2 rfl) (w_gd R1 (w_gd R1 (w_t rfl rfl))))
theorem foam218 {M Mm : Mem} (h : Rl M Mm) (x1 x2 x4 : Int) : ∀ (m q n : Nat) (s : Int), q + m = 5 → 1 ≤ q → m < n → fL_isFoam_L218 n M x1 x2 s x4 (q : Int) = some (s + ss (fun q => crS (Mm 4) (q : Int)) q m) := by
  intro m
  induction m with
  | zero =>
    intro q n s hq h1 hn
    obtain ⟨n, rfl⟩ : ∃ k, n = k + 1 := ⟨n - 1, by omega⟩
    rw [fL_isFoam_L218]
    refine w_gdR (by omega) (by omega) (w_t (by omega) ?_)
    rw [ss, Int.add_zero]
  | succ m ih =>
    intro q n s hq h1 hn
    obtain ⟨n, rfl⟩ : ∃ k, n = k + 1 := ⟨n - 1, by omega⟩
    rw [fL_isFoam_L218]
    refine w_gdR (by omega) (by omega) (w_f (by omega) (w_bind (g_corners h (q := (q : Int)) ⟨by omega, by omega⟩) ?_))
    rw [kinC_eq h, ss, ← Int.add_assoc, show (q : Int) + 1 = ((q + 1 : Nat) : Int) by omega]
    exact ih (q + 1) n _ (by omega) (by omega) (by omega)
theorem cr_five {M Mm : Mem} (h : Rl M Mm) (x1 x2 x4 : Int) : fL_isFoam_L218 FU M x1 x2 0 x4 1 = some 25 := by
  have g := foam218 h x1 x2 x4 4 1 FU 0 (by omega) (by omega) (by have := FU_big; omega)
  have c := cr_sum (b := Mm 4) h.bubs
  have e : (0 : Int) + ss (fun q => crS (Mm 4) (q : Int)) 1 4 = 25 := by
    have : ss (fun q => crS (Mm 4) (q : Int)) 1 4 = crS (Mm 4) 1 + (crS (Mm 4) 2 + (crS (Mm 4) 3 + (crS (Mm 4) 4 + 0))) := rfl
    rw [this]
    omega
  rw [e] at g
  exact g
theorem q_isFoam {i : Int} {M Mm : Mem} (h : SI i M Mm) (hi : i ≤ 100) : ∃ C : Mem, fL_isFoam M = some (1, C) ∧ Rl C Mm ∧ Qf M C := by
  have hR := h.1
  obtain ⟨C1, a1, a2, a3⟩ := foam12 (Mm := Mm) 8 0 FU M 0 0 (by omega) (by have := FU_big; omega) hR
  rw [wl_sum hR.bubs, sz_sum hR.bubs, Int.zero_add, Int.zero_add] at a1
  obtain ⟨r1, be1, C2, b1, b2, b3, b4⟩ := g_rest1 a2
  obtain ⟨r, be, C3, c1, c2, c3, c4, c5, c6, c7⟩ := g_rests b3
  obtain ⟨er, eb⟩ := b2.one c2
  subst er
  subst eb
  have E := en_nn (pc := coM Mm) (b := Mm 4) hR.p159
  have S3 := ((h.q a2 a3).q b3 b4).q c3 c4
  have e4 := g_en4 c3
  have bal : enS (coM Mm) (Mm 4) + C3 105 0 - C3 104 0 = 0 := by have := S3.bal; omega
  rw [bal] at e4
  have L3 := S3.2.2.2.1
  have e0 := g_en0 a2
  have r0 : r1 = 0 → enS (coM Mm) be1 = enS (coM Mm) (Mm 4) := fun z => by
    have z2 := c2.1
    rw [z] at z2
    have z2 : be1 = Mm 4 := z2
    rw [z2]
  have e3 := g_en3 (M := C3)
  refine ⟨C3, ?_, c3, (a3.trans b4).trans c4⟩
  have cr := cr_five a2 (2 * enS (coM Mm) (Mm 4)) 36 1
  generalize enS (coM Mm) (Mm 4) = EN at a1 e0 E c7 r0 cr
  generalize enS (coM Mm) be1 = EB at b1 c6 c7 r0
  unfold fL_isFoam
  refine w_bind a1 (w_bind cr (w_bind e0 (w_bind b1 (w_bind c1 (w_gd R1 (w_bind (t := (1, C3)) ?_ (w_gd (Or.inr rfl) rfl)))))))
  refine w_f N1 (w_gdR (by omega) (by omega) (w_gdR (by omega) (by omega) (w_t rfl (w_gd (show inR (36 : Int) from ⟨by decide, by decide⟩) (w_t rfl (w_gd (show inR (25 : Int) from ⟨by decide, by decide⟩) (w_t rfl (w_bind e4 (w_gd R0 (w_t rfl (w_gdR (by omega) (by omega) (w_gdR (by omega) (by omega) (w_f (by omega) (w_gdR (by omega) (by omega) (w_f (by omega) ?_)))))))))))))))
  have last : fL_energy C3 3 = some (C3 105 0, C3) := e3
  have fin : Option.bind (fL_energy C3 3) (fun t110 => gd (inR (t110.1)) (if t110.1 < 0 then (some ((0 : Int), t110.2)) else (some (1, t110.2)))) = some (1, C3) := w_bind last (w_gdR (by omega) (by omega) (w_f (by omega) rfl))
  by_cases q : (r1 : Int) ≤ 0
  · have q2 : EN ≤ EB := by have := r0 (by omega); omega
    exact w_bind (w_t q rfl) (w_bind (w_t q2 rfl) (w_gd R0 (w_gd R0 (w_t rfl fin))))
  · have q2 : ¬ EN ≤ EB := by omega
    exact w_bind (w_f q rfl) (w_bind (w_f q2 rfl) (w_gd R1 (w_gd R1 (w_t rfl fin))))
