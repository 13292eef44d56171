/-! walls, corners, how many nodes -/
abbrev isW (b : Nat → Int) (x y : Int) (e : Nat) : Prop := (b (lo e) = x ∧ b (hi e) = y) ∨ (b (lo e) = y ∧ b (hi e) = x)
theorem btC {M : Mem} (hg : GR M) (ht : TB M 16) {e : Nat} (he : e < 60) {x y : Int} (hx : 0 ≤ x ∧ x < 8) (hy : 0 ≤ y ∧ y < 8) : ∃ r, fX1_isBetween M (e : Int) x y = some r ∧ ((r = 1 ∧ isW (M 16) x y e) ∨ (r = 0 ∧ ¬ isW (M 16) x y e)) := by
  have hl := lo_lt he
  have hh := hi_lt he
  have h1 := ht.2.2 _ hl
  have h2 := ht.2.2 _ hh
  have go : ∀ r, (r = 0 ∨ r = 1) → (if M 16 (lo e) = x then (gd (inR (M 16 (hi e))) (gd (inR y) (if M 16 (hi e) = y then (some (1 : Int)) else (if M 16 (lo e) = y then (if M 16 (hi e) = x then (some (1)) else (some (0))) else (some (0)))))) else (gd (inR y) (if M 16 (lo e) = y then (gd (inR (M 16 (hi e))) (if M 16 (hi e) = x then (some (1)) else (some (0)))) else (some (0))))) = some r → fX1_isBetween M (e : Int) x y = some r := by
    intro r hr h
    unfold fX1_isBetween
    refine w_bind (gr_low hg he) (w_gdB (by omega) (by omega) (w_bind (gr_high hg he) (w_gdB (by omega) (by omega) ?_)))
    rw [Int.toNat_natCast, Int.toNat_natCast]
    exact w_gdR (by omega) (by omega) (w_gdR (by omega) (by omega) (w_bind h (w_gd hr rfl)))
  by_cases a : M 16 (lo e) = x
  · by_cases b : M 16 (hi e) = y
    · exact ⟨1, go 1 (Or.inr rfl) (w_t a (w_gdR (by omega) (by omega) (w_gdR (by omega) (by omega) (w_t b rfl)))), Or.inl ⟨rfl, Or.inl ⟨a, b⟩⟩⟩
    · by_cases c : M 16 (lo e) = y
      · by_cases d : M 16 (hi e) = x
        · exact ⟨1, go 1 (Or.inr rfl) (w_t a (w_gdR (by omega) (by omega) (w_gdR (by omega) (by omega) (w_f b (w_t c (w_t d rfl)))))), Or.inl ⟨rfl, Or.inr ⟨c, d⟩⟩⟩
        · exact ⟨0, go 0 (Or.inl rfl) (w_t a (w_gdR (by omega) (by omega) (w_gdR (by omega) (by omega) (w_f b (w_t c (w_f d rfl)))))), Or.inr ⟨rfl, fun q => q.elim (fun z => b z.2) (fun z => d z.2)⟩⟩
      · exact ⟨0, go 0 (Or.inl rfl) (w_t a (w_gdR (by omega) (by omega) (w_gdR (by omega) (by omega) (w_f b (w_f c rfl))))), Or.inr ⟨rfl, fun q => q.elim (fun z => b z.2) (fun z => c z.1)⟩⟩
  · by_cases c : M 16 (lo e) = y
    · by_cases d : M 16 (hi e) = x
      · exact ⟨1, go 1 (Or.inr rfl) (w_f a (w_gdR (by omega) (by omega) (w_t c (w_gdR (by omega) (by omega) (w_t d rfl))))), Or.inl ⟨rfl, Or.inr ⟨c, d⟩⟩⟩
      · exact ⟨0, go 0 (Or.inl rfl) (w_f a (w_gdR (by omega) (by omega) (w_t c (w_gdR (by omega) (by omega) (w_f d rfl))))), Or.inr ⟨rfl, fun q => q.elim (fun z => a z.1) (fun z => d z.2)⟩⟩
    · exact ⟨0, go 0 (Or.inl rfl) (w_f a (w_gdR (by omega) (by omega) (w_f c rfl))), Or.inr ⟨rfl, fun q => q.elim (fun z => a z.1) (fun z => c z.1)⟩⟩
def wbS (pc b : Nat → Int) (x y : Int) : Int := ss (fun e => if isW b x y e then pc e else 0) 0 60
theorem wbC_L {M : Mem} (hg : GR M) (ht : TB M 16) {x y : Int} (hx : 0 ≤ x ∧ x < 8) (hy : 0 ≤ y ∧ y < 8) : ∀ (m e n : Nat) (s : Int), e + m = 60 → m < n → fX1_wallsBetween_L6 n M x y s (e : Int) = some (s + ss (fun i => if isW (M 16) x y i then M 4 i else 0) e m) := by
  intro m
  induction m with
  | zero =>
    intro e n s h hn
    obtain ⟨n, rfl⟩ : ∃ k, n = k + 1 := ⟨n - 1, by omega⟩
    rw [fX1_wallsBetween_L6, ss, Int.add_zero]
    exact w_gdR (by omega) (by omega) (w_t (by omega) rfl)
  | succ m ih =>
    intro e n s h hn
    obtain ⟨n, rfl⟩ : ∃ k, n = k + 1 := ⟨n - 1, by omega⟩
    have he : e < 60 := by omega
    obtain ⟨r, r1, r2⟩ := btC hg ht he hx hy
    rw [fX1_wallsBetween_L6]
    refine w_gdR (by omega) (by omega) (w_f (by omega) (w_bind r1 (w_gdR (by omega) (by omega) (w_bind (t := s + (if isW (M 16) x y e then M 4 e else 0)) ?_ ?_))))
    · rcases r2 with ⟨q1, q2⟩ | ⟨q1, q2⟩
      · rw [if_pos q2]
        exact w_f (by omega) (w_bind (gr_price he) rfl)
      · rw [if_neg q2, Int.add_zero]
        exact w_t q1 rfl
    · rw [show (e : Int) + 1 = ((e + 1 : Nat) : Int) by omega, ih (e + 1) n _ (by omega) (by omega), ss, Int.add_assoc]
theorem wbC {M : Mem} (hg : GR M) (ht : TB M 16) {x y : Int} (hx : 0 ≤ x ∧ x < 8) (hy : 0 ≤ y ∧ y < 8) : fX1_wallsBetween M x y = some (wbS (M 4) (M 16) x y) := by
  have h := wbC_L hg ht hx hy 60 0 FU 0 (by omega) (by have := FU_big; omega)
  unfold fX1_wallsBetween
  refine w_bind h ?_
  rw [Int.zero_add]
  rfl
theorem wbM_L {M : Mem} (hb : BR M) {x y : Int} (hx : 0 ≤ x ∧ x < 8) (hy : 0 ≤ y ∧ y < 8) : ∀ (m e n : Nat) (s : Int), e + m = 60 → m < n → fX6_wallBetween_L5 n M x y s (e : Int) = some (s + ss (fun i => if x = y then 0 else if isW (M 4) x y i then coM M i else 0) e m) := by
  intro m
  induction m with
  | zero =>
    intro e n s h hn
    obtain ⟨n, rfl⟩ : ∃ k, n = k + 1 := ⟨n - 1, by omega⟩
    rw [fX6_wallBetween_L5, ss, Int.add_zero]
    exact w_gdR (by omega) (by omega) (w_t (by omega) rfl)
  | succ m ih =>
    intro e n s h hn
    obtain ⟨n, rfl⟩ : ∃ k, n = k + 1 := ⟨n - 1, by omega⟩
    have he : e < 60 := by omega
    have hl := lo_lt he
    have hh := hi_lt he
    have h1 := hb _ hl
    have h2 := hb _ hh
    rw [fX6_wallBetween_L5]
    refine w_gdR (by omega) (by omega) (w_f (by omega) (w_bind (m_first M he) (w_gdB (by omega) (by omega) (w_bind (m_second M he) (w_gdB (by omega) (by omega) (w_gdR (by omega) (by omega) (w_gdR (by omega) (by omega) ?_))))))) 
    rw [Int.toNat_natCast, Int.toNat_natCast]
    refine w_bind (t := if x = y then 0 else if isW (M 4) x y e then coM M e else 0) ?_ ?_
    · by_cases g : x = y
      · rw [if_pos g, if_pos g]
      · rw [if_neg g, if_neg g]
        refine w_gdR (by omega) (by omega) ?_
        by_cases a : M 4 (lo e) = x
        · by_cases b : M 4 (hi e) = y
          · rw [if_pos (show isW (M 4) x y e from Or.inl ⟨a, b⟩)]
            exact w_t a (w_gdR (by omega) (by omega) (w_t b (w_bind (m_cost M he) rfl)))
          · have c : M 4 (lo e) ≠ y := fun z => g (a.symm.trans z)
            rw [if_neg (show ¬ isW (M 4) x y e from fun q => q.elim (fun z => b z.2) (fun z => c z.1))]
            exact w_t a (w_gdR (by omega) (by omega) (w_f b (w_f c rfl)))
        · by_cases c : M 4 (lo e) = y
          · by_cases d : M 4 (hi e) = x
            · rw [if_pos (show isW (M 4) x y e from Or.inr ⟨c, d⟩)]
              exact w_f a (w_t c (w_gdR (by omega) (by omega) (w_t d (w_bind (m_cost M he) rfl))))
            · rw [if_neg (show ¬ isW (M 4) x y e from fun q => q.elim (fun z => a z.1) (fun z => d z.2))]
              exact w_f a (w_t c (w_gdR (by omega) (by omega) (w_f d rfl)))
          · rw [if_neg (show ¬ isW (M 4) x y e from fun q => q.elim (fun z => a z.1) (fun z => c z.1))]
            exact w_f a (w_f c rfl)
    · rw [show (e : Int) + 1 = ((e + 1 : Nat) : Int) by omega, ih (e + 1) n _ (by omega) (by omega), ss, Int.add_assoc]
theorem wbM {M : Mem} (hb : BR M) {x y : Int} (hx : 0 ≤ x ∧ x < 8) (hy : 0 ≤ y ∧ y < 8) : fX6_wallBetween M x y = some (if x = y then 0 else wbS (coM M) (M 4) x y) := by
  have h := wbM_L hb hx hy 60 0 FU 0 (by omega) (by have := FU_big; omega)
  unfold fX6_wallBetween
  refine w_bind h ?_
  rw [Int.zero_add]
  by_cases g : x = y
  · rw [if_pos g, ss_zero 60 0 (fun i _ _ => if_pos g)]
  · rw [if_neg g, ss_congr (g := fun i => if isW (M 4) x y i then coM M i else 0) 60 0 (fun i _ _ => if_neg g)]
    rfl
theorem Rl.wb {Mc Mm : Mem} (h : Rl Mc Mm) (x y : Int) : wbS (Mc 4) (Mc 16) x y = wbS (coM Mm) (Mm 4) x y := by
  unfold wbS isW
  refine ss_congr 60 0 (fun e _ he => ?_)
  have he : e < 60 := by omega
  rw [(h.2.2.2.1 e he).2, (h.2.2.2.2.2.2.2.1 _ (lo_lt he)).1, (h.2.2.2.2.2.2.2.1 _ (hi_lt he)).1]
theorem wb_nn {pc b : Nat → Int} (hp : ∀ e, e < 60 → 1 ≤ pc e ∧ pc e ≤ 59) (x y : Int) : 0 ≤ wbS pc b x y ∧ wbS pc b x y ≤ 3540 := by
  have h : ∀ e, 0 ≤ e → e < 0 + 60 → 0 ≤ (if isW b x y e then pc e else 0) ∧ (if isW b x y e then pc e else 0) ≤ 59 := by
    intro e _ he
    have := hp e (by omega)
    split <;> omega
  exact ⟨ss_nn 60 0 (fun e h1 h2 => (h e h1 h2).1), by have := ss_ub (c := 59) 60 0 (fun e h1 h2 => (h e h1 h2).2); unfold wbS; omega⟩
theorem F_wall : Fc_wall Rl := by
  intro Mc Mm y0 y1 hR hy hz
  by_cases c : 0 ≤ y0 ∧ y0 < 8
  · obtain ⟨u, rfl⟩ : ∃ e : Nat, y0 = e := ⟨y0.toNat, by omega⟩
    have hu : u < 8 := by omega
    by_cases d : 0 ≤ y1 ∧ y1 < 8
    · obtain ⟨k, rfl⟩ : ∃ e : Nat, y1 = e := ⟨y1.toNat, by omega⟩
      have hk : k < 8 := by omega
      have h0 := hR.thr 0
      refine ⟨(0, if (u : Int) = (k : Int) then 0 else wbS (coM Mm) (Mm 4) (u : Int) (k : Int), Mc), (if (u : Int) = (k : Int) then 0 else wbS (coM Mm) (Mm 4) (u : Int) (k : Int), wr Mm 100 0 0), ?_, ?_, Or.inl rfl, rfl, fun _ => rfl, h0⟩
      · unfold fX5_wall
        refine w_bind (chB_y Mc hu) (w_t rfl (w_bind (chB_y Mc hk) (w_t rfl (w_gd hy (w_gd hz (w_bind (t := if (u : Int) = (k : Int) then 0 else wbS (coM Mm) (Mm 4) (u : Int) (k : Int)) ?_ rfl))))))
        by_cases q : (u : Int) = (k : Int)
        · rw [if_pos q, if_pos q]
        · rw [if_neg q, if_neg q, ← hR.wb]
          exact w_bind (wbC hR.1 hR.owns c d) rfl
      · unfold fX6_wall
        exact w_bind (isBub_y Mm hu) (w_gd R1 (w_bind (t := 0) (w_f N1 (w_bind (isBub_y Mm hk) (w_gd R1 (w_f N1 rfl)))) (w_bind (ref0 Mm) (w_gd R0 (w_bind (w_t rfl (w_bind (wbM h0.bubs c d) rfl)) rfl)))))
    · refine ⟨(1, 0, Mc), (0, wr Mm 100 0 1), ?_, ?_, Or.inr rfl, rfl, fun q => absurd (show (1 : Nat) = 0 from q) (by decide), hR.thr 1⟩
      · unfold fX5_wall
        exact w_bind (chB_y Mc hu) (w_t rfl (w_bind (chB_n Mc hz (by omega)) (w_f N1n rfl)))
      · unfold fX6_wall
        exact w_bind (isBub_y Mm hu) (w_gd R1 (w_bind (t := 1) (w_f N1 (w_bind (isBub_n Mm hz (by omega)) (w_gd R0 (w_t rfl rfl)))) (w_bind (refk Mm (Or.inl rfl)) (w_gd R1 (w_bind (w_f N1 rfl) rfl)))))
  · refine ⟨(1, 0, Mc), (0, wr Mm 100 0 1), ?_, ?_, Or.inr rfl, rfl, fun q => absurd (show (1 : Nat) = 0 from q) (by decide), hR.thr 1⟩
    · unfold fX5_wall
      exact w_bind (chB_n Mc hy (by omega)) (w_f N1n rfl)
    · unfold fX6_wall
      exact w_bind (isBub_n Mm hy (by omega)) (w_gd R0 (w_bind (t := 1) (w_t rfl rfl) (w_bind (refk Mm (Or.inl rfl)) (w_gd R1 (w_bind (w_f N1 rfl) rfl)))))
