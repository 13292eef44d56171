/-! the law's helpers at the questions that can't be refused -/
theorem g_edge {M Mm : Mem} (h : Rl M Mm) {e : Nat} (he : e < 60) : fL_edge M (e : Int) = some (coM Mm e) := by
  unfold fL_edge
  exact w_bind (t := (0, M 4 e, M)) (by unfold fX5_edge; exact w_bind (chE_y M he) (w_t rfl (w_bind (gr_price he) rfl))) (w_t rfl (congrArg some (h.2.2.2.1 e he).2))
theorem g_bubbleAt {M Mm : Mem} (h : Rl M Mm) {v : Nat} (hv : v < 36) : fL_bubbleAt M (v : Int) = some (Mm 4 v) := by
  unfold fL_bubbleAt
  refine w_bind (t := (0, M 16 v, M)) ?_ (w_t rfl (congrArg some (h.2.2.2.2.2.2.2.1 v hv).1))
  unfold fX5_bubbleAt
  exact w_bind (chN_y M hv) (w_t rfl (w_bind (t := M 16 v) (by unfold fX1_ownerOf; exact w_gdB (by omega) (by omega) (by rw [Int.toNat_natCast])) rfl))
theorem g_townAt {M Mm : Mem} (h : Rl M Mm) {i k : Nat} (hk : Mm 101 0 = (k : Int)) (hi : i < k) : fL_townAt M (i : Int) = some (Mm 2 i) := by
  obtain ⟨w1, w2, w3, w4⟩ := h.2.2.2.2.1
  unfold fL_townAt
  refine w_bind (t := (0, M 7 i, M)) ?_ (w_t rfl (congrArg some (w3 i (by omega)).1.symm))
  unfold fX5_townAt
  exact w_bind (chT_y w2 (by omega)) (w_t rfl (w_bind (t := M 7 i) (by unfold fX3_nodeOf; exact w_gdB (by omega) (by omega) (by rw [Int.toNat_natCast])) rfl))
theorem t_townAt_n {M Mm : Mem} (h : Rl M Mm) {x : Int} (hx : x = M 102 0) : tL_townAt M x = some (-2000000001) := by
  obtain ⟨w1, w2, w3, w4⟩ := h.2.2.2.2.1
  unfold tL_townAt
  refine w_bind (t := (1, 0, M)) ?_ (w_gd (Or.inr rfl) (w_f N1n rfl))
  unfold fX5_townAt
  exact w_bind (chT_n w2 ⟨by omega, by omega⟩ (by omega)) (w_f N1n rfl)
theorem g_apart {M Mm : Mem} (h : Rl M Mm) {u v : Nat} (hu : u < 36) (hv : v < 36) : ∃ C : Mem, fL_apart M (u : Int) (v : Int) = some (dsF (coM Mm) u v, C) ∧ Rl C Mm ∧ Qf M C := by
  obtain ⟨C, a1, a2⟩ := q_apart h hu hv
  exact ⟨C, by unfold fL_apart; exact w_bind a1 (w_t rfl rfl), a2⟩
theorem g_isUsed {M Mm : Mem} (h : Rl M Mm) {k : Nat} (hk : Mm 101 0 = (k : Int)) {r : Int} (hr : Lst Mm r) {e : Nat} (he : e < 60) : ∃ (x : Int) (C : Mem), fL_isUsed M (e : Int) = some (x, C) ∧ Rl C Mm ∧ Qf M C ∧ (x = 0 ∨ x = 1) ∧ (k < 2 → x = 0) ∧ (2 ≤ k → (x = 1 ↔ Used (coM Mm) k (tn Mm) r e)) := by
  obtain ⟨x, C, a1, a2, a3, a4, a5⟩ := q_isUsed h hk hr he
  refine ⟨x, C, ?_, a2, a3, a4, a5⟩
  unfold fL_isUsed
  refine w_bind a1 (w_t rfl (w_gdR (show (-2147483648 : Int) ≤ x by omega) (show x < 2147483648 by omega) ?_))
  rcases a4 with q | q <;> rw [q] <;> rfl
theorem g_wall {M Mm : Mem} (h : Rl M Mm) {u k : Nat} (hu : u < 8) (hk : k < 8) : fL_wall M (u : Int) (k : Int) = some (if (u : Int) = (k : Int) then 0 else wbS (coM Mm) (Mm 4) (u : Int) (k : Int)) := by
  unfold fL_wall
  refine w_bind (t := (0, (if (u : Int) = (k : Int) then 0 else wbS (coM Mm) (Mm 4) (u : Int) (k : Int)), M)) ?_ (w_t rfl rfl)
  unfold fX5_wall
  refine w_bind (chB_y M hu) (w_t rfl (w_bind (chB_y M hk) (w_t rfl (w_gdR (by omega) (by omega) (w_gdR (by omega) (by omega) (w_bind (t := if (u : Int) = (k : Int) then 0 else wbS (coM Mm) (Mm 4) (u : Int) (k : Int)) ?_ rfl))))))
  by_cases q : (u : Int) = (k : Int)
  · rw [if_pos q, if_pos q]
  · rw [if_neg q, if_neg q, ← h.wb]
    exact w_bind (wbC h.1 h.owns ⟨by omega, by omega⟩ ⟨by omega, by omega⟩) rfl
def crS (b : Nat → Int) (q : Int) : Int := ss (fun r => ss (fun c => if kin b (r * 6 + c) = q then 1 else 0) 0 5) 0 5
theorem g_corners {M Mm : Mem} (h : Rl M Mm) {q : Int} (hq : 1 ≤ q ∧ q ≤ 4) : fL_corners M q = some (crS (M 16) q) := by
  have hC := coC_L2 h.owns (q := q) ⟨by omega, by omega⟩ 5 0 FU 0 (by omega) (by have := FU_big; omega)
  rw [Int.zero_add] at hC
  unfold fL_corners
  refine w_bind (t := (0, crS (M 16) q, M)) ?_ (w_t rfl rfl)
  unfold fX5_corners
  refine w_gdR (by omega) (by omega) (w_f (by omega) (w_t (by omega) (w_bind ?_ rfl)))
  unfold fX1_cornersOf
  exact w_bind hC rfl
theorem q_rests {M Mm : Mem} (h : Rl M Mm) : ∃ (r : Int) (C : Mem) (T9 : Int × Mem), fX5_rests M = some (r, C) ∧ fX6_resting Mm 0 = some T9 ∧ T9.1 = r ∧ Rl C Mm ∧ Qf M C ∧ inR r := by
  obtain ⟨r, en, C, M', h1, h2, h3, h4, h5, h6, h7, h8⟩ := restJ h
  have c5 : fX5_rests M = some (r, C) := by unfold fX5_rests; exact w_bind h1 rfl
  have q := wq_X5_rests c5
  exact ⟨r, C, (r, M'), c5, h3, rfl, h.same q h8, q, h5⟩
theorem g_en0 {M Mm : Mem} (h : Rl M Mm) : fL_energy M 0 = some (enS (coM Mm) (Mm 4), M) := by
  unfold fL_energy
  refine w_bind (t := (0, enS (coM Mm) (Mm 4), M)) ?_ (w_t rfl rfl)
  unfold fX5_energy
  exact w_gd R0 (w_t rfl (w_bind h.enNow rfl))
theorem g_en1 {M Mm : Mem} (h : Rl M Mm) : ∃ (en : Int) (C : Mem) (T9 : Int × Mem), fL_energy M 1 = some (en, C) ∧ fX6_resting Mm 1 = some T9 ∧ T9.1 = en ∧ Rl C Mm ∧ Qf M C ∧ inR en := by
  obtain ⟨r, en, C, M', h1, h2, h3, h4, h5, h6, h7, h8⟩ := restJ h
  have c5 : fX5_energy M 1 = some (0, en, C) := by
    unfold fX5_energy
    refine w_gd R1 (w_f (by decide) (w_t rfl (w_bind (t := (en, C)) ?_ rfl)))
    unfold fX1_energyAtRest
    exact w_bind h1 (w_bind h2 rfl)
  have q := wq_X5_energy c5
  exact ⟨en, C, (en, M'), by unfold fL_energy; exact w_bind c5 (w_t rfl rfl), h4, rfl, h.same q h8, q, h6⟩
theorem g_en2 {M : Mem} : fL_energy M 2 = some (M 104 0, M) := by
  unfold fL_energy
  refine w_bind (t := (0, M 104 0, M)) ?_ (w_t rfl rfl)
  unfold fX5_energy
  exact w_gd R2 (w_f (by decide) (w_f (by decide) (w_t rfl (w_bind rfl rfl))))
theorem g_en3 {M : Mem} : fL_energy M 3 = some (M 105 0, M) := by
  unfold fL_energy
  refine w_bind (t := (0, M 105 0, M)) ?_ (w_t rfl rfl)
  unfold fX5_energy
  exact w_gd R3 (w_f (by decide) (w_f (by decide) (w_f (by decide) (w_t rfl (w_bind rfl rfl)))))
theorem g_en4 {M Mm : Mem} (h : Rl M Mm) : fL_energy M 4 = some (enS (coM Mm) (Mm 4) + M 105 0 - M 104 0, M) := by
  unfold fL_energy
  refine w_bind (t := (0, enS (coM Mm) (Mm 4) + M 105 0 - M 104 0, M)) ?_ (w_t rfl rfl)
  unfold fX5_energy
  exact w_gd R4 (w_f (by decide) (w_f (by decide) (w_f (by decide) (w_f (by decide) (w_t rfl (w_bind h.enNow (w_bind rfl (w_bind rfl rfl))))))))
/-! a bubble -/
def szS (b : Nat → Int) (x : Int) : Int := ss (fun v => if b v = x then 1 else 0) 0 36
theorem g_size {M Mm : Mem} (h : Rl M Mm) {u : Nat} (hu : u < 8) : fL_bubble M (u : Int) 0 = some (szS (Mm 4) (u : Int), M) := by
  have h1 := szC_L h.owns (x := (u : Int)) ⟨by omega, by omega⟩ 36 0 FU 0 (by omega) (by have := FU_big; omega)
  rw [Int.zero_add] at h1
  have e : ss (fun v => if M 16 v = (u : Int) then (1 : Int) else 0) 0 36 = szS (Mm 4) (u : Int) := ss_congr 36 0 (fun v _ hv => by rw [(h.2.2.2.2.2.2.2.1 v (by omega)).1])
  unfold fL_bubble
  refine w_bind (t := (0, szS (Mm 4) (u : Int), M)) ?_ (w_t rfl rfl)
  unfold fX5_bubble
  refine w_bind (chB_y M hu) (w_t rfl (w_gd R0 (w_t rfl (w_bind ?_ rfl))))
  unfold fX1_size
  rw [← e]
  exact w_bind h1 rfl
theorem g_pieces {M Mm : Mem} (h : Rl M Mm) {u : Nat} (hu : u < 8) : ∃ (t : Nat → Int) (C : Mem), fL_bubble M (u : Int) 1 = some (ss (piN (Mm 4) t (u : Int)) 0 36, C) ∧ GC (piP (Mm 4) (u : Int)) idv t ∧ (∀ v, v < 36 → 0 ≤ t v) ∧ Rl C Mm ∧ Qf M C := by
  obtain ⟨r, C, M', p1, p2, p3, p4⟩ := pieJ h hu
  obtain ⟨t, hG, h0⟩ := GC_ex (p := piP (Mm 4) (u : Int)) (f := idv) (fun e _ => piP_nn _ _ e) (fun v _ => by unfold idv; omega)
  obtain ⟨M2, m1, m2⟩ := piM h.bubs (x := (u : Int)) ⟨by omega, by omega⟩ hG h0
  have er : r = ss (piN (Mm 4) t (u : Int)) 0 36 := by rw [p2] at m1; cases m1; rfl
  have c5 : fX5_bubble M (u : Int) 1 = some (0, r, C) := by
    unfold fX5_bubble
    exact w_bind (chB_y M hu) (w_t rfl (w_gd R1 (w_f (by decide) (w_t rfl (w_bind p1 rfl)))))
  have q := wq_X5_bubble c5
  refine ⟨t, C, ?_, hG, h0, h.same q p4, q⟩
  rw [← er]
  unfold fL_bubble
  exact w_bind c5 (w_t rfl rfl)
theorem g_around {M Mm : Mem} (h : Rl M Mm) {u : Nat} (hu : u < 8) : fL_bubble M (u : Int) 2 = some (ss (fun k => if (u : Int) = (k : Int) then 0 else wbS (coM Mm) (Mm 4) (u : Int) (k : Int)) 0 8, M) := by
  have h1 := arC_L h.1 h.owns (x := (u : Int)) ⟨by omega, by omega⟩ 8 0 FU 0 (by omega) (by have := FU_big; omega)
  rw [Int.zero_add] at h1
  have e : ss (fun k => if (u : Int) = (k : Int) then 0 else wbS (M 4) (M 16) (u : Int) (k : Int)) 0 8 = ss (fun k => if (u : Int) = (k : Int) then 0 else wbS (coM Mm) (Mm 4) (u : Int) (k : Int)) 0 8 := ss_congr 8 0 (fun k _ _ => by rw [h.wb])
  unfold fL_bubble
  refine w_bind (t := (0, ss (fun k => if (u : Int) = (k : Int) then 0 else wbS (coM Mm) (Mm 4) (u : Int) (k : Int)) 0 8, M)) ?_ (w_t rfl rfl)
  unfold fX5_bubble
  refine w_bind (chB_y M hu) (w_t rfl (w_gd R2 (w_f (by decide) (w_f (by decide) (w_t rfl (w_bind ?_ rfl))))))
  unfold fX1_wallsAround
  rw [← e]
  exact w_bind h1 rfl
theorem g_near {M Mm : Mem} (h : Rl M Mm) {u : Nat} (hu : u < 8) : fL_bubble M (u : Int) 3 = some (ss (fun k => if (if (u : Int) = (k : Int) then 0 else wbS (coM Mm) (Mm 4) (u : Int) (k : Int)) ≤ 0 then 0 else 1) 0 8, M) := by
  obtain ⟨r, n1, n2⟩ := nbJ h hu
  rw [← n2]
  unfold fL_bubble
  refine w_bind (t := (0, r, M)) ?_ (w_t rfl rfl)
  unfold fX5_bubble
  exact w_bind (chB_y M hu) (w_t rfl (w_gd R3 (w_f (by decide) (w_f (by decide) (w_f (by decide) (w_t rfl (w_bind n1 rfl)))))))
theorem g_held {M Mm : Mem} (h : Rl M Mm) {u : Nat} (hu : u < 8) : fL_bubble M (u : Int) 4 = some (Mm 5 u, M) := by
  have hh := h.2.2.2.2.2.2.2.2.1 u hu
  have hk1 : M 18 u = 0 ∨ M 18 u = 1 := by rw [hh.1]; exact hh.2
  have e1 : (if M 18 u = 0 then some (0 : Int) else some 1) = some (M 18 u) := by
    rcases hk1 with q | q
    · rw [q]; rfl
    · rw [q]; rfl
  rw [← hh.1]
  unfold fL_bubble
  refine w_bind (t := (0, M 18 u, M)) ?_ (w_t rfl rfl)
  unfold fX5_bubble
  refine w_bind (chB_y M hu) (w_t rfl (w_gd R4 (w_f (by decide) (w_f (by decide) (w_f (by decide) (w_f (by decide) (w_t rfl (w_bind (t := M 18 u) ?_ (w_gdR (by omega) (by omega) (w_bind e1 rfl))))))))))
  unfold fX1_isHeld
  refine w_gdB (by omega) (by omega) ?_
  rw [Int.toNat_natCast]
  exact w_gd hk1 rfl
/-! films -/
theorem q_side {M Mm : Mem} (h : Rl M Mm) {y : Int} (hy : y = 0 ∨ y = 1) : ∃ (T9 : Int64 × Mem) (C : Mem), fX5_side M y = some (T9.1, C) ∧ fX6_side Mm y = some T9 ∧ Rl C Mm ∧ Qf M C := by
  obtain ⟨T, T9, a1, a2, a3, a4⟩ := F_side M Mm y h hy
  have q := wq_X5_side a1
  exact ⟨T9, T.2, by rw [← a3]; exact a1, a2, h.same q a4, q⟩
theorem g_costOf {M Mm : Mem} (h : Rl M Mm) {x : Int64} (hx : zlcmp (llushr x 36) 0 = 0) : (filmP (Mm 3) (b01 x) ∧ fL_costOf M x = some (enS (coM Mm) (b01 x))) ∨ (¬ filmP (Mm 3) (b01 x) ∧ fL_costOf M x = some (-1)) := by
  have hp := h.2.2.2.2.2.2.1
  have hpC : ∀ v, v < 36 → inR (M 12 v) := fun v hv => ⟨by have := hp v hv; omega, by have := hp v hv; omega⟩
  have same : enS (M 4) (b01 x) = enS (coM Mm) (b01 x) := by
    unfold enS
    exact ss_congr 60 0 (fun e _ he => by rw [(h.2.2.2.1 e (by omega)).2])
  have fp : filmP (M 12) (b01 x) ↔ filmP (Mm 3) (b01 x) := ⟨fun q v hv => by rw [← (hp v hv).1]; exact q v hv, fun q v hv => by rw [(hp v hv).1]; exact q v hv⟩
  rcases ifC x hpC with ⟨f1, f2⟩ | ⟨f1, f2⟩
  · refine Or.inl ⟨fp.mp f1, ?_⟩
    unfold fL_costOf
    refine w_bind (t := (0, enS (M 4) (b01 x), M)) ?_ (w_t rfl (congrArg some same))
    unfold fX5_costOf
    exact w_t hx (w_bind f2 (w_gd R1 (w_bind (w_f N1 (w_bind (prC h.1 x) rfl)) rfl)))
  · refine Or.inr ⟨fun q => f1 (fp.mpr q), ?_⟩
    unfold fL_costOf
    refine w_bind (t := (0, -1, M)) ?_ (w_t rfl rfl)
    unfold fX5_costOf
    exact w_t hx (w_bind f2 (w_gd R0 (w_bind (w_t rfl rfl) rfl)))
theorem t_costOf_n {M : Mem} {x : Int64} (hx : ¬ zlcmp (llushr x 36) 0 = 0) : tL_costOf M x = some (-2000000002) := by
  unfold tL_costOf
  refine w_bind (t := (2, 0, M)) ?_ (w_gd (Or.inr rfl) (w_f (show ¬ (2 : Nat) = 0 by decide) rfl))
  unfold fX5_costOf
  exact w_f hx rfl
theorem isRef {M : Mem} {x : Int} (hx : inR x) : fL_isRefused M x = some (if x = -2000000001 ∨ x = -2000000002 ∨ x = -2000000003 then 1 else 0) := by
  unfold fL_isRefused
  refine w_gd hx (w_bind (t := if x = -2000000001 ∨ x = -2000000002 ∨ x = -2000000003 then 1 else 0) ?_ (w_gd ?_ rfl))
  · by_cases a : x = -2000000001
    · rw [if_pos (Or.inl a)]; exact w_t a rfl
    · refine w_f a ?_
      by_cases b : x = -2000000002
      · rw [if_pos (Or.inr (Or.inl b))]; exact w_t b rfl
      · refine w_f b ?_
        by_cases c : x = -2000000003
        · rw [if_pos (Or.inr (Or.inr c))]; exact w_t c rfl
        · exact w_f c (congrArg some (if_neg (by omega)).symm)
  · by_cases a : x = -2000000001 ∨ x = -2000000002 ∨ x = -2000000003
    · rw [if_pos a]; exact Or.inr rfl
    · rw [if_neg a]; exact Or.inl rfl
