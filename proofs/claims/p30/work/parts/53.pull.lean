/-! pull: a node goes to a bubble, and the work of it -/
theorem en_eq {Mc Mm : Mem} (h : Rl Mc Mm) : enS (Mc 4) (Mc 16) = enS (coM Mm) (Mm 4) := by
  unfold enS
  refine ss_congr 60 0 (fun e _ he => ?_)
  have he : e < 60 := by omega
  rw [(h.2.2.2.1 e he).2, (h.2.2.2.2.2.2.2.1 _ (lo_lt he)).1, (h.2.2.2.2.2.2.2.1 _ (hi_lt he)).1]
theorem Rl.bubs {Mc Mm : Mem} (h : Rl Mc Mm) : BR Mm := fun v hv => (h.2.2.2.2.2.2.2.1 v hv).2
theorem Rl.owns {Mc Mm : Mem} (h : Rl Mc Mm) : TB Mc 16 := ⟨⟨by decide, by decide⟩, by decide, fun v hv => by rw [(h.2.2.2.2.2.2.2.1 v hv).1]; exact (h.2.2.2.2.2.2.2.1 v hv).2⟩
theorem Rl.enNow {Mc Mm : Mem} (h : Rl Mc Mm) : fX1_energyNow Mc = some (enS (coM Mm) (Mm 4)) := by
  unfold fX1_energyNow
  rw [← en_eq h]
  exact w_bind (enC h.1 h.owns) rfl
theorem Rl.work {Mc Mm : Mem} (h : Rl Mc Mm) (a : Int) : Rl (wr Mc 104 0 (Mc 104 0 + a)) (wr Mm 102 0 (Mm 102 0 + a)) := by
  obtain ⟨a1, a2, a3, a4, a5, a6, a7, a8, a9, b1, b2, b3⟩ := h
  refine ⟨a1, a2, a3, a4, a5, a6, a7, a8, a9, ?_, b2, b3⟩
  show Mc 104 0 + a = Mm 102 0 + a
  rw [b1]
theorem Rl.own {Mc Mm : Mem} (h : Rl Mc Mm) {u : Nat} {k : Int} (hk : 0 ≤ k ∧ k < 8) : Rl (wr Mc 16 u k) (wr Mm 4 u k) := by
  obtain ⟨a1, a2, a3, a4, a5, a6, a7, a8, a9⟩ := h
  refine ⟨a1, a2, a3, a4, a5, a6, a7, fun v hv => ?_, a9⟩
  show (if 16 = 16 ∧ v = u then k else Mc 16 v) = (if 4 = 4 ∧ v = u then k else Mm 4 v) ∧ 0 ≤ (if 4 = 4 ∧ v = u then k else Mm 4 v) ∧ (if 4 = 4 ∧ v = u then k else Mm 4 v) < 8
  by_cases q : v = u
  · rw [if_pos ⟨rfl, q⟩, if_pos ⟨rfl, q⟩]; exact ⟨rfl, hk⟩
  · rw [if_neg (fun z => q z.2), if_neg (fun z => q z.2)]; exact a8 v hv
theorem F_pull : Fc_pull Rl := by
  intro Mc Mm y0 y1 hR hy hz
  by_cases c : 0 ≤ y0 ∧ y0 < 36
  · obtain ⟨u, rfl⟩ : ∃ e : Nat, y0 = e := ⟨y0.toNat, by omega⟩
    have hu : u < 36 := by omega
    by_cases d : 0 ≤ y1 ∧ y1 < 8
    · obtain ⟨k, rfl⟩ : ∃ e : Nat, y1 = e := ⟨y1.toNat, by omega⟩
      have hk : k < 8 := by omega
      have h0 := hR.thr 0
      have h1 := h0.own (u := u) (k := (k : Int)) ⟨by omega, by omega⟩
      refine ⟨(0, Mc 16 u, wr (wr Mc 16 u k) 104 0 (wr Mc 16 u k 104 0 + (enS (coM (wr (wr Mm 100 0 0) 4 u k)) (wr (wr Mm 100 0 0) 4 u k 4) - enS (coM Mm) (Mm 4)))), (Mm 4 u, wr (wr (wr Mm 100 0 0) 4 u k) 102 0 (wr (wr Mm 100 0 0) 4 u k 102 0 + (enS (coM (wr (wr Mm 100 0 0) 4 u k)) (wr (wr Mm 100 0 0) 4 u k 4) - enS (coM Mm) (Mm 4)))), ?_, ?_, Or.inl rfl, rfl, fun _ => (hR.2.2.2.2.2.2.2.1 u hu).1, h1.work _⟩
      · unfold fX5_pull
        refine w_bind (chN_y Mc hu) (w_t rfl (w_bind (chB_y Mc hk) (w_t rfl (w_bind (t := (Mc 16 u, _)) ?_ rfl))))
        unfold fX1_change
        refine w_bind hR.enNow (w_gdB (by omega) (by omega) (w_gdB (by omega) (by omega) ?_))
        rw [Int.toNat_natCast]
        exact w_bind h1.enNow (w_bind rfl rfl)
      · unfold fX6_pull
        refine w_bind (isNode_y Mm hu) (w_gd R1 (w_bind (t := 0) (w_f N1 (w_bind (isBub_y Mm hk) (w_gd R1 (w_f N1 rfl)))) (w_bind (ref0 Mm) (w_gd R0 (w_t rfl (w_gdB (by omega) (by omega) (w_bind (enM h0.bubs) (w_gdB (by omega) (by omega) ?_))))))))
        rw [Int.toNat_natCast]
        exact w_bind (enM h1.bubs) rfl
    · refine ⟨(1, 0, Mc), (0, wr Mm 100 0 1), ?_, ?_, Or.inr rfl, rfl, fun q => absurd (show (1 : Nat) = 0 from q) (by decide), hR.thr 1⟩
      · unfold fX5_pull
        exact w_bind (chN_y Mc hu) (w_t rfl (w_bind (chB_n Mc hz (by omega)) (w_f N1n rfl)))
      · unfold fX6_pull
        exact w_bind (isNode_y Mm hu) (w_gd R1 (w_bind (t := 1) (w_f N1 (w_bind (isBub_n Mm hz (by omega)) (w_gd R0 (w_t rfl rfl)))) (w_bind (refk Mm (Or.inl rfl)) (w_gd R1 (w_f N1 rfl)))))
  · refine ⟨(1, 0, Mc), (0, wr Mm 100 0 1), ?_, ?_, Or.inr rfl, rfl, fun q => absurd (show (1 : Nat) = 0 from q) (by decide), hR.thr 1⟩
    · unfold fX5_pull
      exact w_bind (chN_n Mc hy (by omega)) (w_f N1n rfl)
    · unfold fX6_pull
      exact w_bind (isNode_n Mm hy (by omega)) (w_gd R0 (w_bind (t := 1) (w_t rfl rfl) (w_bind (refk Mm (Or.inl rfl)) (w_gd R1 (w_f N1 rfl)))))
