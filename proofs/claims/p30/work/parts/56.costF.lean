/-! the fact of cost -/
theorem R9 : inR 9 := ⟨by decide, by decide⟩
theorem F_cost_y {Mc Mm : Mem} (hR : Rl Mc Mm) {d : Nat} (hd : d = 0 ∨ d = 1) {x : Int} (hx : 1 ≤ x ∧ x ≤ 9) : ∃ (T : Nat × Int × Mem) (T9 : Int × Mem), fX5_cost Mc (d : Int) x = some T ∧ fX6_cost Mm (d : Int) x = some T9 ∧ T.1 = 0 ∧ T9.2 100 0 = 0 ∧ T.2.1 = T9.1 ∧ Rl T.2.2 T9.2 := by
  have h0 := hR.thr 0
  have hd2 : (d : Int) = 0 ∨ (d : Int) = 1 := by omega
  obtain ⟨M', k1, k2, k3⟩ := chg_L (if (d : Int) = 0 then Mc 100 0 else Mc 101 0) 60 0 FU (wr Mc (100 + d) 0 x) (by omega) (by have := FU_big; omega) (fun e he => absurd he (by omega))
  have w3 : wr Mc (100 + d) 0 x 3 = Mc 3 := wr_row Mc x (by omega)
  have h1 : Rl (wr M' 103 0 0) (wr (wr Mm 100 0 0) 0 d x) := h0.dir hd hx k2 (fun e he => by rw [k3 e he, w3])
  have hold : (if (d : Int) = 0 then Mc 100 0 else Mc 101 0) = Mm 0 d := by
    rcases hd with rfl | rfl
    · exact hR.2.2.1.1
    · exact hR.2.2.1.2
  refine ⟨(0, (if (d : Int) = 0 then Mc 100 0 else Mc 101 0), wr (wr M' 103 0 0) 104 0 (wr M' 103 0 0 104 0 + (enS (coM (wr (wr Mm 100 0 0) 0 d x)) (wr (wr Mm 100 0 0) 0 d x 4) - enS (coM Mm) (Mm 4)))), (Mm 0 d, wr (wr (wr Mm 100 0 0) 0 d x) 102 0 (wr (wr Mm 100 0 0) 0 d x 102 0 + (enS (coM (wr (wr Mm 100 0 0) 0 d x)) (wr (wr Mm 100 0 0) 0 d x 4) - enS (coM Mm) (Mm 4)))), ?_, ?_, rfl, ?_, hold, h1.work _⟩
  · unfold fX5_cost
    refine w_gdR (by omega) (by omega) (w_f (by omega) (w_t (by omega) (w_gdR (by omega) (by omega) (w_f (by omega) (w_t (by omega) (w_bind hR.enNow (w_bind (t := ((if (d : Int) = 0 then Mc 100 0 else Mc 101 0), M')) ?_ (w_bind ?_ rfl))))))))
    · unfold fX2_changeDirection
      refine w_gdR (by omega) (by omega) (w_bind (t := if (d : Int) = 0 then Mc 100 0 else Mc 101 0) ?_ (w_bind (t := wr Mc (100 + d) 0 x) ?_ (w_bind k1 rfl)))
      · rcases hd with rfl | rfl
        · exact w_t rfl rfl
        · exact w_f N1 rfl
      · rcases hd with rfl | rfl
        · exact w_t rfl rfl
        · exact w_f N1 rfl
    · unfold fX5_takeInNewPrices
      exact w_bind (t := wr M' 103 0 0) rfl (w_bind h1.enNow (w_bind rfl rfl))
  · unfold fX6_cost
    refine w_bind (in_yes Mm ⟨by omega, by omega⟩ R0 R1 ⟨by omega, by omega⟩) (w_gd R1 (w_bind (t := 0) (w_f N1 (w_bind (in_yes Mm ⟨by omega, by omega⟩ R1 R9 hx) (w_gd R1 (w_f N1 rfl)))) (w_bind (ref0 Mm) (w_gd R0 (w_t rfl (w_gdB (by omega) (by omega) (w_bind (enM h0.bubs) (w_gdB (by omega) (by omega) ?_))))))))
    rw [Int.toNat_natCast]
    refine w_bind (enM h1.bubs) (congrArg some (Prod.ext ?_ rfl))
    rcases hd with rfl | rfl <;> rfl
  · rcases hd with rfl | rfl <;> rfl
theorem F_cost : Fc_cost Rl := by
  intro Mc Mm y0 y1 hR hy hz
  by_cases c : 0 ≤ y0 ∧ y0 ≤ 1
  · obtain ⟨u, rfl⟩ : ∃ e : Nat, y0 = e := ⟨y0.toNat, by omega⟩
    by_cases d : 1 ≤ y1 ∧ y1 ≤ 9
    · obtain ⟨T, T9, h1, h2, h3, h4, h5, h6⟩ := F_cost_y hR (d := u) (by omega) d
      exact ⟨T, T9, h1, h2, Or.inl h3, by rw [if_pos h3]; exact h4, fun _ => h5, h6⟩
    · refine ⟨(2, 0, Mc), (0, wr Mm 100 0 1), ?_, ?_, Or.inr rfl, rfl, fun q => absurd (show (2 : Nat) = 0 from q) (by decide), hR.thr 1⟩
      · unfold fX5_cost
        refine w_gd hy (w_f (by omega) (w_t (by omega) (w_gd hz ?_)))
        by_cases q : y1 < 1
        · exact w_t q rfl
        · exact w_f q (w_f (by omega) rfl)
      · unfold fX6_cost
        exact w_bind (in_yes Mm hy R0 R1 c) (w_gd R1 (w_bind (t := 1) (w_f N1 (w_bind (in_no Mm hz R1 R9 (by omega)) (w_gd R0 (w_t rfl rfl)))) (w_bind (refk Mm (Or.inl rfl)) (w_gd R1 (w_f N1 rfl)))))
  · refine ⟨(2, 0, Mc), (0, wr Mm 100 0 1), ?_, ?_, Or.inr rfl, rfl, fun q => absurd (show (2 : Nat) = 0 from q) (by decide), hR.thr 1⟩
    · unfold fX5_cost
      refine w_gd hy ?_
      by_cases q : y0 < 0
      · exact w_t q rfl
      · exact w_f q (w_f (by omega) rfl)
    · unfold fX6_cost
      exact w_bind (in_no Mm hy R0 R1 (by omega)) (w_gd R0 (w_bind (t := 1) (w_t rfl rfl) (w_bind (refk Mm (Or.inl rfl)) (w_gd R1 (w_f N1 rfl)))))
