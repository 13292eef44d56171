theorem R3 : inR 3 := ⟨by decide, by decide⟩
theorem F_town : Fc_town Rl := by
  intro Mc Mm y0 hR hy
  by_cases c : 0 ≤ y0 ∧ y0 < 36
  · obtain ⟨v, rfl⟩ : ∃ e : Nat, y0 = e := ⟨y0.toNat, by omega⟩
    have hv : v < 36 := by omega
    obtain ⟨w1, w2, w3, w4⟩ := hR.2.2.2.2.1
    have hC := hasT (M := Mc) (x := (v : Int)) w2 hy (fun i hi => ⟨by have := w3 i hi; omega, by have := w3 i hi; omega⟩)
    obtain ⟨r, m1, m2, m3⟩ := isT (M := Mm) (x := (v : Int)) (by rw [w1]; exact w2) hy (fun i hi => by
      rw [w1] at hi
      have := w3 i hi
      rw [this.1]
      exact ⟨by omega, by omega⟩)
    have same : (∃ j : Nat, (j : Int) < Mm 101 0 ∧ Mm 2 j = v) ↔ ∃ j : Nat, (j : Int) < Mc 102 0 ∧ Mc 7 j = v := by
      rw [w1]
      exact ⟨fun ⟨j, j1, j2⟩ => ⟨j, j1, by rw [← (w3 j j1).1]; exact j2⟩, fun ⟨j, j1, j2⟩ => ⟨j, j1, by rw [(w3 j j1).1]; exact j2⟩⟩
    rw [same] at m3
    have bad : ∀ (_ : fX5_town Mc (v : Int) = some (3, 0, Mc)) (_ : fX6_town Mm (v : Int) = some (0, wr Mm 100 0 2)), ∃ (T : Nat × Int × Mem) (T9 : Int × Mem), fX5_town Mc (v : Int) = some T ∧ fX6_town Mm (v : Int) = some T9 ∧ (T.1 = 0 ∨ T.1 = 1 ∨ T.1 = 3) ∧ T9.2 100 0 = (if T.1 = 0 then 0 else if T.1 = 1 then 1 else 2) ∧ (T.1 = 0 → T.2.1 = T9.1) ∧ Rl T.2.2 T9.2 := fun p q =>
      ⟨_, _, p, q, Or.inr (Or.inr rfl), rfl, fun z => absurd (show (3 : Nat) = 0 from z) (by decide), hR.thr 2⟩
    rcases hC with ⟨t1, t2⟩ | ⟨t1, t2⟩
    · have hr : r = 1 := m3.mpr t1
      subst hr
      refine bad ?_ ?_
      · unfold fX5_town
        exact w_bind (chN_y Mc hv) (w_t rfl (w_bind t2 (w_gd R1 (w_f N1 rfl))))
      · unfold fX6_town
        exact w_bind (isNode_y Mm hv) (w_gd R1 (w_bind (t := 2) (w_f N1 (w_bind m1 (w_gd R1 (w_f N1 rfl)))) (w_bind (refk Mm (Or.inr rfl)) (w_gd R1 (w_f N1 rfl)))))
    · have hr : r = 0 := m2.resolve_right fun q => t1 (m3.mp q)
      subst hr
      clear m3
      by_cases d : Mc 102 0 < 6
      · have h1 := (hR.thr 0).town d hv t1
        refine ⟨(0, Mc 102 0 + 1 - 1, wr (wr (wr Mc 7 (Mc 102 0).toNat v) 102 0 (Mc 102 0 + 1)) 103 0 0), (Mm 101 0 + 1 - 1, wr (wr (wr Mm 100 0 0) 2 (Mm 101 0).toNat v) 101 0 (Mm 101 0 + 1)), ?_, ?_, Or.inl rfl, rfl, fun _ => by rw [w1], h1⟩
        · unfold fX5_town
          refine w_bind (chN_y Mc hv) (w_t rfl (w_bind t2 (w_gd R0 (w_t rfl (w_bind (t := 0) ?_ (w_gd R0 (w_t rfl (w_bind (t := (Mc 102 0 + 1 - 1, _)) ?_ rfl))))))))
          · unfold fX3_isFull
            exact w_gdR (by omega) (by omega) (w_bind (w_t d rfl) (w_gd (Or.inl rfl) rfl))
          · unfold fX3_add
            exact w_gdB (by omega) (by omega) (w_bind rfl rfl)
        · unfold fX6_town
          refine w_bind (isNode_y Mm hv) (w_gd R1 (w_bind (t := 0) (w_f N1 (w_bind m1 (w_gd R0 (w_t rfl (w_gdR (by omega) (by omega) (w_f (by omega) rfl)))))) (w_bind (ref0 Mm) (w_gd R0 (w_t rfl (w_gd ⟨?_, ?_⟩ rfl))))))
          · show 0 ≤ Mm 101 0
            omega
          · show Mm 101 0 < 6
            omega
      · refine bad ?_ ?_
        · unfold fX5_town
          refine w_bind (chN_y Mc hv) (w_t rfl (w_bind t2 (w_gd R0 (w_t rfl (w_bind (t := 1) ?_ (w_gd R1 (w_f N1 rfl)))))))
          unfold fX3_isFull
          exact w_gdR (by omega) (by omega) (w_bind (w_f d rfl) (w_gd (Or.inr rfl) rfl))
        · unfold fX6_town
          exact w_bind (isNode_y Mm hv) (w_gd R1 (w_bind (t := 2) (w_f N1 (w_bind m1 (w_gd R0 (w_t rfl (w_gdR (by omega) (by omega) (w_t (by omega) rfl)))))) (w_bind (refk Mm (Or.inr rfl)) (w_gd R1 (w_f N1 rfl)))))
  · refine ⟨(1, 0, Mc), (0, wr Mm 100 0 1), ?_, ?_, Or.inr (Or.inl rfl), rfl, fun q => absurd (show (1 : Nat) = 0 from q) (by decide), hR.thr 1⟩
    · unfold fX5_town
      exact w_bind (chN_n Mc hy (by omega)) (w_f N1n rfl)
    · unfold fX6_town
      exact w_bind (isNode_n Mm hy (by omega)) (w_gd R0 (w_bind (t := 1) (w_t rfl rfl) (w_bind (refk Mm (Or.inl rfl)) (w_gd R1 (w_f N1 rfl)))))
