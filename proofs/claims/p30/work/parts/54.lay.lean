/-! lay: what is laid on an edge changes its price -/
theorem Rl.lay {Mc Mm : Mem} (h : Rl Mc Mm) {e : Nat} (he : e < 60) {x : Int} (hx : 0 ≤ x ∧ x ≤ 50) : Rl (wr (wr (wr Mc 3 e x) 4 e (x + if e < 30 then Mm 0 0 else Mm 0 1)) 103 0 0) (wr Mm 1 e x) := by
  obtain ⟨a1, a2, a3, a4, a5, a6, a7⟩ := h
  have hm : MR (wr Mm 1 e x) := by
    refine ⟨a2.1, a2.2.1, fun i hi0 => ?_⟩
    show 0 ≤ (if 1 = 1 ∧ i = e then x else Mm 1 i) ∧ (if 1 = 1 ∧ i = e then x else Mm 1 i) ≤ 50
    by_cases q : i = e
    · rw [if_pos ⟨rfl, q⟩]; exact hx
    · rw [if_neg (fun z => q z.2)]; exact a2.2.2 i hi0
  have hp : ∀ i, i < 60 → (if 4 = 4 ∧ i = e then (x + if e < 30 then Mm 0 0 else Mm 0 1) else Mc 4 i) = coM (wr Mm 1 e x) i := by
    intro i hi0
    unfold coM
    show _ = (if i < 30 then Mm 0 0 else Mm 0 1) + (if 1 = 1 ∧ i = e then x else Mm 1 i)
    by_cases q : i = e
    · rw [if_pos (show (4 : Nat) = 4 ∧ i = e from ⟨rfl, q⟩), if_pos (show (1 : Nat) = 1 ∧ i = e from ⟨rfl, q⟩), q, Int.add_comm]
    · rw [if_neg (show ¬ ((4 : Nat) = 4 ∧ i = e) from fun z => q z.2), if_neg (show ¬ ((1 : Nat) = 1 ∧ i = e) from fun z => q z.2)]
      exact (a4 i hi0).2
  refine ⟨⟨fun i hi0 => ?_, a1.2⟩, hm, a3, fun i hi0 => ⟨?_, hp i hi0⟩, a5, Or.inl rfl, a7⟩
  · have b := coM_bd hm hi0
    rw [← hp i hi0] at b
    exact ⟨(a1.1 i hi0).1, (a1.1 i hi0).2.1, b⟩
  · show (if 3 = 3 ∧ i = e then x else Mc 3 i) = (if 1 = 1 ∧ i = e then x else Mm 1 i)
    by_cases q : i = e
    · rw [if_pos ⟨rfl, q⟩, if_pos ⟨rfl, q⟩]
    · rw [if_neg (fun z => q z.2), if_neg (fun z => q z.2)]
      exact (a4 i hi0).1
theorem R50 : inR 50 := ⟨by decide, by decide⟩
theorem F_lay : Fc_lay Rl := by
  intro Mc Mm y0 y1 hR hy hz
  by_cases c : 0 ≤ y0 ∧ y0 < 60
  · obtain ⟨u, rfl⟩ : ∃ e : Nat, y0 = e := ⟨y0.toNat, by omega⟩
    have hu : u < 60 := by omega
    by_cases d : 0 ≤ y1 ∧ y1 ≤ 50
    · have h0 := hR.thr 0
      have h1 := h0.lay hu d
      refine ⟨(0, Mc 3 u, wr (wr (wr (wr Mc 3 u y1) 4 u (y1 + if u < 30 then wr Mm 100 0 0 0 0 else wr Mm 100 0 0 0 1)) 103 0 0) 104 0 (wr (wr (wr Mc 3 u y1) 4 u (y1 + if u < 30 then wr Mm 100 0 0 0 0 else wr Mm 100 0 0 0 1)) 103 0 0 104 0 + (enS (coM (wr (wr Mm 100 0 0) 1 u y1)) (wr (wr Mm 100 0 0) 1 u y1 4) - enS (coM Mm) (Mm 4)))), (Mm 1 u, wr (wr (wr Mm 100 0 0) 1 u y1) 102 0 (wr (wr Mm 100 0 0) 1 u y1 102 0 + (enS (coM (wr (wr Mm 100 0 0) 1 u y1)) (wr (wr Mm 100 0 0) 1 u y1 4) - enS (coM Mm) (Mm 4)))), ?_, ?_, Or.inl rfl, rfl, fun _ => (hR.2.2.2.1 u hu).1, h1.work _⟩
      · unfold fX5_lay
        refine w_bind (chE_y Mc hu) (w_t rfl (w_gd hz (w_f (by omega) (w_t (by omega) (w_bind hR.enNow (w_bind (t := (Mc 3 u, wr (wr Mc 3 u y1) 4 u (y1 + if u < 30 then wr Mm 100 0 0 0 0 else wr Mm 100 0 0 0 1))) ?_ (w_bind ?_ rfl)))))))
        · unfold fX2_changeLaid
          refine w_gdB (by omega) (by omega) (w_gdB (by omega) (by omega) (w_bind (t := if u < 30 then wr Mm 100 0 0 0 0 else wr Mm 100 0 0 0 1) ?_ (w_gdB (by omega) (by omega) (by rw [Int.toNat_natCast]))))
          by_cases q : u < 30
          · rw [if_pos q]; exact w_f (by omega) (congrArg some hR.2.2.1.1)
          · rw [if_neg q]; exact w_t (by omega) (congrArg some hR.2.2.1.2)
        · unfold fX5_takeInNewPrices
          refine w_bind (t := wr (wr (wr Mc 3 u y1) 4 u (y1 + if u < 30 then wr Mm 100 0 0 0 0 else wr Mm 100 0 0 0 1)) 103 0 0) rfl (w_bind h1.enNow (w_bind rfl rfl))
      · unfold fX6_lay
        refine w_bind (isEdge_y Mm hu) (w_gd R1 (w_bind (t := 0) (w_f N1 (w_bind (in_yes Mm hz R0 R50 d) (w_gd R1 (w_f N1 rfl)))) (w_bind (ref0 Mm) (w_gd R0 (w_t rfl (w_gdB (by omega) (by omega) (w_bind (enM h0.bubs) (w_gdB (by omega) (by omega) ?_))))))))
        rw [Int.toNat_natCast]
        exact w_bind (enM h1.bubs) rfl
    · refine ⟨(2, 0, Mc), (0, wr Mm 100 0 2), ?_, ?_, Or.inr (Or.inr rfl), rfl, fun q => absurd (show (2 : Nat) = 0 from q) (by decide), hR.thr 2⟩
      · unfold fX5_lay
        refine w_bind (chE_y Mc hu) (w_t rfl (w_gd hz ?_))
        by_cases q : y1 < 0
        · exact w_t q rfl
        · exact w_f q (w_f (by omega) rfl)
      · unfold fX6_lay
        exact w_bind (isEdge_y Mm hu) (w_gd R1 (w_bind (t := 2) (w_f N1 (w_bind (in_no Mm hz R0 R50 (by omega)) (w_gd R0 (w_t rfl rfl)))) (w_bind (refk Mm (Or.inr rfl)) (w_gd R1 (w_f N1 rfl)))))
  · refine ⟨(1, 0, Mc), (0, wr Mm 100 0 1), ?_, ?_, Or.inr (Or.inl rfl), rfl, fun q => absurd (show (1 : Nat) = 0 from q) (by decide), hR.thr 1⟩
    · unfold fX5_lay
      exact w_bind (chE_n Mc hy (by omega)) (w_f N1n rfl)
    · unfold fX6_lay
      exact w_bind (isEdge_n Mm hy (by omega)) (w_gd R0 (w_bind (t := 1) (w_t rfl rfl) (w_bind (refk Mm (Or.inl rfl)) (w_gd R1 (w_f N1 rfl)))))
