/-! what the calls that change something do to the invariant -/
theorem Z20 : ¬ (2 : Nat) = 0 := by decide
theorem Z21 : ¬ (2 : Nat) = 1 := by decide
theorem Z30 : ¬ (3 : Nat) = 0 := by decide
theorem Z31 : ¬ (3 : Nat) = 1 := by decide
def Refd (x : Int) : Prop := x = -2000000001 ∨ x = -2000000002 ∨ x = -2000000003
def OkT (x : Int) : Prop := 0 ≤ x ∧ x ≤ 100000
theorem Rl.enC {M Mm : Mem} (h : Rl M Mm) : fX1_energyNow M = some (enS (M 4) (M 16)) := enNowC h.1 h.owns
theorem SI.upd {i : Int} {M Mm W C Mm' : Mem} (h : SI i M Mm) (fr : ∀ a, a = 21 ∨ a = 22 ∨ a = 102 ∨ a = 12 ∨ a = 105 ∨ a = 104 → W a = M a) (hC : C = wr W 104 0 (W 104 0 + (enS (W 4) (W 16) - enS (M 4) (M 16)))) (hR : Rl C Mm') : SI i C Mm' := by
  obtain ⟨h1, h2, h3, h4, h5⟩ := h
  have c : ∀ a, a ≠ 104 → C a = W a := fun a ha => by rw [hC]; exact wr_row W _ ha
  have c104 : C 104 0 = W 104 0 + (enS (W 4) (W 16) - enS (M 4) (M 16)) := by rw [hC]; exact wr_at _ _ _ _
  unfold SI
  rw [c104, c 21 (by decide), c 102 (by decide), c 22 (by decide), c 12 (by decide), c 105 (by decide), c 4 (by decide), c 16 (by decide), fr 21 (by decide), fr 102 (by decide), fr 22 (by decide), fr 12 (by decide), fr 105 (by decide), fr 104 (by decide)]
  exact ⟨hR, h2, h3, h4, by omega⟩
/-- from here on 'E' is the end of a call: refused, and nothing changed, or told, and the invariant holds -/
def En (i : Int) (M Mm : Mem) (told : Int) (C : Mem) : Prop := (Refd told ∧ C = M) ∨ (OkT told ∧ ∃ Mm', SI i C Mm')
theorem e_take {W Mm1 : Mem} (h1 : Rl (wr W 103 0 0) Mm1) (x : Int) : fX5_takeInNewPrices W x = some (wr (wr W 103 0 0) 104 0 (wr W 103 0 0 104 0 + (enS (wr W 103 0 0 4) (wr W 103 0 0 16) - x))) := by
  unfold fX5_takeInNewPrices
  exact w_bind (t := wr W 103 0 0) rfl (w_bind h1.enC (w_bind rfl rfl))
theorem e_lay {i : Int} {M Mm : Mem} (h : SI i M Mm) {u y : Int} (hu : 0 ≤ u ∧ u ≤ 60) (hy : 0 ≤ y ∧ y ≤ 51) : ∃ told C, tL_lay M u y = some (told, C) ∧ En i M Mm told C := by
  have hR := h.1
  obtain ⟨u, rfl⟩ : ∃ e : Nat, u = e := ⟨u.toNat, by omega⟩
  by_cases c : u < 60
  · by_cases d : y ≤ 50
    · have h1 := hR.lay c (x := y) ⟨hy.1, d⟩
      have c5 : fX5_lay M (u : Int) y = some (0, M 3 u, wr (wr (wr (wr M 3 u y) 4 u (y + if u < 30 then Mm 0 0 else Mm 0 1)) 103 0 0) 104 0 (wr (wr (wr M 3 u y) 4 u (y + if u < 30 then Mm 0 0 else Mm 0 1)) 103 0 0 104 0 + (enS (wr (wr (wr M 3 u y) 4 u (y + if u < 30 then Mm 0 0 else Mm 0 1)) 103 0 0 4) (wr (wr (wr M 3 u y) 4 u (y + if u < 30 then Mm 0 0 else Mm 0 1)) 103 0 0 16) - enS (M 4) (M 16)))) := by
        unfold fX5_lay
        refine w_bind (chE_y M c) (w_t rfl (w_gdR (by omega) (by omega) (w_f (by omega) (w_t (by omega) (w_bind hR.enC (w_bind (t := (M 3 u, wr (wr M 3 u y) 4 u (y + if u < 30 then Mm 0 0 else Mm 0 1))) ?_ (w_bind (e_take h1 _) rfl)))))))
        unfold fX2_changeLaid
        refine w_gdB (by omega) (by omega) (w_gdB (by omega) (by omega) (w_bind (t := if u < 30 then Mm 0 0 else Mm 0 1) ?_ (w_gdB (by omega) (by omega) (by rw [Int.toNat_natCast]))))
        by_cases q : u < 30
        · rw [if_pos q]; exact w_f (by omega) (congrArg some hR.2.2.1.1)
        · rw [if_neg q]; exact w_t (by omega) (congrArg some hR.2.2.1.2)
      obtain ⟨T, T9, f1, f2, f3, f4, f5, f6⟩ := F_lay M Mm (u : Int) y hR ⟨by omega, by omega⟩ ⟨by omega, by omega⟩
      rw [c5] at f1
      cases f1
      have b3 := (hR.2.2.2.1 u c).1
      have bm := hR.2.1.2.2 u c
      refine ⟨M 3 u, _, ?_, Or.inr ⟨⟨by omega, by omega⟩, T9.2, h.upd (W := wr (wr (wr M 3 u y) 4 u (y + if u < 30 then Mm 0 0 else Mm 0 1)) 103 0 0) (fun a ha => ?_) rfl f6⟩⟩
      · unfold tL_lay
        exact w_bind c5 (w_gd (Or.inl rfl) (w_t rfl rfl))
      · rw [wr_row _ _ (show a ≠ 103 by omega), wr_row _ _ (show a ≠ 4 by omega), wr_row _ _ (show a ≠ 3 by omega)]
    · refine ⟨-2000000002, M, ?_, Or.inl ⟨Or.inr (Or.inl rfl), rfl⟩⟩
      unfold tL_lay
      refine w_bind (t := (2, 0, M)) ?_ (w_gd (Or.inr (Or.inr rfl)) (w_f Z20 (w_f Z21 rfl)))
      unfold fX5_lay
      exact w_bind (chE_y M c) (w_t rfl (w_gdR (by omega) (by omega) (w_f (by omega) (w_f (by omega) rfl))))
  · refine ⟨-2000000001, M, ?_, Or.inl ⟨Or.inl rfl, rfl⟩⟩
    unfold tL_lay
    refine w_bind (t := (1, 0, M)) ?_ (w_gd (Or.inr (Or.inl rfl)) (w_f N1n (w_t rfl rfl)))
    unfold fX5_lay
    exact w_bind (chE_n M ⟨by omega, by omega⟩ (by omega)) (w_f N1n rfl)
theorem e_cost {i : Int} {M Mm : Mem} (h : SI i M Mm) {u y : Int} (hu : 0 ≤ u ∧ u ≤ 2) (hy : 0 ≤ y ∧ y ≤ 10) : ∃ told C, tL_cost M u y = some (told, C) ∧ En i M Mm told C := by
  have hR := h.1
  have bad : (fX5_cost M u y = some (2, 0, M)) → ∃ told C, tL_cost M u y = some (told, C) ∧ En i M Mm told C := fun q => by
    refine ⟨-2000000002, M, ?_, Or.inl ⟨Or.inr (Or.inl rfl), rfl⟩⟩
    unfold tL_cost
    exact w_bind q (w_gd (Or.inr rfl) (w_f Z20 rfl))
  by_cases c : u ≤ 1
  · by_cases d : 1 ≤ y ∧ y ≤ 9
    · obtain ⟨d0, rfl⟩ : ∃ e : Nat, u = e := ⟨u.toNat, by omega⟩
      have hd : d0 = 0 ∨ d0 = 1 := by omega
      have hd2 : (d0 : Int) = 0 ∨ (d0 : Int) = 1 := by omega
      obtain ⟨M', k1, k2, k3⟩ := chg_L (if (d0 : Int) = 0 then M 100 0 else M 101 0) 60 0 FU (wr M (100 + d0) 0 y) (by omega) (by have := FU_big; omega) (fun e he => absurd he (by omega))
      have w3 : wr M (100 + d0) 0 y 3 = M 3 := wr_row M y (by omega)
      have h1 : Rl (wr M' 103 0 0) (wr Mm 0 d0 y) := hR.dir hd d k2 (fun e he => by rw [k3 e he, w3])
      have hold : (if (d0 : Int) = 0 then M 100 0 else M 101 0) = Mm 0 d0 := by
        rcases hd with rfl | rfl
        · exact hR.2.2.1.1
        · exact hR.2.2.1.2
      have c5 : fX5_cost M (d0 : Int) y = some (0, (if (d0 : Int) = 0 then M 100 0 else M 101 0), wr (wr M' 103 0 0) 104 0 (wr M' 103 0 0 104 0 + (enS (wr M' 103 0 0 4) (wr M' 103 0 0 16) - enS (M 4) (M 16)))) := by
        unfold fX5_cost
        refine w_gdR (by omega) (by omega) (w_f (by omega) (w_t (by omega) (w_gdR (by omega) (by omega) (w_f (by omega) (w_t (by omega) (w_bind hR.enC (w_bind (t := ((if (d0 : Int) = 0 then M 100 0 else M 101 0), M')) ?_ (w_bind (e_take h1 _) rfl))))))))
        unfold fX2_changeDirection
        refine w_gdR (by omega) (by omega) (w_bind (t := if (d0 : Int) = 0 then M 100 0 else M 101 0) ?_ (w_bind (t := wr M (100 + d0) 0 y) ?_ (w_bind k1 rfl)))
        · rcases hd with rfl | rfl
          · exact w_t rfl rfl
          · exact w_f N1 rfl
        · rcases hd with rfl | rfl
          · exact w_t rfl rfl
          · exact w_f N1 rfl
      obtain ⟨T, T9, f1, f2, f3, f4, f5, f6⟩ := F_cost M Mm (d0 : Int) y hR ⟨by omega, by omega⟩ ⟨by omega, by omega⟩
      rw [c5] at f1
      cases f1
      have bm : 1 ≤ Mm 0 d0 ∧ Mm 0 d0 ≤ 9 := by
        rcases hd with rfl | rfl
        · exact hR.2.1.1
        · exact hR.2.1.2.1
      refine ⟨(if (d0 : Int) = 0 then M 100 0 else M 101 0), _, ?_, Or.inr ⟨⟨by rw [hold]; omega, by rw [hold]; omega⟩, T9.2, h.upd (W := wr M' 103 0 0) (fun a ha => ?_) rfl f6⟩⟩
      · unfold tL_cost
        exact w_bind c5 (w_gd (Or.inl rfl) (w_t rfl rfl))
      · rw [wr_row _ _ (show a ≠ 103 by omega), k2 a (by omega), wr_row _ _ (show a ≠ 100 + d0 by omega)]
    · refine bad ?_
      unfold fX5_cost
      refine w_gdR (by omega) (by omega) (w_f (by omega) (w_t (by omega) (w_gdR (by omega) (by omega) ?_)))
      by_cases q : y < 1
      · exact w_t q rfl
      · exact w_f q (w_f (by omega) rfl)
  · refine bad ?_
    unfold fX5_cost
    exact w_gdR (by omega) (by omega) (w_f (by omega) (w_f (by omega) rfl))
theorem e_pull {i : Int} {M Mm : Mem} (h : SI i M Mm) {u y : Int} (hu : 0 ≤ u ∧ u ≤ 36) (hy : 0 ≤ y ∧ y ≤ 8) : ∃ told C, tL_pull M u y = some (told, C) ∧ En i M Mm told C := by
  have hR := h.1
  obtain ⟨u, rfl⟩ : ∃ e : Nat, u = e := ⟨u.toNat, by omega⟩
  have bad : (fX5_pull M (u : Int) y = some (1, 0, M)) → ∃ told C, tL_pull M (u : Int) y = some (told, C) ∧ En i M Mm told C := fun q => by
    refine ⟨-2000000001, M, ?_, Or.inl ⟨Or.inl rfl, rfl⟩⟩
    unfold tL_pull
    exact w_bind q (w_gd (Or.inr rfl) (w_f N1n rfl))
  by_cases c : u < 36
  · by_cases d : y < 8
    · obtain ⟨k, rfl⟩ : ∃ e : Nat, y = e := ⟨y.toNat, by omega⟩
      have h1 := hR.own (u := u) (k := (k : Int)) ⟨by omega, by omega⟩
      have c5 : fX5_pull M (u : Int) (k : Int) = some (0, M 16 u, wr (wr M 16 u k) 104 0 (wr M 16 u k 104 0 + (enS (wr M 16 u k 4) (wr M 16 u k 16) - enS (M 4) (M 16)))) := by
        unfold fX5_pull
        refine w_bind (chN_y M c) (w_t rfl (w_bind (chB_y M (by omega)) (w_t rfl (w_bind (t := (M 16 u, _)) ?_ rfl))))
        unfold fX1_change
        refine w_bind hR.enC (w_gdB (by omega) (by omega) (w_gdB (by omega) (by omega) ?_))
        rw [Int.toNat_natCast]
        exact w_bind h1.enC (w_bind rfl rfl)
      obtain ⟨T, T9, f1, f2, f3, f4, f5, f6⟩ := F_pull M Mm (u : Int) (k : Int) hR ⟨by omega, by omega⟩ ⟨by omega, by omega⟩
      rw [c5] at f1
      cases f1
      have b := hR.2.2.2.2.2.2.2.1 u c
      refine ⟨M 16 u, _, ?_, Or.inr ⟨⟨by omega, by omega⟩, T9.2, h.upd (W := wr M 16 u k) (fun a ha => wr_row _ _ (show a ≠ 16 by omega)) rfl f6⟩⟩
      unfold tL_pull
      exact w_bind c5 (w_gd (Or.inl rfl) (w_t rfl rfl))
    · refine bad ?_
      unfold fX5_pull
      exact w_bind (chN_y M c) (w_t rfl (w_bind (chB_n M ⟨by omega, by omega⟩ (by omega)) (w_f N1n rfl)))
  · refine bad ?_
    unfold fX5_pull
    exact w_bind (chN_n M ⟨by omega, by omega⟩ (by omega)) (w_f N1n rfl)
theorem e_hold {i : Int} {M Mm : Mem} (h : SI i M Mm) {u y : Int} (hu : 0 ≤ u ∧ u ≤ 8) (hy : y = 0 ∨ y = 1) : ∃ told C, tL_hold M u y = some (told, C) ∧ En i M Mm told C := by
  have hR := h.1
  obtain ⟨u, rfl⟩ : ∃ e : Nat, u = e := ⟨u.toNat, by omega⟩
  by_cases c : u < 8
  · have hk := hR.2.2.2.2.2.2.2.2.1 u c
    have hk1 : M 18 u = 0 ∨ M 18 u = 1 := by rw [hk.1]; exact hk.2
    have c5 : fX5_hold M (u : Int) y = some (0, M 18 u, wr M 18 u y) := by
      unfold fX5_hold
      refine w_bind (chB_y M c) (w_t rfl (w_bind (t := (M 18 u, wr M 18 u y)) ?_ (w_gd hk1 rfl)))
      unfold fX1_changeHeld
      refine w_gdB (by omega) (by omega) (w_gdB (by omega) (by omega) (w_gd hy ?_))
      rw [Int.toNat_natCast]
      exact w_gd hk1 rfl
    obtain ⟨T, T9, f1, f2, f3, f4, f5, f6⟩ := F_hold M Mm (u : Int) y hR ⟨by omega, by omega⟩ hy
    rw [c5] at f1
    cases f1
    have r : ∀ a, a ≠ 18 → wr M 18 u y a = M a := fun a ha => wr_row _ _ ha
    refine ⟨if M 18 u = 0 then 0 else 1, wr M 18 u y, ?_, Or.inr ⟨by split <;> exact ⟨by decide, by decide⟩, T9.2, ?_⟩⟩
    · unfold tL_hold
      refine w_bind c5 (w_gd (Or.inl rfl) (w_t rfl (w_gdR ?_ ?_ rfl)))
      · show -2147483648 ≤ M 18 u
        omega
      · show M 18 u < 2147483648
        omega
    · obtain ⟨h1, h2, h3, h4, h5⟩ := h
      unfold SI
      rw [r 21 (by decide), r 102 (by decide), r 22 (by decide), r 12 (by decide), r 105 (by decide), r 104 (by decide), r 4 (by decide), r 16 (by decide)]
      exact ⟨f6, h2, h3, h4, h5⟩
  · refine ⟨-2000000001, M, ?_, Or.inl ⟨Or.inl rfl, rfl⟩⟩
    unfold tL_hold
    refine w_bind (t := (1, 0, M)) ?_ (w_gd (Or.inr rfl) (w_f N1n rfl))
    unfold fX5_hold
    exact w_bind (chB_n M ⟨by omega, by omega⟩ (by omega)) (w_f N1n rfl)
/-- behind a call that changes the towns, or the pins, the law sets its own rows right -/
theorem e_pin {i : Int} {M Mm : Mem} (h : SI i M Mm) {u y : Int} (hu : 0 ≤ u ∧ u ≤ 36) (hy : 0 ≤ y ∧ y ≤ 3) : ∃ told C, tL_pin M u y = some (told, C) ∧ ((Refd told ∧ C = M) ∨ (OkT told ∧ u < 36 ∧ C 22 u.toNat = told ∧ ∃ Mm', SI i (wr C 22 u.toNat y) Mm')) := by
  have hR := h.1
  obtain ⟨u, rfl⟩ : ∃ e : Nat, u = e := ⟨u.toNat, by omega⟩
  by_cases c : u < 36
  · by_cases d : y ≤ 2
    · have c5 : fX5_pin M (u : Int) y = some (0, M 12 u, wr M 12 u y) := by
        unfold fX5_pin
        refine w_bind (chN_y M c) (w_t rfl (w_gdR (by omega) (by omega) (w_f (by omega) (w_t (by omega) (w_bind (t := (M 12 u, wr M 12 u y)) ?_ rfl)))))
        unfold fX0_change
        exact w_gdB (by omega) (by omega) (w_gdB (by omega) (by omega) (by rw [Int.toNat_natCast]))
      obtain ⟨T, T9, f1, f2, f3, f4, f5, f6⟩ := F_pin M Mm (u : Int) y hR ⟨by omega, by omega⟩ ⟨by omega, by omega⟩
      rw [c5] at f1
      cases f1
      have b := hR.2.2.2.2.2.2.1 u c
      have p22 : M 22 u = M 12 u := h.2.2.1 u c
      refine ⟨M 12 u, wr M 12 u y, ?_, Or.inr ⟨⟨by omega, by omega⟩, by omega, ?_, T9.2, ?_⟩⟩
      · unfold tL_pin
        exact w_bind c5 (w_gd (Or.inl rfl) (w_t rfl rfl))
      · rw [Int.toNat_natCast, wr_row _ _ (show 22 ≠ 12 by decide)]
        exact p22
      · rw [Int.toNat_natCast]
        obtain ⟨h1, h2, h3, h4, h5⟩ := h
        have r : ∀ a, a ≠ 12 → a ≠ 22 → wr (wr M 12 u y) 22 u y a = M a := fun a ha hb => by rw [wr_row _ _ hb, wr_row _ _ ha]
        refine ⟨f6.keep (fun a ha => wr_row _ _ (by intro q; subst q; revert ha; decide)) (fun _ _ => rfl), ?_, fun v hv => ?_, ?_, ?_⟩
        · rw [r 21 (by decide) (by decide), r 102 (by decide) (by decide)]; exact h2
        · show (if 22 = 22 ∧ v = u then y else (if 22 = 12 ∧ v = u then y else M 22 v)) = (if 12 = 22 ∧ v = u then y else (if 12 = 12 ∧ v = u then y else M 12 v))
          by_cases q : v = u
          · rw [if_pos ⟨rfl, q⟩, if_neg (fun z => absurd z.1 (by decide)), if_pos ⟨rfl, q⟩]
          · rw [if_neg (fun z => q z.2), if_neg (fun z => q z.2), if_neg (fun z => q z.2), if_neg (fun z => q z.2)]
            exact h3 v hv
        · rw [r 105 (by decide) (by decide)]; exact h4
        · rw [r 104 (by decide) (by decide), r 105 (by decide) (by decide), r 4 (by decide) (by decide), r 16 (by decide) (by decide)]; exact h5
    · refine ⟨-2000000002, M, ?_, Or.inl ⟨Or.inr (Or.inl rfl), rfl⟩⟩
      unfold tL_pin
      refine w_bind (t := (2, 0, M)) ?_ (w_gd (Or.inr (Or.inr rfl)) (w_f Z20 (w_f Z21 rfl)))
      unfold fX5_pin
      exact w_bind (chN_y M c) (w_t rfl (w_gdR (by omega) (by omega) (w_f (by omega) (w_f (by omega) rfl))))
  · refine ⟨-2000000001, M, ?_, Or.inl ⟨Or.inl rfl, rfl⟩⟩
    unfold tL_pin
    refine w_bind (t := (1, 0, M)) ?_ (w_gd (Or.inr (Or.inl rfl)) (w_f N1n (w_t rfl rfl)))
    unfold fX5_pin
    exact w_bind (chN_n M ⟨by omega, by omega⟩ (by omega)) (w_f N1n rfl)
theorem SI.towns {i : Int} {M Mm C Mm' : Mem} (h : SI i M Mm) (f6 : Rl C Mm') (fr : ∀ a, a ≠ 7 → a ≠ 102 → a ≠ 103 → C a = M a) {x : Int} (hx : x = C 102 0) : SI i (wr C 21 0 x) Mm' := by
  obtain ⟨h1, h2, h3, h4, h5⟩ := h
  have r : ∀ a, a ≠ 7 → a ≠ 102 → a ≠ 103 → a ≠ 21 → wr C 21 0 x a = M a := fun a h7 h102 h103 h21 => by rw [wr_row _ _ h21, fr a h7 h102 h103]
  refine ⟨f6.keep (fun a ha => wr_row _ _ (by intro q; subst q; revert ha; decide)) (fun _ _ => rfl), ?_, ?_, ?_, ?_⟩
  · rw [wr_at, wr_row _ _ (show 102 ≠ 21 by decide)]; exact hx
  · rw [r 22 (by decide) (by decide) (by decide) (by decide), r 12 (by decide) (by decide) (by decide) (by decide)]; exact h3
  · rw [r 105 (by decide) (by decide) (by decide) (by decide)]; exact h4
  · rw [r 104 (by decide) (by decide) (by decide) (by decide), r 105 (by decide) (by decide) (by decide) (by decide), r 4 (by decide) (by decide) (by decide) (by decide), r 16 (by decide) (by decide) (by decide) (by decide)]; exact h5
theorem SI.self21 {i : Int} {M Mm : Mem} (h : SI i M Mm) {x : Int} (hx : x = M 21 0) : wr M 21 0 x = M := by
  rw [hx]; exact wr_self M 21 0
theorem e_town {i : Int} {M Mm : Mem} (h : SI i M Mm) {u : Int} (hu : 0 ≤ u ∧ u ≤ 36) : ∃ told C, tL_town M u = some (told, C) ∧ ((Refd told ∧ C = M) ∨ (OkT told ∧ ∃ Mm', SI i (wr C 21 0 (C 21 0 + 1)) Mm')) := by
  have hR := h.1
  obtain ⟨v, rfl⟩ : ∃ e : Nat, u = e := ⟨u.toNat, by omega⟩
  by_cases c : v < 36
  · obtain ⟨w1, w2, w3, w4⟩ := hR.2.2.2.2.1
    have hC := hasT (M := M) (x := (v : Int)) w2 ⟨by omega, by omega⟩ (fun i hi => ⟨by have := w3 i hi; omega, by have := w3 i hi; omega⟩)
    have bad : (fX5_town M (v : Int) = some (3, 0, M)) → ∃ told C, tL_town M (v : Int) = some (told, C) ∧ ((Refd told ∧ C = M) ∨ (OkT told ∧ ∃ Mm', SI i (wr C 21 0 (C 21 0 + 1)) Mm')) := fun q => by
      refine ⟨-2000000003, M, ?_, Or.inl ⟨Or.inr (Or.inr rfl), rfl⟩⟩
      unfold tL_town
      exact w_bind q (w_gd (Or.inr (Or.inr rfl)) (w_f Z30 (w_f Z31 rfl)))
    rcases hC with ⟨t1, t2⟩ | ⟨t1, t2⟩
    · refine bad ?_
      unfold fX5_town
      exact w_bind (chN_y M c) (w_t rfl (w_bind t2 (w_gd R1 (w_f N1 rfl))))
    · by_cases d : M 102 0 < 6
      · have c5 : fX5_town M (v : Int) = some (0, M 102 0 + 1 - 1, wr (wr (wr M 7 (M 102 0).toNat v) 102 0 (M 102 0 + 1)) 103 0 0) := by
          unfold fX5_town
          refine w_bind (chN_y M c) (w_t rfl (w_bind t2 (w_gd R0 (w_t rfl (w_bind (t := 0) ?_ (w_gd R0 (w_t rfl (w_bind (t := (M 102 0 + 1 - 1, _)) ?_ rfl))))))))
          · unfold fX3_isFull
            exact w_gdR (by omega) (by omega) (w_bind (w_t d rfl) (w_gd (Or.inl rfl) rfl))
          · unfold fX3_add
            exact w_gdB (by omega) (by omega) (w_bind rfl rfl)
        obtain ⟨T, T9, f1, f2, f3, f4, f5, f6⟩ := F_town M Mm (v : Int) hR ⟨by omega, by omega⟩
        rw [c5] at f1
        cases f1
        refine ⟨M 102 0 + 1 - 1, _, ?_, Or.inr ⟨⟨by omega, by omega⟩, T9.2, h.towns f6 (fun a h7 h102 h103 => (wr_row _ _ h103).trans ((wr_row _ _ h102).trans (wr_row _ _ h7))) ?_⟩⟩
        · unfold tL_town
          exact w_bind c5 (w_gd (Or.inl rfl) (w_t rfl rfl))
        · have := h.2.1
          show M 21 0 + 1 = M 102 0 + 1
          omega
      · refine bad ?_
        unfold fX5_town
        refine w_bind (chN_y M c) (w_t rfl (w_bind t2 (w_gd R0 (w_t rfl (w_bind (t := 1) ?_ (w_gd R1 (w_f N1 rfl)))))))
        unfold fX3_isFull
        exact w_gdR (by omega) (by omega) (w_bind (w_f d rfl) (w_gd (Or.inr rfl) rfl))
  · refine ⟨-2000000001, M, ?_, Or.inl ⟨Or.inl rfl, rfl⟩⟩
    unfold tL_town
    refine w_bind (t := (1, 0, M)) ?_ (w_gd (Or.inr (Or.inl rfl)) (w_f N1n (w_t rfl rfl)))
    unfold fX5_town
    exact w_bind (chN_n M ⟨by omega, by omega⟩ (by omega)) (w_f N1n rfl)
theorem e_away {i : Int} {M Mm : Mem} (h : SI i M Mm) {u : Int} (hu : 0 ≤ u ∧ u ≤ 6) : ∃ told C, tL_away M u = some (told, C) ∧ ((Refd told ∧ C = M) ∨ (OkT told ∧ ∃ Mm', SI i (wr C 21 0 (C 21 0 - 1)) Mm')) := by
  have hR := h.1
  obtain ⟨w1, w2, w3, w4⟩ := hR.2.2.2.2.1
  obtain ⟨t, rfl⟩ : ∃ e : Nat, u = e := ⟨u.toNat, by omega⟩
  by_cases c : (t : Int) < M 102 0
  · obtain ⟨k, hk⟩ : ∃ e : Nat, M 102 0 = e := ⟨(M 102 0).toNat, by omega⟩
    obtain ⟨C1, p1, p2, p3⟩ := rem_L (M0 := M) (t := t) hk (by omega) (M 7 t) (k - (t + 1)) (t + 1) FU M (by omega) (by have := FU_big; omega) (Nat.le_refl _) (fun _ _ => rfl) (fun i => by rw [if_neg (by omega)])
    have c5 : fX5_away M (t : Int) = some (0, M 7 t, wr (wr C1 102 0 (C1 102 0 - 1)) 103 0 0) := by
      unfold fX5_away
      refine w_bind (chT_y w2 c) (w_t rfl (w_bind (t := (M 7 t, wr (wr C1 102 0 (C1 102 0 - 1)) 103 0 0)) ?_ rfl))
      unfold fX3_remove
      refine w_gdB (by omega) (by omega) ?_
      rw [Int.toNat_natCast, show (t : Int) + 1 = ((t + 1 : Nat) : Int) by omega]
      exact w_bind p1 (w_bind rfl rfl)
    obtain ⟨T, T9, f1, f2, f3, f4, f5, f6⟩ := F_away M Mm (t : Int) hR ⟨by omega, by omega⟩
    rw [c5] at f1
    cases f1
    have b := w3 t c
    refine ⟨M 7 t, _, ?_, Or.inr ⟨⟨by omega, by omega⟩, T9.2, h.towns f6 (fun a h7 h102 h103 => (wr_row _ _ h103).trans ((wr_row _ _ h102).trans (p2 a h7))) ?_⟩⟩
    · unfold tL_away
      exact w_bind c5 (w_gd (Or.inl rfl) (w_t rfl rfl))
    · have a1 := h.2.1
      have a2 : C1 21 = M 21 := p2 21 (by decide)
      have a3 : C1 102 = M 102 := p2 102 (by decide)
      show C1 21 0 - 1 = C1 102 0 - 1
      rw [a2, a3]
      omega
  · refine ⟨-2000000001, M, ?_, Or.inl ⟨Or.inl rfl, rfl⟩⟩
    unfold tL_away
    refine w_bind (t := (1, 0, M)) ?_ (w_gd (Or.inr rfl) (w_f N1n rfl))
    unfold fX5_away
    exact w_bind (chT_n w2 ⟨by omega, by omega⟩ (by omega)) (w_f N1n rfl)
