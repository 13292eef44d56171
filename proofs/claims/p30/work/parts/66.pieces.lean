/-! in how many pieces a bubble is: one side searches, the other hands low numbers on -/
theorem pass_more0 {p f t r r2 : Nat → Int} (hp : ∀ e, e < 60 → 0 ≤ p e) (h : GC p f t) (h1 : LE36 t r) (h2 : LE36 r f) (h3 : LE36 t r2) (h4 : LE36 r2 r) (h5 : ∀ e, e < 60 → r2 (hi e) ≤ r (lo e) + p e ∧ r2 (lo e) ≤ r (hi e) + p e) (hn : ∃ v, v < 36 ∧ r v ≠ t v) : nFin r t + 1 ≤ nFin r2 t := by
  by_cases c : ∃ v, v < 36 ∧ r v ≠ t v ∧ r2 v = t v
  · obtain ⟨v, hv, hd, he⟩ := c
    have a := ss_upd (f := fun i => if i = v then (1 : Int) else if r i = t i then 1 else 0) (g := fun i => if r i = t i then (1 : Int) else 0) (k := v) 36 0 (Nat.zero_le _) (by omega) (fun i hi => if_neg hi)
    have b := ss_le (f := fun i => if i = v then (1 : Int) else if r i = t i then 1 else 0) (g := fun i => if r2 i = t i then (1 : Int) else 0) 36 0 (fun i _ hi => by
      show (if i = v then (1 : Int) else if r i = t i then 1 else 0) ≤ (if r2 i = t i then (1 : Int) else 0)
      by_cases q : i = v
      · rw [if_pos q, q, if_pos he]; exact Int.le_refl _
      · rw [if_neg q]
        by_cases q2 : r i = t i
        · have x1 := h3 i (by omega)
          have x2 := h4 i (by omega)
          rw [if_pos q2, if_pos (by omega)]; exact Int.le_refl _
        · rw [if_neg q2]; split <;> decide)
    simp only [if_neg hd, if_pos] at a
    unfold nFin
    omega
  · exfalso
    have st : ∀ v, v < 36 → r v ≠ t v → t v + 1 ≤ r2 v ∧ t v + 1 ≤ r v := fun v hv hd => by
      have x1 := h3 v hv
      have x2 := h1 v hv
      have x3 : r2 v ≠ t v := fun q => c ⟨v, hv, hd, q⟩
      omega
    have hcl : CLo p (fun v => if r v = t v then t v else t v + 1) := by
      intro e he
      have hl := lo_lt he
      have hh := hi_lt he
      have a := h.1 e he
      have b := h5 e he
      have c0 := hp e he
      show (if r (hi e) = t (hi e) then t (hi e) else t (hi e) + 1) ≤ (if r (lo e) = t (lo e) then t (lo e) else t (lo e) + 1) + p e ∧ (if r (lo e) = t (lo e) then t (lo e) else t (lo e) + 1) ≤ (if r (hi e) = t (hi e) then t (hi e) else t (hi e) + 1) + p e
      by_cases q1 : r (lo e) = t (lo e)
      · by_cases q2 : r (hi e) = t (hi e)
        · rw [if_pos q1, if_pos q2]; exact a
        · have x := st _ hh q2
          rw [if_pos q1, if_neg q2]; omega
      · have x := st _ hl q1
        by_cases q2 : r (hi e) = t (hi e)
        · rw [if_neg q1, if_pos q2]; omega
        · rw [if_neg q1, if_neg q2]; omega
    obtain ⟨v, hv, hd⟩ := hn
    have k := h.2.2 _ hcl (fun i hi => by
      show (if r i = t i then t i else t i + 1) ≤ f i
      by_cases q : r i = t i
      · rw [if_pos q]; exact h.2.1 i hi
      · have x := st i hi q
        have y := h2 i hi
        rw [if_neg q]; omega) v hv
    have k : (if r v = t v then t v else t v + 1) ≤ t v := k
    rw [if_neg hd] at k
    omega
def piP (b : Nat → Int) (x : Int) (e : Nat) : Int := if b (lo e) = x ∧ b (hi e) = x then 0 else 100
theorem piP_nn (b : Nat → Int) (x : Int) (e : Nat) : 0 ≤ piP b x e := by
  unfold piP
  split <;> decide
def idv (v : Nat) : Int := (v : Int)
theorem piP_L {Mi : Mem} {x : Int} (hb : BR Mi) (hx : inR x) : ∀ (m e n : Nat) (M : Mem) (x2 : Int), e + m = 60 → m < n → onlyRow Mi M 13 0 → (∀ v, v < 36 → 0 ≤ M 13 v ∧ M 13 v ≤ 35) → Pas (piP (Mi 4) x) (Mi 13) (M 13) (fun i => i < e) →
    ∃ M', fX6_piecesOf_L31 n M x x2 (e : Int) = some M' ∧ onlyRow Mi M' 13 0 ∧ (∀ v, v < 36 → 0 ≤ M' 13 v ∧ M' 13 v ≤ 35) ∧ Pas (piP (Mi 4) x) (Mi 13) (M' 13) (fun _ => True) := by
  intro m
  induction m with
  | zero =>
    intro e n M x2 h hn ho hr hp
    obtain ⟨n, rfl⟩ : ∃ k, n = k + 1 := ⟨n - 1, by omega⟩
    refine ⟨M, ?_, ho, hr, ⟨hp.1, fun i hi0 _ => hp.2.1 i hi0 (show i < e by omega), hp.2.2⟩⟩
    rw [fX6_piecesOf_L31]
    exact w_gdR (by omega) (by omega) (w_t (by omega) rfl)
  | succ m ih =>
    intro e n M x2 h hn ho hr hp
    obtain ⟨n, rfl⟩ : ∃ k, n = k + 1 := ⟨n - 1, by omega⟩
    have he : e < 60 := by omega
    have hl := lo_lt he
    have hh := hi_lt he
    have hne := lo_hi he
    have r1 := hr _ hl
    have r2 := hr _ hh
    have e4 : M 4 = Mi 4 := ho.arr (by decide)
    have b1 := hb _ hl
    have b2 := hb _ hh
    rw [← e4] at b1 b2
    have nochange : ¬ (M 4 (lo e) = x ∧ M 4 (hi e) = x) → (if M 4 (lo e) = x then (gd (inB (hi e : Int) 36) (gd (inR (M 4 (hi e))) (if M 4 (hi e) = x then (gd (inB (lo e : Int) 36) (gd (inB (hi e : Int) 36) (gd (inR (M 13 (lo e))) (gd (inR (M 13 (hi e))) (Option.bind (if M 13 (hi e) ≤ M 13 (lo e) then (gd (inB (hi e : Int) 36) (some (M 13 (hi e)))) else (gd (inB (lo e : Int) 36) (some (M 13 (lo e))))) (fun t30 => gd (inB (lo e : Int) 36) (gd (inB (hi e : Int) 36) (some ((wr (wr M 13 (lo e) t30) 13 (hi e) t30)))))))))) else (some (M))))) else (some (M))) = some M := by
      intro q
      by_cases a : M 4 (lo e) = x
      · exact w_t a (w_gdB (by omega) (by omega) (w_gdR (by omega) (by omega) (w_f (fun z => q ⟨a, z⟩) rfl)))
      · exact w_f a rfl
    have step : ∀ M1, (if M 4 (lo e) = x then (gd (inB (hi e : Int) 36) (gd (inR (M 4 (hi e))) (if M 4 (hi e) = x then (gd (inB (lo e : Int) 36) (gd (inB (hi e : Int) 36) (gd (inR (M 13 (lo e))) (gd (inR (M 13 (hi e))) (Option.bind (if M 13 (hi e) ≤ M 13 (lo e) then (gd (inB (hi e : Int) 36) (some (M 13 (hi e)))) else (gd (inB (lo e : Int) 36) (some (M 13 (lo e))))) (fun t30 => gd (inB (lo e : Int) 36) (gd (inB (hi e : Int) 36) (some ((wr (wr M 13 (lo e) t30) 13 (hi e) t30)))))))))) else (some (M))))) else (some (M))) = some M1 → onlyRow M M1 13 0 → (∀ v, v < 36 → 0 ≤ M1 13 v ∧ M1 13 v ≤ 35) → StE (piP (Mi 4) x) (M 13) (M1 13) e → ∃ M', fX6_piecesOf_L31 (n + 1) M x x2 (e : Int) = some M' ∧ onlyRow Mi M' 13 0 ∧ (∀ v, v < 36 → 0 ≤ M' 13 v ∧ M' 13 v ≤ 35) ∧ Pas (piP (Mi 4) x) (Mi 13) (M' 13) (fun _ => True) := by
      intro M1 k1 k2 k3 k4
      obtain ⟨M', g1, g2⟩ := ih (e + 1) n M1 x2 (by omega) (by omega) (ho.trans k2) k3 (hp.step k4 he (fun i hi => by omega))
      refine ⟨M', ?_, g2⟩
      rw [fX6_piecesOf_L31]
      refine w_gdR (by omega) (by omega) (w_f (by omega) (w_bind (m_first M he) (w_bind (m_second M he) (w_gdB (by omega) (by omega) ?_))))
      rw [Int.toNat_natCast, Int.toNat_natCast]
      refine w_gdR (by omega) (by omega) (w_gd hx (w_bind k1 ?_))
      rw [show (e : Int) + 1 = ((e + 1 : Nat) : Int) by omega]
      exact g1
    by_cases a : M 4 (lo e) = x ∧ M 4 (hi e) = x
    · obtain ⟨y, hy⟩ : ∃ y, y = if M 13 (hi e) ≤ M 13 (lo e) then M 13 (hi e) else M 13 (lo e) := ⟨_, rfl⟩
      have by1 : 0 ≤ y ∧ y ≤ M 13 (hi e) ∧ y ≤ M 13 (lo e) := by rw [hy]; split <;> omega
      have er : wr (wr M 13 (lo e) y) 13 (hi e) y 13 = put (put (M 13) (lo e) y) (hi e) y := by rw [wr_put, wr_put]
      have hp0 : piP (Mi 4) x e = 0 := by
        unfold piP
        rw [← e4]
        exact if_pos a
      refine step (wr (wr M 13 (lo e) y) 13 (hi e) y) ?_ ((only_wr0 M 13 y hl).trans (only_wr0 _ 13 y hh)) (fun v hv => ?_) ⟨fun v hv => ?_, ⟨?_, ?_⟩, fun g g1 g2 v hv => ?_⟩
      · refine w_t a.1 (w_gdB (by omega) (by omega) (w_gdR (by omega) (by omega) (w_t a.2 (w_gdB (by omega) (by omega) (w_gdB (by omega) (by omega) (w_gdR (by omega) (by omega) (w_gdR (by omega) (by omega) (w_bind (t := y) ?_ (w_gdB (by omega) (by omega) (w_gdB (by omega) (by omega) rfl))))))))))
        rw [hy]
        by_cases q : M 13 (hi e) ≤ M 13 (lo e)
        · rw [if_pos q, if_pos q]; exact w_gdB (by omega) (by omega) rfl
        · rw [if_neg q, if_neg q]; exact w_gdB (by omega) (by omega) rfl
      · rw [er]
        by_cases q : v = hi e
        · rw [q, put_at]; omega
        · rw [put_ne q]
          by_cases q2 : v = lo e
          · rw [q2, put_at]; omega
          · rw [put_ne q2]; exact hr v hv
      · rw [er]
        by_cases q : v = hi e
        · rw [q, put_at]; omega
        · rw [put_ne q]
          by_cases q2 : v = lo e
          · rw [q2, put_at]; omega
          · rw [put_ne q2]; exact Int.le_refl _
      · rw [er, put_at, hp0]; omega
      · rw [er, put_ne (by omega), put_at, hp0]; omega
      · have z := g1 e he
        have z1 := g2 _ hl
        have z2 := g2 _ hh
        rw [hp0] at z
        rw [er]
        have gy : g (lo e) ≤ y ∧ g (hi e) ≤ y := by rw [hy]; split <;> omega
        by_cases q : v = hi e
        · rw [q, put_at]; exact gy.2
        · rw [put_ne q]
          by_cases q2 : v = lo e
          · rw [q2, put_at]; exact gy.1
          · rw [put_ne q2]; exact g2 v hv
    · have hp0 : piP (Mi 4) x e = 100 := by
        unfold piP
        rw [← e4]
        exact if_neg a
      refine step M (nochange a) (onlyRow.refl _ _ _) hr ⟨fun v hv => Int.le_refl _, ⟨?_, ?_⟩, fun g g1 g2 => g2⟩
      · rw [hp0]; omega
      · rw [hp0]; omega
theorem piR_L {Mi : Mem} {x : Int} (hb : BR Mi) (hx : inR x) {t : Nat → Int} (hG : GC (piP (Mi 4) x) idv t) : ∀ (m k n : Nat) (M : Mem), k + m = 36 → m < n → onlyRow Mi M 13 0 → (∀ v, v < 36 → 0 ≤ M 13 v ∧ M 13 v ≤ 35) → LE36 (M 13) idv → LE36 t (M 13) → ((k : Int) ≤ nFin (M 13) t ∨ ∀ v, v < 36 → M 13 v = t v) →
    ∃ M', fX6_piecesOf_L23 n M x (k : Int) = some M' ∧ onlyRow Mi M' 13 0 ∧ ∀ v, v < 36 → M' 13 v = t v := by
  intro m
  induction m with
  | zero =>
    intro k n M h hn ho hr hf ht2 hN
    obtain ⟨n, rfl⟩ : ∃ k, n = k + 1 := ⟨n - 1, by omega⟩
    refine ⟨M, ?_, ho, ?_⟩
    · rw [fX6_piecesOf_L23]
      exact w_gdR (by omega) (by omega) (w_t (by omega) rfl)
    · rcases hN with q | q
      · exact nFin_full (by omega)
      · exact q
  | succ m ih =>
    intro k n M h hn ho hr hf ht2 hN
    obtain ⟨n, rfl⟩ : ∃ k, n = k + 1 := ⟨n - 1, by omega⟩
    have e4 : M 4 = Mi 4 := ho.arr (by decide)
    have hbM : BR M := by
      unfold BR
      rw [e4]
      exact hb
    obtain ⟨M2, b1, b3, b4, b5⟩ := piP_L hbM hx 60 0 FU M (k : Int) (by omega) (by have := FU_big; omega) (onlyRow.refl M 13 0) hr (Pas.refl _ _ _ (fun i => Nat.not_lt_zero i))
    rw [e4] at b5
    have low2 : LE36 t (M2 13) := b5.2.2 t hG.1 ht2
    obtain ⟨M', k1, k2, k3⟩ := ih (k + 1) n M2 (by omega) (by omega) (ho.trans b3) b4 (fun v hv => Int.le_trans (b5.1 v hv) (hf v hv)) low2 (by
      by_cases d : ∃ v, v < 36 ∧ M 13 v ≠ t v
      · left
        have p1 := pass_more0 (fun e _ => piP_nn _ _ e) hG ht2 hf low2 b5.1 (fun e he => b5.2.1 e he trivial) d
        rcases hN with q | q
        · omega
        · obtain ⟨v, v1, v2⟩ := d
          exact absurd (q v v1) v2
      · right
        intro v hv
        have e : M 13 v = t v := Classical.byContradiction fun q => d ⟨v, hv, q⟩
        have u1 := b5.1 v hv
        have u2 := low2 v hv
        omega)
    refine ⟨M', ?_, k2, k3⟩
    rw [fX6_piecesOf_L23]
    refine w_gdR (by omega) (by omega) (w_f (by omega) (w_bind b1 ?_))
    rw [show (k : Int) + 1 = ((k + 1 : Nat) : Int) by omega]
    exact k1
theorem piI_L {Mi : Mem} (x : Int) : ∀ (m k n : Nat) (M : Mem), k + m = 36 → m < n → onlyRow Mi M 13 0 → (∀ v, v < k → M 13 v = idv v) →
    ∃ M', fX6_piecesOf_L2 n M x (k : Int) = some M' ∧ onlyRow Mi M' 13 0 ∧ ∀ v, v < 36 → M' 13 v = idv v := by
  intro m
  induction m with
  | zero =>
    intro k n M h hn ho hk
    obtain ⟨n, rfl⟩ : ∃ k, n = k + 1 := ⟨n - 1, by omega⟩
    refine ⟨M, ?_, ho, fun v hv => hk v (by omega)⟩
    rw [fX6_piecesOf_L2]
    exact w_gdR (by omega) (by omega) (w_t (by omega) rfl)
  | succ m ih =>
    intro k n M h hn ho hk
    obtain ⟨n, rfl⟩ : ∃ k, n = k + 1 := ⟨n - 1, by omega⟩
    obtain ⟨M', k1, k2⟩ := ih (k + 1) n (wr M 13 k (k : Int)) (by omega) (by omega) (ho.trans (only_wr0 M 13 _ (by omega))) (fun v hv => by
      rw [wr_put]
      by_cases q : v = k
      · rw [q, put_at]; rfl
      · rw [put_ne q]; exact hk v (by omega))
    refine ⟨M', ?_, k2⟩
    rw [fX6_piecesOf_L2]
    refine w_gdR (by omega) (by omega) (w_f (by omega) (w_gdB (by omega) (by omega) ?_))
    rw [show (k : Int) + 1 = ((k + 1 : Nat) : Int) by omega, Int.toNat_natCast]
    exact k1
/-- the lowest of a piece -/
def piN (b t : Nat → Int) (x : Int) (v : Nat) : Int := if b v = x then (if t v = (v : Int) then 1 else 0) else 0
theorem piC_L {M : Mem} {x : Int} (hb : BR M) (hx : inR x) {t : Nat → Int} (ht : ∀ v, v < 36 → M 13 v = t v ∧ 0 ≤ t v ∧ t v ≤ 35) : ∀ (m k n : Nat) (s : Int), k + m = 36 → m < n → fX6_piecesOf_L141 n M x s (k : Int) = some (s + ss (piN (M 4) t x) k m) := by
  intro m
  induction m with
  | zero =>
    intro k n s h hn
    obtain ⟨n, rfl⟩ : ∃ k, n = k + 1 := ⟨n - 1, by omega⟩
    rw [fX6_piecesOf_L141, ss, Int.add_zero]
    exact w_gdR (by omega) (by omega) (w_t (by omega) rfl)
  | succ m ih =>
    intro k n s h hn
    obtain ⟨n, rfl⟩ : ∃ k, n = k + 1 := ⟨n - 1, by omega⟩
    have h1 := hb k (by omega)
    have h2 := ht k (by omega)
    rw [fX6_piecesOf_L141]
    refine w_gdR (by omega) (by omega) (w_f (by omega) (w_gdB (by omega) (by omega) ?_))
    rw [Int.toNat_natCast]
    refine w_gdR (by omega) (by omega) (w_gd hx (w_bind (t := piN (M 4) t x k) ?_ ?_))
    · by_cases q : M 4 k = x
      · have ep : piN (M 4) t x k = if t k = (k : Int) then 1 else 0 := if_pos q
        rw [ep]
        refine w_t q (w_gdB (by omega) (by omega) ?_)
        rw [h2.1]
        refine w_gdR (by omega) (by omega) ?_
        by_cases q2 : t k = (k : Int)
        · exact Eq.trans (w_t q2 rfl) (congrArg some (by rw [if_pos q2]))
        · exact Eq.trans (w_f q2 rfl) (congrArg some (by rw [if_neg q2]))
      · have ep : piN (M 4) t x k = 0 := if_neg q
        rw [ep]
        exact w_f q rfl
    · rw [show (k : Int) + 1 = ((k + 1 : Nat) : Int) by omega, ih (k + 1) n _ (by omega) (by omega), ss, Int.add_assoc]
theorem piM {M : Mem} {x : Int} (hb : BR M) (hx : inR x) {t : Nat → Int} (hG : GC (piP (M 4) x) idv t) (h0 : ∀ v, v < 36 → 0 ≤ t v) : ∃ M', fX6_piecesOf M x = some (ss (piN (M 4) t x) 0 36, M') ∧ onlyRow M M' 13 0 := by
  obtain ⟨M1, a1, a2, a3⟩ := piI_L (Mi := M) x 36 0 FU M (by omega) (by have := FU_big; omega) (onlyRow.refl _ _ _) (fun v hv => absurd hv (by omega))
  have e4 : M1 4 = M 4 := a2.arr (by decide)
  have hb1 : BR M1 := by
    unfold BR
    rw [e4]
    exact hb
  have n0 : 0 ≤ nFin (M1 13) t := ss_nn 36 0 (fun i _ _ => by show 0 ≤ (if M1 13 i = t i then (1 : Int) else 0); split <;> decide)
  obtain ⟨M2, b1, b2, b3⟩ := piR_L (Mi := M1) hb1 hx (t := t) (by rw [e4]; exact hG) 36 0 FU M1 (by omega) (by have := FU_big; omega) (onlyRow.refl _ _ _) (fun v hv => by rw [a3 v hv]; unfold idv; omega) (fun v hv => by rw [a3 v hv]; exact Int.le_refl _) (fun v hv => by rw [a3 v hv]; exact hG.2.1 v hv) (Or.inl n0)
  have e42 : M2 4 = M 4 := (b2.arr (by decide)).trans e4
  have hb2 : BR M2 := by
    unfold BR
    rw [e42]
    exact hb
  have hc := piC_L hb2 hx (t := t) (fun v hv => ⟨b3 v hv, h0 v hv, by have := hG.2.1 v hv; unfold idv at this; omega⟩) 36 0 FU 0 (by omega) (by have := FU_big; omega)
  rw [Int.zero_add, e42] at hc
  refine ⟨M2, ?_, a2.trans b2⟩
  unfold fX6_piecesOf
  exact w_bind a1 (w_bind b1 (w_bind hc rfl))
