/-! the reference's table of nets, an edge being free perhaps -/
def prF (M : Mem) (e : Nat) : Int := if (e : Int) = M 104 0 then 0 else coM M e
theorem prF_PR {M : Mem} (hm : MR M) : PR (prF M) := fun e he => by
  have := coM_bd hm he
  unfold prF
  split <;> omega
theorem spE {M : Mem} (hm : MR M) (h104 : inR (M 104 0)) {W e : Nat} (hW : W < 128) (he : e < 60) (hb : bdd (rowOf M 8 (36 * W))) (n : Nat) (x2 : Int) : ∃ (y : Int) (M' : Mem), (∀ r, fX6_spread_L10 n M' (W : Int) y ((e : Int) + 1) = some r → fX6_spread_L10 (n + 1) M (W : Int) x2 (e : Int) = some r) ∧ ((y = x2 ∧ M' = M) ∨ (y = 1 ∧ ss (rowOf M' 8 (36 * W)) 0 36 + 1 ≤ ss (rowOf M 8 (36 * W)) 0 36)) ∧ onlyRow M M' 8 (36 * W) ∧ bdd (rowOf M' 8 (36 * W)) ∧ StE (prF M) (rowOf M 8 (36 * W)) (rowOf M' 8 (36 * W)) e := by
  have hl := lo_lt he
  have hh := hi_lt he
  have hne := lo_hi he
  have hc := prF_PR hm e he
  have r1 := hb _ hl
  have r2 := hb _ hh
  have il : (36 * (W : Int) + (lo e : Int)).toNat = 36 * W + lo e := by omega
  have ih : (36 * (W : Int) + (hi e : Int)).toNat = 36 * W + hi e := by omega
  obtain ⟨c, hcd⟩ : ∃ c, c = prF M e := ⟨_, rfl⟩
  rw [← hcd] at hc
  have pr : (if (e : Int) = M 104 0 then some (0 : Int) else (Option.bind (fX6_costOfEdge M (e : Int)) (fun t11 => some (t11)))) = some c := by
    rw [hcd]
    unfold prF
    by_cases q : (e : Int) = M 104 0
    · exact Eq.trans (w_t q rfl) (congrArg some (by rw [if_pos q]))
    · exact Eq.trans (w_f q (w_bind (m_cost M he) rfl)) (congrArg some (by rw [if_neg q]))
  obtain ⟨x, hx⟩ : ∃ x, x = rowOf M 8 (36 * W) := ⟨_, rfl⟩
  rw [← hx] at r1 r2 hb
  have xl : M 8 (36 * W + lo e) = x (lo e) := by rw [hx]; rfl
  have xh : M 8 (36 * W + hi e) = x (hi e) := by rw [hx]; rfl
  -- the first lowering
  obtain ⟨a, ha⟩ : ∃ a, a = if x (hi e) ≤ x (lo e) + c then x (hi e) else x (lo e) + c := ⟨_, rfl⟩
  have hab : 0 ≤ a ∧ a ≤ x (hi e) ∧ a ≤ x (lo e) + c ∧ (a = x (hi e) ∨ (a = x (lo e) + c ∧ a < x (hi e))) := by rw [ha]; split <;> omega
  obtain ⟨M1, hM1⟩ : ∃ M1, M1 = if x (hi e) ≤ x (lo e) + c then M else wr M 8 (36 * W + hi e) (x (lo e) + c) := ⟨_, rfl⟩
  obtain ⟨y1, hy1⟩ : ∃ y1, y1 = if x (hi e) ≤ x (lo e) + c then x2 else 1 := ⟨_, rfl⟩
  have o1 : onlyRow M M1 8 (36 * W) := by
    rw [hM1]
    split
    · exact onlyRow.refl _ _ _
    · exact only_wr M 8 (36 * W) _ hh
  have row1 : rowOf M1 8 (36 * W) = put x (hi e) a := by
    rw [hM1, ha]
    by_cases q : x (hi e) ≤ x (lo e) + c
    · rw [if_pos q, if_pos q, put_self, hx]
    · rw [if_neg q, if_neg q, row_wr, hx]
  have v1h : M1 8 (36 * W + hi e) = a := by
    show rowOf M1 8 (36 * W) (hi e) = a
    rw [row1, put_at]
  have v1l : M1 8 (36 * W + lo e) = x (lo e) := by
    show rowOf M1 8 (36 * W) (lo e) = x (lo e)
    rw [row1, put_ne (by omega)]
  -- the second
  obtain ⟨b, hb0⟩ : ∃ b, b = if x (lo e) ≤ a + c then x (lo e) else a + c := ⟨_, rfl⟩
  have hbb : 0 ≤ b ∧ b ≤ x (lo e) ∧ b ≤ a + c ∧ (b = x (lo e) ∨ (b = a + c ∧ b < x (lo e))) := by rw [hb0]; split <;> omega
  obtain ⟨M2, hM2⟩ : ∃ M2, M2 = if x (lo e) ≤ a + c then M1 else wr M1 8 (36 * W + lo e) (a + c) := ⟨_, rfl⟩
  obtain ⟨y2, hy2⟩ : ∃ y2, y2 = if x (lo e) ≤ a + c then y1 else 1 := ⟨_, rfl⟩
  have o2 : onlyRow M1 M2 8 (36 * W) := by
    rw [hM2]
    split
    · exact onlyRow.refl _ _ _
    · exact only_wr M1 8 (36 * W) _ hl
  have row2 : rowOf M2 8 (36 * W) = put (put x (hi e) a) (lo e) b := by
    rw [hM2, hb0]
    by_cases q : x (lo e) ≤ a + c
    · rw [if_pos q, if_pos q, row1]
      funext i
      by_cases z : i = lo e
      · rw [z, put_at, put_ne (by omega)]
      · rw [put_ne z]
    · rw [if_neg q, if_neg q, row_wr, row1]
  refine ⟨y2, M2, fun r hr => ?_, ?_, o1.trans o2, fun v hv => ?_, ?_⟩
  · rw [fX6_spread_L10]
    refine w_gdR (by omega) (by omega) (w_f (by omega) (w_bind (m_first M he) (w_bind (m_second M he) (w_gd h104 (w_bind pr (w_gdB (by omega) (by omega) (w_gdB (by omega) (by omega) ?_)))))))
    rw [il, ih, xl, xh]
    refine w_gdR (by omega) (by omega) (w_gdR (by omega) (by omega) (w_bind (t := (y1, M1)) ?_ (w_gdB (by omega) (by omega) (w_gdB (by omega) (by omega) ?_))))
    · rw [hy1, hM1]
      by_cases q : x (hi e) ≤ x (lo e) + c
      · exact Eq.trans (w_t q rfl) (congrArg some (by rw [if_pos q, if_pos q]))
      · exact Eq.trans (w_f q (w_gdB (by omega) (by omega) (w_gdB (by omega) (by omega) rfl))) (congrArg some (by rw [if_neg q, if_neg q]))
    · show gd (inR (M1 8 (36 * W + hi e) + c)) (gd (inR (M1 8 (36 * W + lo e))) (Option.bind (if M1 8 (36 * W + lo e) ≤ M1 8 (36 * W + hi e) + c then some (y1, M1) else gd (inB (36 * (W : Int) + (hi e : Int)) 4608) (gd (inB (36 * (W : Int) + (lo e : Int)) 4608) (some (1, wr M1 8 (36 * W + lo e) (M1 8 (36 * W + hi e) + c))))) (fun t33 => fX6_spread_L10 n t33.2 (W : Int) t33.1 ((e : Int) + 1)))) = some r
      rw [v1h, v1l]
      refine w_gdR (by omega) (by omega) (w_gdR (by omega) (by omega) (w_bind (t := (y2, M2)) ?_ hr))
      rw [hy2, hM2]
      by_cases q : x (lo e) ≤ a + c
      · exact Eq.trans (w_t q rfl) (congrArg some (by rw [if_pos q, if_pos q]))
      · exact Eq.trans (w_f q (w_gdB (by omega) (by omega) (w_gdB (by omega) (by omega) rfl))) (congrArg some (by rw [if_neg q, if_neg q]))
  · rw [row2, put_sum _ _ hl, put_sum _ _ hh, put_ne (show lo e ≠ hi e by omega), ← hx]
    by_cases q : x (hi e) ≤ x (lo e) + c
    · by_cases q2 : x (lo e) ≤ a + c
      · left
        rw [hy2, hM2, if_pos q2, if_pos q2, hy1, hM1, if_pos q, if_pos q]
        exact ⟨rfl, rfl⟩
      · right
        rw [hy2, if_neg q2]
        exact ⟨rfl, by omega⟩
    · right
      have y1e : y1 = 1 := by rw [hy1, if_neg q]
      have y2e : y2 = 1 := by rw [hy2, y1e]; split <;> rfl
      have alt : a < x (hi e) := by omega
      exact ⟨y2e, by omega⟩
  · rw [row2]
    by_cases q : v = lo e
    · rw [q, put_at]; omega
    · rw [put_ne q]
      by_cases q2 : v = hi e
      · rw [q2, put_at]; omega
      · rw [put_ne q2]; exact hb v hv
  · rw [row2, ← hx]
    refine ⟨fun v hv => ?_, ⟨?_, ?_⟩, fun g h1 h2 v hv => ?_⟩
    · by_cases q : v = lo e
      · rw [q, put_at]; omega
      · rw [put_ne q]
        by_cases q2 : v = hi e
        · rw [q2, put_at]; omega
        · rw [put_ne q2]; exact Int.le_refl _
    · rw [put_ne (by omega), put_at, ← hcd]; omega
    · rw [put_at, ← hcd]; omega
    · have z := h1 e he
      have z1 := h2 _ hl
      have z2 := h2 _ hh
      rw [← hcd] at z
      have ga : g (hi e) ≤ a := by omega
      by_cases q : v = lo e
      · rw [q, put_at]; omega
      · rw [put_ne q]
        by_cases q2 : v = hi e
        · rw [q2, put_at]; exact ga
        · rw [put_ne q2]; exact h2 v hv
theorem prF_only {M M' : Mem} {b : Nat} (h : onlyRow M M' 8 b) : prF M' = prF M := by
  funext e
  unfold prF
  rw [coM_only h (by decide) (by decide), h.arr (show 104 ≠ 8 by decide)]
theorem spP_L {Ms : Mem} (hm : MR Ms) (h104 : inR (Ms 104 0)) {W : Nat} (hW : W < 128) : ∀ (m e n : Nat) (M : Mem) (x2 : Int), e + m = 60 → m < n → onlyRow Ms M 8 (36 * W) → bdd (rowOf M 8 (36 * W)) → Pas (prF Ms) (rowOf Ms 8 (36 * W)) (rowOf M 8 (36 * W)) (fun i => i < e) → ((x2 = 0 ∧ M = Ms) ∨ (x2 = 1 ∧ ss (rowOf M 8 (36 * W)) 0 36 + 1 ≤ ss (rowOf Ms 8 (36 * W)) 0 36)) →
    ∃ (y : Int) (M' : Mem), fX6_spread_L10 n M (W : Int) x2 (e : Int) = some (y, M') ∧ onlyRow Ms M' 8 (36 * W) ∧ bdd (rowOf M' 8 (36 * W)) ∧ Pas (prF Ms) (rowOf Ms 8 (36 * W)) (rowOf M' 8 (36 * W)) (fun _ => True) ∧ ((y = 0 ∧ M' = Ms) ∨ (y = 1 ∧ ss (rowOf M' 8 (36 * W)) 0 36 + 1 ≤ ss (rowOf Ms 8 (36 * W)) 0 36)) := by
  intro m
  induction m with
  | zero =>
    intro e n M x2 h hn ho hb hp hx
    obtain ⟨n, rfl⟩ : ∃ k, n = k + 1 := ⟨n - 1, by omega⟩
    refine ⟨x2, M, ?_, ho, hb, ⟨hp.1, fun i hi0 _ => hp.2.1 i hi0 (show i < e by omega), hp.2.2⟩, hx⟩
    rw [fX6_spread_L10]
    exact w_gdR (by omega) (by omega) (w_t (by omega) rfl)
  | succ m ih =>
    intro e n M x2 h hn ho hb hp hx
    obtain ⟨n, rfl⟩ : ∃ k, n = k + 1 := ⟨n - 1, by omega⟩
    have hmM := MR_only ho (by decide) (by decide) hm
    have ec := prF_only ho
    obtain ⟨y, M1, s1, s2, s3, s4, s5⟩ := spE hmM (by rw [ho.arr (show 104 ≠ 8 by decide)]; exact h104) hW (show e < 60 by omega) hb n x2
    rw [ec] at s5
    have le := s5.1
    have sle : ss (rowOf M1 8 (36 * W)) 0 36 ≤ ss (rowOf M 8 (36 * W)) 0 36 := ss_le 36 0 (fun i _ hi0 => le i (by omega))
    obtain ⟨y2, M', g1, g2⟩ := ih (e + 1) n M1 y (by omega) (by omega) (ho.trans s3) s4 (hp.step s5 (by omega) (fun i hi0 => by omega)) (by
      rcases s2 with ⟨q1, q2⟩ | ⟨q1, q2⟩
      · rw [q1, q2]; exact hx
      · right
        refine ⟨q1, ?_⟩
        rcases hx with ⟨z1, z2⟩ | ⟨z1, z2⟩
        · rw [z2] at q2; exact q2
        · omega)
    rw [show ((e + 1 : Nat) : Int) = (e : Int) + 1 by omega] at g1
    exact ⟨y2, M', s1 _ g1, g2⟩
theorem spL {W : Nat} (hW : W < 128) {f t : Nat → Int} {Mi : Mem} (hm : MR Mi) (h104 : inR (Mi 104 0)) (hG : GC (prF Mi) f t) : ∀ (N n : Nat) (M : Mem), ss (rowOf M 8 (36 * W)) 0 36 ≤ (N : Int) → N + 2 < n → onlyRow Mi M 8 (36 * W) → bdd (rowOf M 8 (36 * W)) → LE36 (rowOf M 8 (36 * W)) f → LE36 t (rowOf M 8 (36 * W)) →
    ∃ M', fX6_spread_L2 n M (W : Int) 1 = some M' ∧ onlyRow Mi M' 8 (36 * W) ∧ ∀ v, v < 36 → rowOf M' 8 (36 * W) v = t v := by
  intro N
  have one : ∀ (n : Nat) (M : Mem), onlyRow Mi M 8 (36 * W) → bdd (rowOf M 8 (36 * W)) → LE36 (rowOf M 8 (36 * W)) f → LE36 t (rowOf M 8 (36 * W)) → (∃ M', fX6_spread_L2 (n + 2) M (W : Int) 1 = some M' ∧ onlyRow Mi M' 8 (36 * W) ∧ ∀ v, v < 36 → rowOf M' 8 (36 * W) v = t v) ∨ ∃ M1, onlyRow Mi M1 8 (36 * W) ∧ bdd (rowOf M1 8 (36 * W)) ∧ LE36 (rowOf M1 8 (36 * W)) f ∧ LE36 t (rowOf M1 8 (36 * W)) ∧ ss (rowOf M1 8 (36 * W)) 0 36 + 1 ≤ ss (rowOf M 8 (36 * W)) 0 36 ∧ ∀ r, fX6_spread_L2 (n + 1) M1 (W : Int) 1 = some r → fX6_spread_L2 (n + 2) M (W : Int) 1 = some r := by
    intro n M ho hb hf ht
    have hmM := MR_only ho (by decide) (by decide) hm
    have ec := prF_only ho
    obtain ⟨y, M1, g1, g2, g3, g4, g5⟩ := spP_L hmM (by rw [ho.arr (show 104 ≠ 8 by decide)]; exact h104) hW 60 0 FU M 0 (by omega) (by have := FU_big; omega) (onlyRow.refl _ _ _) hb (Pas.refl _ _ _ (fun i => Nat.not_lt_zero i)) (Or.inl ⟨rfl, rfl⟩)
    rw [ec] at g4
    rcases g5 with ⟨q1, q2⟩ | ⟨q1, q2⟩
    · left
      have cl : CLo (prF Mi) (rowOf M 8 (36 * W)) := fun e he => by
        have := g4.2.1 e he trivial
        rw [q2] at this
        exact this
      refine ⟨M, ?_, ho, fun v hv => Int.le_antisymm (hG.2.2 _ cl hf v hv) (ht v hv)⟩
      rw [fX6_spread_L2]
      refine w_gdR (by omega) (by omega) (w_f N1 (w_bind g1 ?_))
      rw [fX6_spread_L2]
      refine w_gdR (by omega) (by omega) (w_t q1 ?_)
      rw [q2]
    · right
      refine ⟨M1, ho.trans g2, g3, fun v hv => Int.le_trans (g4.1 v hv) (hf v hv), g4.2.2 t hG.1 ht, q2, fun r hr => ?_⟩
      rw [fX6_spread_L2]
      refine w_gdR (by omega) (by omega) (w_f N1 (w_bind g1 ?_))
      rw [q1]
      exact hr
  induction N with
  | zero =>
    intro n M hs hn ho hb hf ht
    obtain ⟨n, rfl⟩ : ∃ k, n = k + 2 := ⟨n - 2, by omega⟩
    rcases one n M ho hb hf ht with q | ⟨M1, a1, a2, a3, a4, a5, a6⟩
    · exact q
    · have := ss_nn (f := rowOf M1 8 (36 * W)) 36 0 (fun i _ hi0 => (a2 i (by omega)).1)
      omega
  | succ N ih =>
    intro n M hs hn ho hb hf ht
    obtain ⟨n, rfl⟩ : ∃ k, n = k + 2 := ⟨n - 2, by omega⟩
    rcases one n M ho hb hf ht with q | ⟨M1, a1, a2, a3, a4, a5, a6⟩
    · exact q
    · obtain ⟨M', g1, g2⟩ := ih (n + 1) M1 (by omega) (by omega) a1 a2 a3 a4
      exact ⟨M', a6 _ g1, g2⟩
theorem spM {W : Nat} (hW : W < 128) {M : Mem} (hm : MR M) (h104 : inR (M 104 0)) (hb : bdd (rowOf M 8 (36 * W))) {t : Nat → Int} (hG : GC (prF M) (rowOf M 8 (36 * W)) t) : ∃ M', fX6_spread M (W : Int) = some M' ∧ onlyRow M M' 8 (36 * W) ∧ ∀ v, v < 36 → rowOf M' 8 (36 * W) v = t v := by
  have ub := ss_ub (f := rowOf M 8 (36 * W)) (c := 1073741824) 36 0 (fun i _ hi0 => (hb i (by omega)).2)
  obtain ⟨M', g1, g2⟩ := spL hW hm h104 hG 38654705664 FU M (by omega) (by have := FU_big; omega) (onlyRow.refl _ _ _) hb (fun _ _ => Int.le_refl _) hG.2.1
  refine ⟨M', ?_, g2⟩
  unfold fX6_spread
  exact w_bind g1 rfl
