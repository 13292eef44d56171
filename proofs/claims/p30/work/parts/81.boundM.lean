/-! the reference's bound; bound and gap on both sides -/
theorem zbit : ∀ z : Nat, z < 64 → ∀ i : Nat, i < 6 → zand (zshr (z : Int) (i : Int)) 1 = (if z.testBit i = true then 1 else 0) := by decide +kernel
theorem zor64 : ∀ z : Nat, z < 64 → ∀ n : Nat, n < 6 → (z ||| 2 ^ n) < 64 := by decide +kernel
theorem dq1 : ∀ k : Nat, k < 7 → ∀ q : Nat, q < k * k → q / k < k ∧ q % k < k := by decide +kernel
theorem dq2 : ∀ k : Nat, k < 7 → ∀ i : Nat, i < k → ∀ j : Nat, j < k → i * k + j < k * k ∧ (i * k + j) / k = i ∧ (i * k + j) % k = j := by decide +kernel
theorem dq3 : ∀ k : Nat, k < 7 → ∀ q : Nat, q < k * k * k → q % k < k ∧ q / k % k < k ∧ q / k / k < k := by decide +kernel
theorem dq4 : ∀ k : Nat, k < 7 → ∀ i : Nat, i < k → ∀ j : Nat, j < k → ∀ l : Nat, l < k → i + k * j + k * k * l < k * k * k ∧ (i + k * j + k * k * l) % k = i ∧ (i + k * j + k * k * l) / k % k = j ∧ (i + k * j + k * k * l) / k / k = l := by decide +kernel
theorem kk7 : ∀ k : Nat, k < 7 → k * k ≤ 36 ∧ k * k * k ≤ 216 := by decide
theorem afM {M : Mem} (hm : MR M) {u v : Nat} (hu : u < 36) (hv : v < 36) : ∃ M', fX6_apartFrom M (u : Int) (v : Int) = some (dsF (coM M) u v, M') ∧ onlyRow M M' 6 0 := by
  obtain ⟨M', a1, a2, a3⟩ := farM hm hu (dsF_is hm.PR hu)
  refine ⟨M', ?_, a2⟩
  unfold fX6_apartFrom
  refine w_bind a1 (w_gdB (by omega) (by omega) ?_)
  rw [Int.toNat_natCast, a3 v hv]
def TwM (M0 : Mem) (k : Nat) (tw : Nat → Nat) : Prop := MR M0 ∧ M0 101 0 = (k : Int) ∧ k ≤ 6 ∧ ∀ i, i < k → M0 2 i = (tw i : Int) ∧ tw i < 36
theorem TwM.keep {M0 M : Mem} {k : Nat} {tw : Nat → Nat} (h : TwM M0 k tw) (f : ∀ a, a ≠ 6 → M a = M0 a) : TwM M k tw ∧ coM M = coM M0 := by
  refine ⟨?_, coM_of (f 0 (by decide)) (f 1 (by decide))⟩
  unfold TwM MR at h ⊢
  rw [f 0 (by decide), f 1 (by decide), f 101 (by decide), f 2 (by decide)]
  exact h
theorem TwM.ap {M0 : Mem} {k : Nat} {tw : Nat → Nat} (h : TwM M0 k tw) {a b : Nat} (ha : a < k) (hb : b < k) : ∃ M', fX6_apartFrom M0 (M0 2 a) (M0 2 b) = some (Dt (coM M0) tw a b, M') ∧ ∀ c, c ≠ 6 → M' c = M0 c := by
  obtain ⟨h1, h2, h3, h4⟩ := h
  obtain ⟨s1, s2⟩ := h4 a ha
  obtain ⟨t1, t2⟩ := h4 b hb
  obtain ⟨M', g1, g2⟩ := afM h1 s2 t2
  refine ⟨M', ?_, fun c hc => g2.arr hc⟩
  rw [s1, t1]
  exact g1
def may (z k q : Nat) : Prop := z.testBit (q / k) = true ∧ ¬ z.testBit (q % k) = true
def TrI (D : Nat → Nat → Int) (k z q : Nat) (nx le : Int) : Prop := (le = 1000000000 ∧ ∀ i, i < q → ¬ may z k i) ∨ ((0 ≤ le ∧ le ≤ 590) ∧ (∃ j n : Nat, j < k ∧ n < k ∧ nx = (n : Int) ∧ z.testBit j = true ∧ ¬ z.testBit n = true ∧ le = D j n) ∧ ∀ i, i < q → may z k i → le ≤ D (i / k) (i % k))
theorem TrI.bd {D : Nat → Nat → Int} {k z q : Nat} {nx le : Int} (h : TrI D k z q nx le) : inR le := by
  rcases h with ⟨a, _⟩ | ⟨a, _⟩
  · rw [a]; exact ⟨by decide, by decide⟩
  · exact ⟨by omega, by omega⟩
theorem tp24_L {M0 : Mem} {k z : Nat} {tw : Nat → Nat} (hT : TwM M0 k tw) (hk : 0 < k) (hD : DOK (Dt (coM M0) tw) k) (hz : z < 64) (x2 x3 : Int) : ∀ (m q n : Nat) (M : Mem) (nx le : Int), q + m = k * k → m < n → (∀ a, a ≠ 6 → M a = M0 a) → TrI (Dt (coM M0) tw) k z q nx le →
    ∃ (nx' le' : Int) (M' : Mem), fX6_treeOfPairs_L24 n M (z : Int) x2 x3 nx le (q : Int) = some (nx', le', M') ∧ (∀ a, a ≠ 6 → M' a = M0 a) ∧ TrI (Dt (coM M0) tw) k z (k * k) nx' le' := by
  intro m
  have k6 := hT.2.2.1
  have hc := hT.2.1
  have k36 := (kk7 k (by omega)).1
  have ekk : (k : Int) * (k : Int) = ((k * k : Nat) : Int) := (Int.natCast_mul k k).symm
  induction m with
  | zero =>
    intro q n M nx le h hn ha hI
    obtain ⟨n, rfl⟩ : ∃ k, n = k + 1 := ⟨n - 1, by omega⟩
    have e : q = k * k := by omega
    subst e
    refine ⟨nx, le, M, ?_, ha, hI⟩
    clear hI
    rw [fX6_treeOfPairs_L24, ha 101 (by decide), hc, ekk]
    exact w_gdR (by omega) (by omega) (w_gdR (by omega) (by omega) (w_t (Int.le_refl _) rfl))
  | succ m ih =>
    intro q n M nx le h hn ha hI
    obtain ⟨n, rfl⟩ : ∃ k, n = k + 1 := ⟨n - 1, by omega⟩
    have hq : q < k * k := by omega
    obtain ⟨d1, d2⟩ := dq1 k (by omega) q hq
    have ledR := hI.bd
    obtain ⟨hTM, ec⟩ := hT.keep ha
    have q36 : q < 36 := by omega
    have front : ∀ (t13 pr nx' le' : Int) (M1 : Mem) (r : Int × Int × Mem), (if (if z.testBit (q / k) = true then (1 : Int) else 0) = 1 then (if (if z.testBit (q % k) = true then (1 : Int) else 0) = 0 then some (1 : Int) else some 0) else some 0) = some t13 → inR t13 → (if t13 = 0 then (some ((1000000000 : Int), M)) else (Option.bind (fX6_apartFrom M (M 2 (q / k)) (M 2 (q % k))) (fun t20 => some (t20.1, t20.2)))) = some (pr, M1) → inR pr → nx' = (if le ≤ pr then nx else ((q % k : Nat) : Int)) → le' = (if le ≤ pr then le else pr) → fX6_treeOfPairs_L24 n M1 (z : Int) x2 x3 nx' le' ((q : Int) + 1) = some r → fX6_treeOfPairs_L24 (n + 1) M (z : Int) x2 x3 nx le (q : Int) = some r := by
      intro t13 pr nx' le' M1 r h1 h2 h3 h4 h5 h6 h7
      clear hI
      have g1 : (0 ≤ (q : Int) ∧ (q : Int) < 2147483648) ∧ 0 < (k : Int) ∧ (k : Int) < 2147483648 := ⟨⟨by omega, by omega⟩, by omega, by omega⟩
      rw [fX6_treeOfPairs_L24, ha 101 (by decide), hc, ekk, show (q : Int) / (k : Int) = ((q / k : Nat) : Int) from rfl, show (q : Int) % (k : Int) = ((q % k : Nat) : Int) from rfl, zbit z hz _ (by omega), zbit z hz _ (by omega)]
      refine w_gdR (by omega) (by omega) (w_gdR (by omega) (by omega) (w_f (by omega) (w_gd g1 (w_gd g1 (w_gdR (by split <;> omega) (by split <;> omega) (w_bind (t := t13) ?_ (w_gd h2 (w_bind (t := (pr, M1)) ?_ (w_gd h4 (w_gd ledR (w_bind (t := nx') ?_ (w_bind (t := le') ?_ h7))))))))))))
      · by_cases c : (if z.testBit (q / k) = true then (1 : Int) else 0) = 1
        · rw [if_pos c] at h1 ⊢
          exact w_gdR (by split <;> omega) (by split <;> omega) h1
        · rw [if_neg c] at h1 ⊢; exact h1
      · by_cases c : t13 = 0
        · rw [if_pos c] at h3 ⊢; exact h3
        · rw [if_neg c] at h3 ⊢
          refine w_gd ⟨Int.natCast_nonneg _, Int.ofNat_lt.mpr (Nat.lt_of_lt_of_le d1 k6)⟩ (w_gd ⟨Int.natCast_nonneg _, Int.ofNat_lt.mpr (Nat.lt_of_lt_of_le d2 k6)⟩ ?_)
          rw [Int.toNat_natCast, Int.toNat_natCast]
          exact h3
      · rw [h5]
        by_cases c : le ≤ pr
        · rw [if_pos c, if_pos c]
        · rw [if_neg c, if_neg c]
      · rw [h6]
        by_cases c : le ≤ pr
        · rw [if_pos c, if_pos c]
        · rw [if_neg c, if_neg c]
    have next : ∀ i, i < q + 1 → i < q ∨ i = q := fun i hi => by omega
    by_cases c : may z k q
    · obtain ⟨c1, c2⟩ := c
      obtain ⟨M1, p1, p2⟩ := hTM.ap d1 d2
      rw [ec] at p1
      have dd := hD _ d1 _ d2
      obtain ⟨nx', hnx⟩ : ∃ y, y = (if le ≤ Dt (coM M0) tw (q / k) (q % k) then nx else ((q % k : Nat) : Int)) := ⟨_, rfl⟩
      obtain ⟨le', hle⟩ : ∃ y, y = (if le ≤ Dt (coM M0) tw (q / k) (q % k) then le else Dt (coM M0) tw (q / k) (q % k)) := ⟨_, rfl⟩
      obtain ⟨a, b, M', g1, g2⟩ := ih (q + 1) n M1 nx' le' (by omega) (by omega) (fun x hx => by rw [p2 x hx, ha x hx]) (by
        right
        rcases hI with ⟨z1, z2⟩ | ⟨z1, z2, z3⟩
        · rw [if_neg (by omega)] at hnx hle
          refine ⟨by omega, ⟨q / k, q % k, d1, d2, hnx, c1, c2, hle⟩, fun i hi hm => ?_⟩
          rcases next i hi with y | y
          · exact absurd hm (z2 i y)
          · rw [y, hle]; exact Int.le_refl _
        · by_cases f : le ≤ Dt (coM M0) tw (q / k) (q % k)
          · rw [if_pos f] at hnx hle
            refine ⟨by rw [hle]; exact z1, by rw [hnx, hle]; exact z2, fun i hi hm => ?_⟩
            rcases next i hi with y | y
            · rw [hle]; exact z3 i y hm
            · rw [y, hle]; exact f
          · rw [if_neg f] at hnx hle
            refine ⟨by omega, ⟨q / k, q % k, d1, d2, hnx, c1, c2, hle⟩, fun i hi hm => ?_⟩
            rcases next i hi with y | y
            · have := z3 i y hm; omega
            · rw [y, hle]; exact Int.le_refl _)
      rw [show ((q + 1 : Nat) : Int) = (q : Int) + 1 by omega] at g1
      refine ⟨a, b, M', front 1 _ nx' le' M1 _ ?_ R1 (w_f N1 (w_bind p1 rfl)) ⟨by omega, by omega⟩ hnx hle g1, g2⟩
      rw [if_pos c1, if_pos rfl, if_neg c2, if_pos rfl]
    · obtain ⟨a, b, M', g1, g2⟩ := ih (q + 1) n M nx le (by omega) (by omega) ha (by
        rcases hI with ⟨z1, z2⟩ | ⟨z1, z2, z3⟩
        · refine Or.inl ⟨z1, fun i hi => ?_⟩
          rcases next i hi with y | y
          · exact z2 i y
          · rw [y]; exact c
        · refine Or.inr ⟨z1, z2, fun i hi hm => ?_⟩
          rcases next i hi with y | y
          · exact z3 i y hm
          · rw [y] at hm; exact absurd hm c)
      rw [show ((q + 1 : Nat) : Int) = (q : Int) + 1 by omega] at g1
      have le9 : le ≤ 1000000000 := by
        rcases hI with ⟨z1, _⟩ | ⟨z1, _⟩ <;> omega
      refine ⟨a, b, M', front 0 1000000000 nx le M _ ?_ R0 (w_t rfl rfl) ⟨by decide, by decide⟩ (by rw [if_pos le9]) (by rw [if_pos le9]) g1, g2⟩
      by_cases c1 : z.testBit (q / k) = true
      · have c2 : z.testBit (q % k) = true := Classical.byContradiction fun y => c ⟨c1, y⟩
        rw [if_pos c1, if_pos rfl, if_pos c2, if_neg N1]
      · rw [if_neg c1, if_neg (by decide)]
theorem tp6_L {M0 : Mem} {k : Nat} {tw : Nat → Nat} (hT : TwM M0 k tw) (h2 : 2 ≤ k) (hD : DOK (Dt (coM M0) tw) k) : ∀ (m s n z : Nat) (M : Mem) (sum : Int), s + m = k → m < n → 0 < s → z < 64 → z.testBit 0 = true → (∀ a, a ≠ 6 → M a = M0 a) → ss (fun i => if z.testBit i = true then 1 else 0) 0 k = (s : Int) → sum = Phi (Dt (coM M0) tw) k (fun i => z.testBit i = true) - Phi (Dt (coM M0) tw) k (fun i => i = 0) → (0 ≤ sum ∧ sum ≤ 590 * (s : Int)) →
    ∃ M', fX6_treeOfPairs_L6 n M (z : Int) sum (s : Int) = some (TreeS (Dt (coM M0) tw) k, M') ∧ (∀ a, a ≠ 6 → M' a = M0 a) := by
  intro m
  have k6 := hT.2.2.1
  have hc := hT.2.1
  have k36 := (kk7 k (by omega)).1
  induction m with
  | zero =>
    intro s n z M sum h hn hs hz hz0 ha hcnt hsum hb
    obtain ⟨n, rfl⟩ : ∃ k, n = k + 1 := ⟨n - 1, by omega⟩
    have all : ∀ i, i < k → z.testBit i = true := by
      have t := ss_tight (f := fun i => if z.testBit i = true then (1 : Int) else 0) (g := fun _ => 1) (m := k) (a := 0) (fun i _ _ => by show (if z.testBit i = true then (1 : Int) else 0) ≤ 1; split <;> decide) (by rw [hcnt, ss_ones]; omega)
      intro i hi
      have this : (if z.testBit i = true then (1 : Int) else 0) = 1 := t i (Nat.zero_le _) (by omega)
      by_cases c : z.testBit i = true
      · exact c
      · rw [if_neg c] at this; omega
    refine ⟨M, ?_, ha⟩
    have e : sum = TreeS (Dt (coM M0) tw) k := by
      rw [hsum]
      unfold TreeS
      rw [Phi_congr (J := fun i => z.testBit i = true) (J2 := fun _ => True) (fun i hi => ⟨fun _ => trivial, fun _ => all i hi⟩)]
    rw [fX6_treeOfPairs_L6, ha 101 (by decide), hc, e]
    exact w_gdR (by omega) (by omega) (w_gdR (by omega) (by omega) (w_t (by omega) rfl))
  | succ m ih =>
    intro s n z M sum h hn hs hz hz0 ha hcnt hsum hb
    obtain ⟨n, rfl⟩ : ∃ k, n = k + 1 := ⟨n - 1, by omega⟩
    have out : ∃ o, o < k ∧ ¬ z.testBit o = true := Classical.byContradiction fun q => by
      rw [ss_congr (g := fun _ => (1 : Int)) k 0 (fun i _ hi => if_pos (Classical.byContradiction fun y => q ⟨i, by omega, y⟩)), ss_ones] at hcnt
      omega
    obtain ⟨nx, le, M1, g1, g2, g3⟩ := tp24_L hT (by omega) hD hz sum (s : Int) (k * k) 0 FU M (-1) 1000000000 (by omega) (by have := FU_big; omega) ha (Or.inl ⟨rfl, fun i hi => absurd hi (by omega)⟩)
    obtain ⟨o, o1, o2⟩ := out
    have d2 := dq2 k (by omega) 0 (by omega) o o1
    have mo : may z k (0 * k + o) := by
      unfold may
      rw [d2.2.1, d2.2.2]
      exact ⟨hz0, o2⟩
    rcases g3 with ⟨_, q2⟩ | ⟨q1, ⟨j, x, j1, x1, q2, j2, x2, q3⟩, q4⟩
    · exact absurd mo (q2 _ d2.1)
    · have st := Phi_step (J := fun i => z.testBit i = true) (fun i hi j hj => (hD i hi j hj).1) x1 x2 j1 j2 q3 (by omega) (fun a ha1 ha2 b hb1 hb2 => by
        have d3 := dq2 k (by omega) a ha1 b hb1
        have := q4 _ d3.1 (by unfold may; rw [d3.2.1, d3.2.2]; exact ⟨ha2, hb2⟩)
        rw [d3.2.1, d3.2.2] at this
        exact this)
      have zn := zorN z (by omega) x (by omega)
      have z64 := zor64 z hz x (by omega)
      obtain ⟨M', k1, k2⟩ := ih (s + 1) n (z ||| 2 ^ x) M1 (sum + le) (by omega) (by omega) (by omega) z64 (zorT.mpr (Or.inl hz0)) g2 (by
        have e : ∀ i, i < k → (if (z ||| 2 ^ x).testBit i = true then (1 : Int) else 0) = (if z.testBit i = true then 1 else 0) + (if i = x then 1 else 0) := by
          intro i _
          by_cases c : i = x
          · have c2 : ¬ z.testBit i = true := by rw [c]; exact x2
            rw [if_pos c, if_neg c2, if_pos (zorT.mpr (Or.inr c.symm))]; rfl
          · by_cases d : z.testBit i = true
            · rw [if_neg c, if_pos d, if_pos (zorT.mpr (Or.inl d))]; rfl
            · rw [if_neg c, if_neg d, if_neg (fun y => (zorT.mp y).elim d (fun w => c w.symm))]; rfl
        rw [ss_congr (g := fun i => (if z.testBit i = true then 1 else 0) + (if i = x then 1 else 0)) k 0 (fun i _ hi => e i (by omega)), ss_add (fun i => if z.testBit i = true then 1 else 0) (fun i => if i = x then 1 else 0), hcnt, ss_one 1 (Nat.zero_le _) (by omega)]
        omega) (by
        rw [Phi_congr (J := fun i => (z ||| 2 ^ x).testBit i = true) (J2 := fun i => z.testBit i = true ∨ i = x) (fun i _ => zorT.trans ⟨fun y => y.imp id Eq.symm, fun y => y.imp id Eq.symm⟩), st]
        omega) (by omega)
      refine ⟨M', ?_, k2⟩
      rw [fX6_treeOfPairs_L6, ha 101 (by decide), hc]
      refine w_gdR (by omega) (by omega) (w_gdR (by omega) (by omega) (w_f (by omega) (w_bind g1 ?_)))
      show fX6_treeOfPairs_L6 n M1 (zor (z : Int) (zshl 1 nx)) (sum + le) ((s : Int) + 1) = _
      rw [q2, zn.1, show (s : Int) + 1 = ((s + 1 : Nat) : Int) by omega]
      exact k1
theorem tpM {M0 : Mem} {k : Nat} {tw : Nat → Nat} (hT : TwM M0 k tw) (h2 : 2 ≤ k) (hD : DOK (Dt (coM M0) tw) k) : ∃ M', fX6_treeOfPairs M0 = some (TreeS (Dt (coM M0) tw) k, M') ∧ ∀ a, a ≠ 6 → M' a = M0 a := by
  have k6 := hT.2.2.1
  have t1 : ∀ i : Nat, Nat.testBit 1 i = true ↔ i = 0 := fun i => by
    have := Nat.testBit_two_pow (n := 0) (m := i)
    rw [Nat.pow_zero] at this
    rw [this]
    simp [eq_comm]
  obtain ⟨M', g1, g2⟩ := tp6_L hT h2 hD (k - 1) 1 FU 1 M0 0 (by omega) (by have := FU_big; omega) (by omega) (by omega) ((t1 0).mpr rfl) (fun _ _ => rfl) (by
    rw [ss_congr (g := fun i => if i = 0 then (1 : Int) else 0) k 0 (fun i _ hi => by
      have := t1 i
      by_cases c : i = 0
      · rw [if_pos c, if_pos (this.mpr c)]
      · rw [if_neg c, if_neg (fun q => c (this.mp q))]), ss_one 1 (Nat.zero_le _) (by omega)]
    rfl) (by
    rw [Phi_congr (J := fun i => Nat.testBit 1 i = true) (J2 := fun i => i = 0) (fun i _ => t1 i)]
    omega) (by omega)
  refine ⟨M', ?_, g2⟩
  unfold fX6_treeOfPairs
  exact w_bind g1 rfl
theorem bn23_L {M0 : Mem} {k : Nat} {tw : Nat → Nat} (hT : TwM M0 k tw) (hD : DOK (Dt (coM M0) tw) k) : ∀ (m q n : Nat) (M : Mem) (x : Int), q + m = k * k * k → m < n → (∀ a, a ≠ 6 → M a = M0 a) → (0 ≤ x ∧ x ≤ 10000) →
    ∃ (r : Int) (M' : Mem), fX6_boundNow_L23 n M x (q : Int) = some (r, M') ∧ (∀ a, a ≠ 6 → M' a = M0 a) ∧ (0 ≤ r ∧ r ≤ 10000) ∧ ∀ X, r ≤ X ↔ (x ≤ X ∧ ∀ i, q ≤ i → i < k * k * k → Dt (coM M0) tw (i % k) (i / k % k) ≤ X ∧ (Dt (coM M0) tw (i % k) (i / k % k) + Dt (coM M0) tw (i / k % k) (i / k / k) + Dt (coM M0) tw (i / k / k) (i % k) + 1) / 2 ≤ X) := by
  intro m
  have k6 := hT.2.2.1
  have hc := hT.2.1
  have k216 := (kk7 k (by omega)).2
  have ekk : (k : Int) * (k : Int) * (k : Int) = ((k * k * k : Nat) : Int) := by rw [Int.natCast_mul, Int.natCast_mul]
  induction m with
  | zero =>
    intro q n M x h hn ha hx
    obtain ⟨n, rfl⟩ : ∃ k, n = k + 1 := ⟨n - 1, by omega⟩
    refine ⟨x, M, ?_, ha, hx, fun X => ⟨fun z => ⟨z, fun i i1 i2 => absurd i2 (by omega)⟩, fun z => z.1⟩⟩
    rw [fX6_boundNow_L23, ha 101 (by decide), hc, ekk]
    exact w_gdR (by omega) (by omega) (w_gdR (by omega) (by omega) (w_t (by omega) rfl))
  | succ m ih =>
    intro q n M x h hn ha hx
    obtain ⟨n, rfl⟩ : ∃ k, n = k + 1 := ⟨n - 1, by omega⟩
    have hq : q < k * k * k := by omega
    obtain ⟨d1, d2, d3⟩ := dq3 k (by omega) q hq
    have kpos : 0 < k := by omega
    obtain ⟨hT1, c1⟩ := hT.keep ha
    obtain ⟨M1, p1, p2⟩ := hT1.ap d1 d2
    have ha1 : ∀ a, a ≠ 6 → M1 a = M0 a := fun a h6 => by rw [p2 a h6, ha a h6]
    obtain ⟨hT2, c2⟩ := hT.keep ha1
    obtain ⟨M2, q1, q2⟩ := hT2.ap d2 d3
    have ha2 : ∀ a, a ≠ 6 → M2 a = M0 a := fun a h6 => by rw [q2 a h6, ha1 a h6]
    obtain ⟨hT3, c3⟩ := hT.keep ha2
    obtain ⟨M3, r1, r2⟩ := hT3.ap d3 d1
    have ha3 : ∀ a, a ≠ 6 → M3 a = M0 a := fun a h6 => by rw [r2 a h6, ha2 a h6]
    rw [c1] at p1
    rw [c2] at q1
    rw [c3] at r1
    rw [p2 2 (by decide)] at q1
    rw [q2 2 (by decide), p2 2 (by decide)] at r1
    obtain ⟨A, hA⟩ : ∃ A, A = Dt (coM M0) tw (q % k) (q / k % k) := ⟨_, rfl⟩
    obtain ⟨B, hB⟩ : ∃ B, B = Dt (coM M0) tw (q / k % k) (q / k / k) := ⟨_, rfl⟩
    obtain ⟨C, hC⟩ : ∃ C, C = Dt (coM M0) tw (q / k / k) (q % k) := ⟨_, rfl⟩
    have bA := (hD _ d1 _ d2).2.1
    have bB := (hD _ d2 _ d3).2.1
    have bC := (hD _ d3 _ d1).2.1
    rw [← hA] at p1 bA
    rw [← hB] at q1 bB
    rw [← hC] at r1 bC
    have y1 := mx_ub x A
    have e1 : mx x A = if A ≤ x then x else A := by unfold mx; split <;> split <;> omega
    have y2 := mx_ub (mx x A) ((A + B + C + 1) / 2)
    have e2 : mx (mx x A) ((A + B + C + 1) / 2) = if (A + B + C + 1) / 2 ≤ mx x A then mx x A else (A + B + C + 1) / 2 := by
      generalize mx x A = w
      unfold mx; split <;> split <;> omega
    obtain ⟨r, M', g1, g2, g3, g4⟩ := ih (q + 1) n M3 (mx (mx x A) ((A + B + C + 1) / 2)) (by omega) (by omega) ha3 (by omega)
    refine ⟨r, M', ?_, g2, g3, fun X => (g4 X).trans ⟨fun z => ⟨by omega, fun i i1 i2 => ?_⟩, fun z => ⟨?_, fun i i1 i2 => z.2 i (by omega) i2⟩⟩⟩
    · clear g4
      have w1 : (0 ≤ (q : Int) ∧ (q : Int) < 2147483648) ∧ 0 < (k : Int) ∧ (k : Int) < 2147483648 := ⟨⟨by omega, by omega⟩, by omega, by omega⟩
      have qk : q / k ≤ q := Nat.div_le_self q k
      have w2 : (0 ≤ ((q / k : Nat) : Int) ∧ ((q / k : Nat) : Int) < 2147483648) ∧ 0 < (k : Int) ∧ (k : Int) < 2147483648 := ⟨⟨Int.natCast_nonneg _, Int.lt_of_le_of_lt (Int.ofNat_le.mpr qk) (by omega)⟩, by omega, by omega⟩
      rw [fX6_boundNow_L23, ha 101 (by decide), hc, ekk, show (q : Int) / (k : Int) = ((q / k : Nat) : Int) from rfl, show (q : Int) % (k : Int) = ((q % k : Nat) : Int) from rfl, show ((q / k : Nat) : Int) / (k : Int) = ((q / k / k : Nat) : Int) from rfl, show ((q / k : Nat) : Int) % (k : Int) = ((q / k % k : Nat) : Int) from rfl]
      refine w_gdR (by omega) (by omega) (w_gdR (by omega) (by omega) (w_f (by omega) (w_gd w1 (w_gd ⟨Int.natCast_nonneg _, Int.ofNat_lt.mpr (by omega)⟩ (w_gd w1 (w_gd w2 (w_gd ⟨Int.natCast_nonneg _, Int.ofNat_lt.mpr (by omega)⟩ (w_gd w1 (w_gd w2 (w_gd ⟨Int.natCast_nonneg _, Int.ofNat_lt.mpr (by omega)⟩ ?_))))))))))
      rw [Int.toNat_natCast, Int.toNat_natCast, Int.toNat_natCast]
      refine w_bind p1 (w_bind q1 (w_bind r1 (w_gd ⟨by omega, by omega⟩ (w_gdR (by omega) (by omega) (w_gdR (by omega) (by omega) (w_bind (t := mx x A) ?_ (w_gdR (by omega) (by omega) (w_gdR (by omega) (by omega) (w_bind (t := mx (mx x A) ((A + B + C + 1) / 2)) ?_ ?_)))))))))
      · rw [e1]
        by_cases f : A ≤ x
        · exact Eq.trans (w_t f rfl) (congrArg some (by rw [if_pos f]))
        · exact Eq.trans (w_f f rfl) (congrArg some (by rw [if_neg f]))
      · rw [e2]
        by_cases f : (A + B + C + 1) / 2 ≤ mx x A
        · exact Eq.trans (w_t f rfl) (congrArg some (by rw [if_pos f]))
        · exact Eq.trans (w_f f rfl) (congrArg some (by rw [if_neg f]))
      · rw [show (q : Int) + 1 = ((q + 1 : Nat) : Int) by omega]
        exact g1
    · by_cases e : i = q
      · rw [e, ← hA, ← hB, ← hC]; omega
      · exact z.2 i (by omega) i2
    · have := z.2 q (Nat.le_refl _) hq
      rw [← hA, ← hB, ← hC] at this
      have := z.1
      omega
theorem bnM {M0 : Mem} {k : Nat} {tw : Nat → Nat} (hT : TwM M0 k tw) (hD : DOK (Dt (coM M0) tw) k) : ∃ (r : Int) (M' : Mem), fX6_boundNow M0 = some (r, M') ∧ (∀ a, a ≠ 6 → M' a = M0 a) ∧ (0 ≤ r ∧ r ≤ 10000) ∧ ∀ X, r ≤ X ↔ ((if k < 2 then 0 else (TreeS (Dt (coM M0) tw) k + 1) / 2) ≤ X ∧ ∀ i, i < k → ∀ j, j < k → ∀ l, l < k → Dt (coM M0) tw i j ≤ X ∧ (Dt (coM M0) tw i j + Dt (coM M0) tw j l + Dt (coM M0) tw l i + 1) / 2 ≤ X) := by
  have k6 := hT.2.2.1
  have hc := hT.2.1
  have k216 := (kk7 k (by omega)).2
  have conv : ∀ X, (∀ i, 0 ≤ i → i < k * k * k → Dt (coM M0) tw (i % k) (i / k % k) ≤ X ∧ (Dt (coM M0) tw (i % k) (i / k % k) + Dt (coM M0) tw (i / k % k) (i / k / k) + Dt (coM M0) tw (i / k / k) (i % k) + 1) / 2 ≤ X) ↔ ∀ i, i < k → ∀ j, j < k → ∀ l, l < k → Dt (coM M0) tw i j ≤ X ∧ (Dt (coM M0) tw i j + Dt (coM M0) tw j l + Dt (coM M0) tw l i + 1) / 2 ≤ X := fun X => by
    constructor
    · intro z i hi j hj l hl
      obtain ⟨a, b, c, d⟩ := dq4 k (by omega) i hi j hj l hl
      have := z _ (Nat.zero_le _) a
      rw [b, c, d] at this
      exact this
    · intro z i _ hi
      obtain ⟨a, b, c⟩ := dq3 k (by omega) i hi
      exact z _ a _ b _ c
  by_cases c : k < 2
  · obtain ⟨r, M', g1, g2, g3, g4⟩ := bn23_L hT hD (k * k * k) 0 FU M0 0 (by omega) (by have := FU_big; omega) (fun _ _ => rfl) (by omega)
    refine ⟨r, M', ?_, g2, g3, fun X => ?_⟩
    · clear g4
      unfold fX6_boundNow
      rw [hc]
      exact w_gdR (by omega) (by omega) (w_bind (t := (0, M0)) (w_f (by omega) rfl) (w_bind g1 rfl))
    · rw [if_pos c, g4 X, conv X]
  · obtain ⟨M1, t1, t2⟩ := tpM hT (by omega) hD
    obtain ⟨hT1, ec⟩ := hT.keep t2
    have tb : 0 ≤ TreeS (Dt (coM M0) tw) k ∧ TreeS (Dt (coM M0) tw) k ≤ 3540 := by
      -- the class's run of the same table tells it
      have hDk := hD
      have hP : ∃ sum, sum = TreeS (Dt (coM M0) tw) k ∧ 0 ≤ sum ∧ sum ≤ 590 * (k : Int) := by
        let M9 : Mem := fun a j => if a = 102 then (k : Int) else if a = 7 then (tw j : Int) else if a = 9 then dsF (coM M0) (tw (j / 36)) (j % 36) else 0
        have hM9 : MTw M9 k (coM M0) tw := by
          refine ⟨rfl, by omega, fun i hi => ⟨rfl, (hT.2.2.2 i hi).2⟩, fun i hi v hv => ?_⟩
          show dsF (coM M0) (tw ((36 * i + v) / 36)) ((36 * i + v) % 36) = dsF (coM M0) (tw i) v
          rw [show (36 * i + v) / 36 = i by omega, show (36 * i + v) % 36 = v by omega]
        obtain ⟨_, _, _, b1, b2⟩ := cpC hM9 hDk (by omega)
        exact ⟨_, rfl, b1, b2⟩
      obtain ⟨sum, s1, s2, s3⟩ := hP
      rw [← s1]
      omega
    obtain ⟨r, M', g1, g2, g3, g4⟩ := bn23_L hT1 (by rw [ec]; exact hD) (k * k * k) 0 FU M1 ((TreeS (Dt (coM M0) tw) k + 1) / 2) (by omega) (by have := FU_big; omega) (fun _ _ => rfl) (by omega)
    rw [ec] at g4
    refine ⟨r, M', ?_, fun a h6 => by rw [g2 a h6, t2 a h6], g3, fun X => ?_⟩
    · clear g4
      unfold fX6_boundNow
      rw [hc]
      exact w_gdR (by omega) (by omega) (w_bind (w_t (by omega) (w_bind t1 (w_gd ⟨by omega, by omega⟩ rfl))) (w_bind g1 rfl))
    · rw [if_neg c, g4 X, conv X]
/-- the bound, the same on both sides -/
theorem boundJ {Mc Mm : Mem} (h : Rl Mc Mm) : ∃ (r : Int) (C M : Mem), fX3_lowerBound Mc = some (r, C) ∧ fX6_boundNow Mm = some (r, M) ∧ (0 ≤ r ∧ r ≤ 10000) ∧ M 100 = Mm 100 ∧ Rl C M := by
  obtain ⟨w1, w2, w3, w4⟩ := h.2.2.2.2.1
  obtain ⟨k, hk⟩ : ∃ k : Nat, Mc 102 0 = (k : Int) := ⟨(Mc 102 0).toNat, by omega⟩
  have htw : ∀ i, i < k → Mc 7 i = ((Mc 7 i).toNat : Int) ∧ (Mc 7 i).toNat < 36 := fun i hi => by
    have := w3 i (by omega)
    omega
  have hT : TwM Mm k (fun i => (Mc 7 i).toNat) := by
    refine ⟨h.2.1, by rw [w1]; exact hk, by omega, fun i hi => ?_⟩
    have y1 := w3 i (by omega)
    have y2 := htw i hi
    show Mm 2 i = ((Mc 7 i).toNat : Int) ∧ (Mc 7 i).toNat < 36
    omega
  have hinj : ∀ i, i < k → ∀ j, j < k → (Mc 7 i).toNat = (Mc 7 j).toNat → i = j := fun i hi j hj e => by
    have a := htw i hi
    have b := htw j hj
    exact w4 i j (by omega) (by omega) (by rw [a.1, b.1, e])
  have hD := Dt_ok (p := coM Mm) (tw := fun i => (Mc 7 i).toNat) (k := k) (fun e he => coM_bd h.2.1 he) (fun i hi => (htw i hi).2) hinj
  obtain ⟨r, M, a1, a2, a3, a4⟩ := bnM hT hD
  have hRM : Rl Mc M := h.keep (fun _ _ => rfl) (fun a ha => a2 a (by intro q; subst q; revert ha; decide))
  by_cases c : k < 2
  · have r0 : r = 0 := by
      have le : r ≤ 0 := (a4 0).mpr ⟨by rw [if_pos c]; exact Int.le_refl _, fun i hi j hj l hl => by
        have e1 : i = j := by omega
        have e2 : j = l := by omega
        have d1 := (hD i hi j hj).2.2.1 e1
        have d2 := (hD j hj l hl).2.2.1 e2
        have d3 := (hD l hl i hi).2.2.1 (by omega)
        omega⟩
      omega
    refine ⟨r, Mc, M, ?_, a1, a3, a2 100 (by decide), hRM⟩
    rw [r0]
    unfold fX3_lowerBound
    exact w_gdR (by omega) (by omega) (w_f (by omega) rfl)
  · have ce : ∀ e, e < 60 → Mc 4 e = coM Mm e := fun e he => (h.2.2.2.1 e he).2
    obtain ⟨s, C, b1, b2, b3, b4⟩ := lbC h.1 (k := k) (by omega) (by omega) hk htw hinj
    have eD : ∀ i, i < k → ∀ j, j < k → Dt (Mc 4) (fun i => (Mc 7 i).toNat) i j = Dt (coM Mm) (fun i => (Mc 7 i).toNat) i j := fun i hi j hj => dsF_congr h.1.PR h.2.1.PR ce (htw i hi).2 (htw j hj).2
    have eT : TreeS (Dt (Mc 4) (fun i => (Mc 7 i).toNat)) k = TreeS (Dt (coM Mm) (fun i => (Mc 7 i).toNat)) k := by
      have eE : ∀ th i j, i < k → (Er (Dt (Mc 4) (fun i => (Mc 7 i).toNat)) k th i j ↔ Er (Dt (coM Mm) (fun i => (Mc 7 i).toNat)) k th i j) := fun th i j _ => by
        have cl : ∀ J : Nat → Prop, Ecl (Dt (Mc 4) (fun i => (Mc 7 i).toNat)) k th J ↔ Ecl (Dt (coM Mm) (fun i => (Mc 7 i).toNat)) k th J := fun J =>
          ⟨fun z a ha b hb x y => z a ha b hb x (by rw [eD a ha b hb]; exact y), fun z a ha b hb x y => z a ha b hb x (by rw [← eD a ha b hb]; exact y)⟩
        exact ⟨fun z J hJ => z J ((cl J).mpr hJ), fun z J hJ => z J ((cl J).mp hJ)⟩
      have eP : ∀ J, Phi (Dt (Mc 4) (fun i => (Mc 7 i).toNat)) k J = Phi (Dt (coM Mm) (fun i => (Mc 7 i).toNat)) k J := fun J => by
        unfold Phi tc
        refine ss_congr 1000 1 (fun th _ _ => ss_congr k 0 (fun i _ hi => ind_iff ?_))
        have hi : i < k := by omega
        unfold rep tch
        exact ⟨fun ⟨a, j, j1, j2, j3⟩ => ⟨fun x hx y => a x hx ((eE _ i x hi).mpr y), j, j1, j2, (eE _ j i j1).mp j3⟩, fun ⟨a, j, j1, j2, j3⟩ => ⟨fun x hx y => a x hx ((eE _ i x hi).mp y), j, j1, j2, (eE _ j i j1).mpr j3⟩⟩
      unfold TreeS
      rw [eP, eP]
    have same : ∀ X, s ≤ X ↔ r ≤ X := fun X => by
      rw [b4 X, a4 X, if_neg c, eT]
      constructor
      · rintro ⟨z1, ⟨z0, z2⟩, z3⟩
        have pr : ∀ i, i < k → ∀ j, j < k → Dt (coM Mm) (fun i => (Mc 7 i).toNat) i j ≤ X := fun i hi j hj => by
          have d := hD i hi j hj
          rcases Nat.lt_trichotomy i j with q | q | q
          · have := z2 i hi j hj q
            rw [eD i hi j hj] at this
            exact this
          · have := d.2.2.1 q
            omega
          · have := z2 j hj i hi q
            rw [eD j hj i hi] at this
            omega
        have tr : ∀ i, i < k → ∀ j, j < k → ∀ l, l < k → i < j → j < l → (Dt (coM Mm) (fun i => (Mc 7 i).toNat) i j + Dt (coM Mm) (fun i => (Mc 7 i).toNat) i l + Dt (coM Mm) (fun i => (Mc 7 i).toNat) j l + 1) / 2 ≤ X := fun i hi j hj l hl q1 q2 => by
          have := z3 i hi j hj l hl q1 q2
          rw [eD i hi j hj, eD i hi l hl, eD j hj l hl] at this
          exact this
        refine ⟨z1, fun i hi j hj l hl => ⟨pr i hi j hj, ?_⟩⟩
        have pij := pr i hi j hj
        have pjl := pr j hj l hl
        have pil := pr i hi l hl
        have sij := (hD i hi j hj).1
        have sjl := (hD j hj l hl).1
        have sil := (hD i hi l hl).1
        have t1 := tr i hi j hj l hl
        have t2 := tr i hi l hl j hj
        have t3 := tr j hj i hi l hl
        have t4 := tr j hj l hl i hi
        have t5 := tr l hl i hi j hj
        have t6 := tr l hl j hj i hi
        rcases Nat.lt_trichotomy i j with q1 | q1 | q1
        · rcases Nat.lt_trichotomy j l with q2 | q2 | q2
          · have := t1 q1 q2; omega
          · have := (hD j hj l hl).2.2.1 q2
            rw [← q2] at pil sil ⊢
            rw [← q2] at this
            omega
          · rcases Nat.lt_trichotomy i l with q3 | q3 | q3
            · have := t2 q3 q2; omega
            · have := (hD l hl i hi).2.2.1 q3.symm
              rw [← q3] at this ⊢
              omega
            · have := t5 q3 q1; omega
        · have := (hD i hi j hj).2.2.1 q1
          rw [← q1] at this ⊢
          omega
        · rcases Nat.lt_trichotomy i l with q2 | q2 | q2
          · have := t3 q1 q2; omega
          · have := (hD l hl i hi).2.2.1 q2.symm
            rw [← q2] at this ⊢
            omega
          · rcases Nat.lt_trichotomy j l with q3 | q3 | q3
            · have := t4 q3 q2; omega
            · have := (hD j hj l hl).2.2.1 q3
              rw [← q3] at this ⊢
              omega
            · have := t6 q3 q1; omega
      · rintro ⟨z1, z2⟩
        refine ⟨z1, ⟨?_, fun i hi j hj _ => ?_⟩, fun i hi j hj l hl _ _ => ?_⟩
        · have := (z2 0 (by omega) 0 (by omega) 0 (by omega)).1
          have := (hD 0 (by omega) 0 (by omega)).2.2.1 rfl
          omega
        · rw [eD i hi j hj]
          exact (z2 i hi j hj j hj).1
        · rw [eD i hi j hj, eD i hi l hl, eD j hj l hl]
          have := (z2 i hi j hj l hl).2
          have s1 := (hD l hl i hi).1
          omega
    have rs : s = r := Int.le_antisymm ((same r).mpr (Int.le_refl _)) ((same s).mp (Int.le_refl _))
    refine ⟨r, C, M, by rw [← rs]; exact b1, a1, a3, a2 100 (by decide), hRM.keep (fun a ha => b2 a (by intro q; subst q; revert ha; decide) (by intro q; subst q; revert ha; decide)) (fun _ _ => rfl)⟩
theorem F_bound : Fc_bound Rl := by
  intro Mc Mm hR
  obtain ⟨r, C, M, h1, h2, h3, h4, h5⟩ := boundJ (hR.thr 0)
  refine ⟨(r, C), (r, M), ?_, ?_, rfl, ⟨by omega, by omega⟩, h5⟩
  · unfold fX5_bound
    exact w_bind h1 rfl
  · unfold fX6_bound
    exact w_bind h2 rfl
theorem F_gap : Fc_gap Rl := by
  intro Mc Mm hR
  obtain ⟨l, C1, M1, h1, h2, h3, h4, h5, _⟩ := leastJ (hR.thr 0)
  obtain ⟨r, C2, M2, g1, g2, g3, g4, g5⟩ := boundJ h5
  refine ⟨(l - r, C2), (l - r, M2), ?_, ?_, rfl, ⟨by omega, by omega⟩, g5⟩
  · unfold fX5_gap
    exact w_bind h1 (w_bind g1 rfl)
  · unfold fX6_gap
    exact w_bind h2 (w_bind g2 rfl)
