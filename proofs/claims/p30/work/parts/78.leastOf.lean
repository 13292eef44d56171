/-! the reference: the least net of so many ends; least on both sides -/
theorem zandc : ∀ a : Nat, a < 128 → ∀ b : Nat, b < 128 → zand (a : Int) (zxor (b : Int) (-1)) = ((a &&& (127 - b) : Nat) : Int) ∧ (a &&& (127 - b) = 0 ↔ a &&& b = a) := by decide +kernel
def inM (k W : Nat) (en : Nat → Int) (v : Nat) : Prop := ∃ j, j < k ∧ W = 2 ^ j ∧ en j = (v : Int)
theorem l31_L {M : Mem} {k W v : Nat} (hk : k ≤ 7) (hv : v < 36) (hW : W < 128) (he : ∀ i, i < k → inR (M 7 i)) : ∀ (m j n : Nat) (x : Int), j + m = k → m < n → ((x = 0 ∧ inM j W (M 7) v) ∨ (x = 1000000000 ∧ ¬ inM j W (M 7) v)) →
    ∃ r, fX6_leastOf_L31 n M (k : Int) (W : Int) (v : Int) x (j : Int) = some r ∧ ((r = 0 ∧ inM k W (M 7) v) ∨ (r = 1000000000 ∧ ¬ inM k W (M 7) v)) := by
  intro m
  induction m with
  | zero =>
    intro j n x h hn hx
    obtain ⟨n, rfl⟩ : ∃ k, n = k + 1 := ⟨n - 1, by omega⟩
    have e : j = k := by omega
    subst e
    refine ⟨x, ?_, hx⟩
    clear hx
    rw [fX6_leastOf_L31]
    exact w_gdR (by omega) (by omega) (w_gdR (by omega) (by omega) (w_t (by omega) rfl))
  | succ m ih =>
    intro j n x h hn hx
    obtain ⟨n, rfl⟩ : ∃ k, n = k + 1 := ⟨n - 1, by omega⟩
    have hj : j < k := by omega
    have pj := (pow7 j (by omega)).1
    have pjR : inR ((2 ^ j : Nat) : Int) := ⟨Int.le_trans (by decide) (Int.natCast_nonneg _), Int.lt_of_le_of_lt (Int.ofNat_le.mpr pj) (by decide)⟩
    have hej := he j hj
    have key : ∃ y, (if (W : Int) = ((2 ^ j : Nat) : Int) then (gd (inB (j : Int) 7) (gd (inR (M 7 j)) (gd (inR (v : Int)) (if M 7 j = (v : Int) then (some 0) else (some x))))) else (some x)) = some y ∧ ((y = 0 ∧ inM (j + 1) W (M 7) v) ∨ (y = 1000000000 ∧ ¬ inM (j + 1) W (M 7) v)) := by
      have old : ¬ (W = 2 ^ j ∧ M 7 j = (v : Int)) → ((x = 0 ∧ inM (j + 1) W (M 7) v) ∨ (x = 1000000000 ∧ ¬ inM (j + 1) W (M 7) v)) := fun z => by
        rcases hx with ⟨q1, i, i1, i2⟩ | ⟨q1, q2⟩
        · exact Or.inl ⟨q1, i, by omega, i2⟩
        · refine Or.inr ⟨q1, fun ⟨i, i1, i2⟩ => ?_⟩
          by_cases e : i = j
          · rw [e] at i2; exact z i2
          · exact q2 ⟨i, by omega, i2⟩
      clear hx
      by_cases c : W = 2 ^ j
      · by_cases d : M 7 j = (v : Int)
        · exact ⟨0, w_t (by omega) (w_gdB (by omega) (by omega) (w_gd hej (w_gdR (by omega) (by omega) (w_t d rfl)))), Or.inl ⟨rfl, j, by omega, c, d⟩⟩
        · exact ⟨x, w_t (by omega) (w_gdB (by omega) (by omega) (w_gd hej (w_gdR (by omega) (by omega) (w_f d rfl)))), old (fun z => d z.2)⟩
      · exact ⟨x, w_f (by omega) rfl, old (fun z => c z.1)⟩
    clear hx
    obtain ⟨y, k1, k2⟩ := key
    obtain ⟨r, g1, g2⟩ := ih (j + 1) n y (by omega) (by omega) k2
    refine ⟨r, ?_, g2⟩
    clear k2 g2
    rw [fX6_leastOf_L31, zshlP j (by omega)]
    refine w_gdR (by omega) (by omega) (w_gdR (by omega) (by omega) (w_f (by omega) (w_gdR (by omega) (by omega) (w_gd pjR ?_))))
    rw [Int.toNat_natCast]
    refine w_bind k1 ?_
    rw [show (j : Int) + 1 = ((j + 1 : Nat) : Int) by omega]
    exact g1
theorem l73_L {M : Mem} {W v : Nat} (hW : W < 128) (hv : v < 36) (hb : ∀ S, 0 < S → S < W → 0 ≤ M 8 (36 * S + v) ∧ M 8 (36 * S + v) ≤ 1000000) {X : Int} (hX : 0 ≤ X ∧ X ≤ 1000000000) (x1 : Int) : ∀ (m q n : Nat) (x : Int), q + m = W → m < n → 0 < q → (0 ≤ x ∧ x ≤ X) → (∀ S, 0 < S → S < q → S &&& W = S → x ≤ M 8 (36 * S + v) + M 8 (36 * (W - S) + v)) → (∀ z, z ≤ X → (∀ S, 0 < S → S < W → S &&& W = S → z ≤ M 8 (36 * S + v) + M 8 (36 * (W - S) + v)) → z ≤ x) →
    ∃ r, fX6_leastOf_L73 n M x1 (W : Int) (v : Int) x (q : Int) = some r ∧ (0 ≤ r ∧ r ≤ X) ∧ (∀ S, 0 < S → S < W → S &&& W = S → r ≤ M 8 (36 * S + v) + M 8 (36 * (W - S) + v)) ∧ (∀ z, z ≤ X → (∀ S, 0 < S → S < W → S &&& W = S → z ≤ M 8 (36 * S + v) + M 8 (36 * (W - S) + v)) → z ≤ r) := by
  intro m
  induction m with
  | zero =>
    intro q n x h hn hq hx h1 h2
    obtain ⟨n, rfl⟩ : ∃ k, n = k + 1 := ⟨n - 1, by omega⟩
    have e : q = W := by omega
    subst e
    refine ⟨x, ?_, hx, h1, h2⟩
    rw [fX6_leastOf_L73]
    exact w_gdR (by omega) (by omega) (w_gdR (by omega) (by omega) (w_t (by omega) rfl))
  | succ m ih =>
    intro q n x h hn hq hx h1 h2
    obtain ⟨n, rfl⟩ : ∃ k, n = k + 1 := ⟨n - 1, by omega⟩
    have hqW : q < W := by omega
    have za := zandc q (by omega) W hW
    have an : q &&& (127 - W) ≤ q := Nat.and_le_left
    by_cases c : q &&& W = q
    · have b1 := hb q hq hqW
      have b2 := hb (W - q) (by omega) (by omega)
      obtain ⟨y, hy⟩ : ∃ y, y = if x ≤ M 8 (36 * q + v) + M 8 (36 * (W - q) + v) then x else M 8 (36 * q + v) + M 8 (36 * (W - q) + v) := ⟨_, rfl⟩
      have yb : y ≤ x ∧ y ≤ M 8 (36 * q + v) + M 8 (36 * (W - q) + v) ∧ 0 ≤ y ∧ (y = x ∨ y = M 8 (36 * q + v) + M 8 (36 * (W - q) + v)) := by rw [hy]; split <;> omega
      obtain ⟨r, g1, g2⟩ := ih (q + 1) n y (by omega) (by omega) (by omega) (by omega) (fun S s1 s2 s3 => by
        by_cases e : S = q
        · rw [e]; omega
        · have := h1 S s1 (by omega) s3; omega) (fun z z1 z2 => by
        have a := h2 z z1 z2
        have b := z2 q hq hqW c
        omega)
      refine ⟨r, ?_, g2⟩
      rw [fX6_leastOf_L73, za.1, za.2.mpr c]
      refine w_gdR (by omega) (by omega) (w_gdR (by omega) (by omega) (w_f (by omega) (w_gdR (by decide) (by decide) (w_bind (t := y) (w_t rfl (w_gdB (by omega) (by omega) (w_gdB (by omega) (by omega) ?_))) ?_))))
      · rw [show (36 * (q : Int) + (v : Int)).toNat = 36 * q + v by omega, show (36 * ((W : Int) - (q : Int)) + (v : Int)).toNat = 36 * (W - q) + v by omega]
        refine w_gdR (by omega) (by omega) (w_gdR (by omega) (by omega) (w_bind (t := y) ?_ rfl))
        rw [hy]
        by_cases d : x ≤ M 8 (36 * q + v) + M 8 (36 * (W - q) + v)
        · exact Eq.trans (w_t d rfl) (congrArg some (by rw [if_pos d]))
        · exact Eq.trans (w_f d rfl) (congrArg some (by rw [if_neg d]))
      · rw [show (q : Int) + 1 = ((q + 1 : Nat) : Int) by omega]
        exact g1
    · obtain ⟨r, g1, g2⟩ := ih (q + 1) n x (by omega) (by omega) (by omega) hx (fun S s1 s2 s3 => by
        by_cases e : S = q
        · rw [e] at s3; exact absurd s3 c
        · exact h1 S s1 (by omega) s3) h2
      refine ⟨r, ?_, g2⟩
      have nz : ¬ (q &&& (127 - W)) = 0 := fun z => c (za.2.mp z)
      rw [fX6_leastOf_L73, za.1]
      refine w_gdR (by omega) (by omega) (w_gdR (by omega) (by omega) (w_f (by omega) (w_gdR (by omega) (by omega) (w_bind (t := x) (w_f (by omega) rfl) ?_))))
      rw [show (q : Int) + 1 = ((q + 1 : Nat) : Int) by omega]
      exact g1
/-- what a row starts with -/
def RowS (T : Nat → Nat → Int) (k W : Nat) (en : Nat → Int) (f : Nat → Int) : Prop := ∀ v, v < 36 → (0 ≤ f v ∧ f v ≤ 1000000000) ∧ (∀ S, 0 < S → S < W → S &&& W = S → f v ≤ T S v + T (W - S) v) ∧ (∀ z, z ≤ 1000000 → (¬ inM k W en v) → (∀ S, 0 < S → S < W → S &&& W = S → z ≤ T S v + T (W - S) v) → z ≤ f v) ∧ (inM k W en v → f v = 0) ∧ ((∀ S, 0 < S → S < W → ¬ S &&& W = S) → ¬ inM k W en v → f v = 1000000000)
theorem l18_L {Ms : Mem} {k W : Nat} (hk : k ≤ 7) (h0 : 0 < W) (hW : W < 128) (he : ∀ i, i < k → inR (Ms 7 i)) (hb : ∀ S, 0 < S → S < W → ∀ v, v < 36 → 0 ≤ Ms 8 (36 * S + v) ∧ Ms 8 (36 * S + v) ≤ 1000000) : ∀ (m j n : Nat) (M : Mem), j + m = 36 → m < n → onlyRow Ms M 8 (36 * W) → (∀ v, v < j → (0 ≤ M 8 (36 * W + v) ∧ M 8 (36 * W + v) ≤ 1000000000) ∧ (∀ S, 0 < S → S < W → S &&& W = S → M 8 (36 * W + v) ≤ Ms 8 (36 * S + v) + Ms 8 (36 * (W - S) + v)) ∧ (∀ z, z ≤ 1000000 → (¬ inM k W (Ms 7) v) → (∀ S, 0 < S → S < W → S &&& W = S → z ≤ Ms 8 (36 * S + v) + Ms 8 (36 * (W - S) + v)) → z ≤ M 8 (36 * W + v)) ∧ (inM k W (Ms 7) v → M 8 (36 * W + v) = 0) ∧ ((∀ S, 0 < S → S < W → ¬ S &&& W = S) → ¬ inM k W (Ms 7) v → M 8 (36 * W + v) = 1000000000)) →
    ∃ M', fX6_leastOf_L18 n M (k : Int) (W : Int) (j : Int) = some M' ∧ onlyRow Ms M' 8 (36 * W) ∧ RowS (fun S v => Ms 8 (36 * S + v)) k W (Ms 7) (fun v => M' 8 (36 * W + v)) := by
  intro m
  induction m with
  | zero =>
    intro j n M h hn ho hv
    obtain ⟨n, rfl⟩ : ∃ k, n = k + 1 := ⟨n - 1, by omega⟩
    refine ⟨M, ?_, ho, fun v h36 => hv v (by omega)⟩
    clear hv
    rw [fX6_leastOf_L18]
    exact w_gdR (by omega) (by omega) (w_t (by omega) rfl)
  | succ m ih =>
    intro j n M h hn ho hv
    obtain ⟨n, rfl⟩ : ∃ k, n = k + 1 := ⟨n - 1, by omega⟩
    have hj : j < 36 := by omega
    have e7 : M 7 = Ms 7 := ho.arr (by decide)
    have eT : ∀ S, S < W → M 8 (36 * S + j) = Ms 8 (36 * S + j) := fun S s => row_other ho (by omega) hj
    obtain ⟨x, a1, a2⟩ := l31_L (M := M) hk hj hW (by rw [e7]; exact he) k 0 FU 1000000000 (by omega) (by have := FU_big; omega) (Or.inr ⟨rfl, fun ⟨i, i1, _⟩ => absurd i1 (by omega)⟩)
    have xb : 0 ≤ x ∧ x ≤ 1000000000 := by
      rcases a2 with ⟨q, _⟩ | ⟨q, _⟩
      · rw [q]; decide
      · rw [q]; decide
    obtain ⟨r, b1, b2, b3, b4⟩ := l73_L (M := M) hW hj (fun S s1 s2 => by rw [eT S s2]; exact hb S s1 s2 j hj) xb (k : Int) (W - 1) 1 FU x (by omega) (by have := FU_big; omega) (by omega) ⟨xb.1, Int.le_refl _⟩ (fun S s1 s2 => absurd s2 (by omega)) (fun z z1 _ => z1)
    rw [e7] at a2
    obtain ⟨M', g1, g2⟩ := ih (j + 1) n (wr M 8 (36 * W + j) r) (by omega) (by omega) (ho.trans (only_wr M 8 (36 * W) _ hj)) (fun v h1 => by
      rw [wr_put]
      by_cases q : v = j
      · subst q
        rw [put_at]
        refine ⟨⟨b2.1, by omega⟩, fun S s1 s2 s3 => ?_, fun z z1 z2 z3 => ?_, fun z => ?_, fun z1 z2 => ?_⟩
        · rw [← eT S s2, ← eT (W - S) (by omega)]
          exact b3 S s1 s2 s3
        · refine b4 z ?_ (fun S s1 s2 s3 => by rw [eT S s2, eT (W - S) (by omega)]; exact z3 S s1 s2 s3)
          rcases a2 with ⟨_, y⟩ | ⟨y, _⟩
          · exact absurd y z2
          · rw [y]; omega
        · rcases a2 with ⟨y, _⟩ | ⟨_, y⟩
          · rw [y] at b2; omega
          · exact absurd z y
        · rcases a2 with ⟨_, y⟩ | ⟨y, _⟩
          · exact absurd y z2
          · have := b4 x (Int.le_refl _) (fun S s1 s2 s3 => absurd s3 (z1 S s1 s2))
            rw [y] at this b2
            omega
      · rw [put_ne (by omega)]; exact hv v (by omega))
    refine ⟨M', ?_, g2⟩
    clear hv a2 b4 g2
    rw [fX6_leastOf_L18]
    refine w_gdR (by omega) (by omega) (w_f (by omega) (w_bind a1 (w_bind b1 (w_gdB (by omega) (by omega) ?_))))
    rw [show (36 * (W : Int) + (j : Int)).toNat = 36 * W + j by omega, show (j : Int) + 1 = ((j + 1 : Nat) : Int) by omega]
    exact g1
def JM (M0 M : Mem) (k W : Nat) : Prop := (∀ a, a ≠ 8 → M a = M0 a) ∧ STn (prF M0) k (fun i => (M0 7 i).toNat) W (fun S v => M 8 (36 * S + v))
theorem jmM_step {M0 M : Mem} {k W : Nat} (hm : MR M0) (h104 : inR (M0 104 0)) (hk : k ≤ 7) (htw : ∀ i, i < k → 0 ≤ M0 7 i ∧ M0 7 i < 36) (h : JM M0 M k W) (h0 : 0 < W) (hW : W < 2 ^ k) :
    ∃ (M1 M2 : Mem), fX6_leastOf_L18 FU M (k : Int) (W : Int) 0 = some M1 ∧ fX6_spread M1 (W : Int) = some M2 ∧ JM M0 M2 k (W + 1) := by
  obtain ⟨a1, a3⟩ := h
  have tw36 : ∀ i, i < k → (M0 7 i).toNat < 36 := fun i hi => by have := htw i hi; omega
  have h128 : W < 128 := by have := (pow7 k (by omega)).1; omega
  have e7 : M 7 = M0 7 := a1 7 (by decide)
  have bd : ∀ S, 0 < S → S < W → ∀ v, v < 36 → 0 ≤ M 8 (36 * S + v) ∧ M 8 (36 * S + v) ≤ 1000000 := fun S s1 s2 v hv => by
    have z : 0 ≤ M 8 (36 * S + v) ∧ M 8 (36 * S + v) ≤ 590 * (S : Int) := a3.2.2.2.1 S s1 s2 v hv
    omega
  obtain ⟨M1, p1, p2, p3⟩ := l18_L (Ms := M) hk h0 h128 (by rw [e7]; exact fun i hi => by have := htw i hi; exact ⟨by omega, by omega⟩) bd 36 0 FU M (by omega) (by have := FU_big; omega) (onlyRow.refl _ _ _) (fun v hv => absurd hv (by omega))
  rw [e7] at p3
  have e1 : ∀ a, a ≠ 8 → M1 a = M0 a := fun a ha => by rw [p2.arr ha, a1 a ha]
  have hm1 : MR M1 := by
    unfold MR at hm ⊢
    rw [e1 0 (by decide), e1 1 (by decide)]
    exact hm
  have ep : prF M1 = prF M0 := by
    funext e
    unfold prF
    rw [coM_of (e1 0 (by decide)) (e1 1 (by decide)), e1 104 (by decide)]
  have hb1 : bdd (rowOf M1 8 (36 * W)) := fun v hv => by
    have z : 0 ≤ M1 8 (36 * W + v) ∧ M1 8 (36 * W + v) ≤ 1000000000 := (p3 v hv).1
    unfold rowOf
    omega
  have hP := prF_PR hm
  obtain ⟨t, hG, _⟩ := GC_ex (p := prF M1) (f := rowOf M1 8 (36 * W)) (fun e he => by rw [ep]; exact (hP e he).1) (fun v hv => (hb1 v hv).1)
  obtain ⟨M2, r1, r2, r3⟩ := spM h128 hm1 (by rw [e1 104 (by decide)]; exact h104) hb1 hG
  have o12 := p2.trans r2
  have same : ∀ S, S ≠ W → ∀ v, v < 36 → M2 8 (36 * S + v) = M 8 (36 * S + v) := fun S s1 v hv => row_other o12 s1 hv
  have hS := a3.same (T2 := fun S v => M2 8 (36 * S + v)) tw36 (fun S s v hv => same S (by omega) v hv)
  rw [ep] at hG
  refine ⟨M1, M2, p1, r1, fun a ha => by rw [r2.arr ha, e1 a ha], ?_⟩
  by_cases c : ∃ i : Nat, i < 7 ∧ W = 2 ^ i
  · obtain ⟨i, i1, i2⟩ := c
    have hik : i < k := pow_lt (by rw [← i2]; exact hW)
    have hti := htw i hik
    obtain ⟨u, hu⟩ : ∃ u : Nat, M0 7 i = (u : Int) := ⟨(M0 7 i).toNat, by omega⟩
    have hu36 : u < 36 := by omega
    obtain ⟨d, hD, _⟩ := Dst_ex hP hu36
    have hGd := hD.gc hP hu36 (B := 1000000000) (by decide)
    have rowS : ∀ v, v < 36 → rowOf M1 8 (36 * W) v = stR u 1000000000 v := fun v hv => by
      have z := p3 v hv
      show M1 8 (36 * W + v) = stR u 1000000000 v
      unfold stR
      by_cases q : v = u
      · rw [if_pos q]
        exact z.2.2.2.1 ⟨i, hik, i2, by rw [hu, q]⟩
      · rw [if_neg q]
        refine z.2.2.2.2 (fun S s1 s2 s3 => ?_) (fun ⟨j, j1, j2, j3⟩ => ?_)
        · rw [i2] at s2 s3
          have := pa2 i i1 S s2 s3
          omega
        · have : j = i := pow_inj (by rw [← j2, i2])
          rw [this, hu] at j3
          omega
    have hGt : GC (prF M0) (stR u 1000000000) t := ⟨hG.1, fun v hv => by rw [← rowS v hv]; exact hG.2.1 v hv, fun g g1 g2 => hG.2.2 g g1 (fun v hv => by rw [rowS v hv]; exact g2 v hv)⟩
    have eq := GC_one hGd hGt
    subst i2
    refine STn.single hP hk hik tw36 hS ?_
    rw [show (M0 7 i).toNat = u by omega]
    refine hD.congr hu36 (fun v hv => ?_)
    rw [eq v hv]
    exact (r3 v hv).symm
  · have noin : ∀ v, ¬ inM k W (M0 7) v := fun v ⟨j, j1, j2, _⟩ => c ⟨j, by omega, j2⟩
    refine STn.join (f := fun v => M1 8 (36 * W + v)) hP hk h0 hW c hS ?_ ?_
    · refine ⟨fun S s1 s2 s3 v hv => ?_, fun v hv x x1 x2 => ?_⟩
      · have := (p3 v hv).2.1 S s1 s2 s3
        show M1 8 (36 * W + v) ≤ M2 8 (36 * S + v) + M2 8 (36 * (W - S) + v)
        rw [same S (by omega) v hv, same (W - S) (by omega) v hv]
        exact this
      · refine (p3 v hv).2.2.1 x x1 (noin v) (fun S s1 s2 s3 => ?_)
        have z : x ≤ M2 8 (36 * S + v) + M2 8 (36 * (W - S) + v) := x2 S s1 s2 s3
        rw [same S (by omega) v hv, same (W - S) (by omega) v hv] at z
        exact z
    · refine ⟨hG.1.congr (fun v hv => (r3 v hv).symm), fun v hv => ?_, fun g g1 g2 v hv => ?_⟩
      · have := hG.2.1 v hv
        show M2 8 (36 * W + v) ≤ M1 8 (36 * W + v)
        have e := r3 v hv
        unfold rowOf at e this
        rw [e]; exact this
      · have := hG.2.2 g g1 g2 v hv
        show g v ≤ M2 8 (36 * W + v)
        have e := r3 v hv
        unfold rowOf at e
        rw [e]; exact this
theorem jmL_L {M0 : Mem} {k : Nat} (hm : MR M0) (h104 : inR (M0 104 0)) (hk : k ≤ 7) (htw : ∀ i, i < k → 0 ≤ M0 7 i ∧ M0 7 i < 36) : ∀ (m W n : Nat) (M : Mem), W + m = 2 ^ k → m < n → 0 < W → JM M0 M k W →
    ∃ M', fX6_leastOf_L9 n M (k : Int) (W : Int) = some M' ∧ JM M0 M' k (2 ^ k) := by
  have p7 := (pow7 k (by omega)).1
  intro m
  induction m with
  | zero =>
    intro W n M h hn h0 hJ
    obtain ⟨n, rfl⟩ : ∃ k, n = k + 1 := ⟨n - 1, by omega⟩
    have e : W = 2 ^ k := by omega
    rw [e] at hJ
    refine ⟨M, ?_, hJ⟩
    rw [fX6_leastOf_L9, zshlP k (by omega)]
    exact w_gdR (by omega) (by omega) (w_gdR (by omega) (by omega) (w_t (by omega) rfl))
  | succ m ih =>
    intro W n M h hn h0 hJ
    obtain ⟨n, rfl⟩ : ∃ k, n = k + 1 := ⟨n - 1, by omega⟩
    obtain ⟨M1, M2, s1, s2, s3⟩ := jmM_step hm h104 hk htw hJ h0 (by omega)
    obtain ⟨M', g1, g2⟩ := ih (W + 1) n M2 (by omega) (by omega) (by omega) s3
    refine ⟨M', ?_, g2⟩
    rw [fX6_leastOf_L9, zshlP k (by omega)]
    refine w_gdR (by omega) (by omega) (w_gdR (by omega) (by omega) (w_f (by omega) (w_bind s1 (w_bind s2 ?_))))
    rw [show (W : Int) + 1 = ((W + 1 : Nat) : Int) by omega]
    exact g1
theorem loM {M0 : Mem} {k : Nat} (hm : MR M0) (h104 : inR (M0 104 0)) (h2 : 2 ≤ k) (hk : k ≤ 7) (htw : ∀ i, i < k → 0 ≤ M0 7 i ∧ M0 7 i < 36) : ∃ M, fX6_leastOf M0 (k : Int) = some (M 8 (36 * (2 ^ k - 1) + (M0 7 0).toNat), M) ∧ (∀ a, a ≠ 8 → M a = M0 a) ∧ STt (prF M0) k (fun i => (M0 7 i).toNat) (fun S v => M 8 (36 * S + v)) := by
  have p7 := (pow7 k (by omega)).1
  have p1 := Nat.one_le_two_pow (n := k)
  have t0 := htw 0 (by omega)
  obtain ⟨M, a1, a2, a3⟩ := jmL_L hm h104 hk htw (2 ^ k - 1) 1 FU M0 (by omega) (by have := FU_big; omega) (by omega) ⟨fun _ _ => rfl, STn.start _ _ _ _⟩
  have e7 : M 7 0 = M0 7 0 := by rw [a2 7 (by decide)]
  refine ⟨M, ?_, a2, a3.done⟩
  unfold fX6_leastOf
  refine w_gdR (by omega) (by omega) (w_t (by omega) (w_bind a1 ?_))
  rw [zshlP k (by omega)]
  show gd (inB (36 * (((2 ^ k : Nat) : Int) - 1) + M 7 0) 4608) (some (M 8 (36 * (((2 ^ k : Nat) : Int) - 1) + M 7 0).toNat, M)) = _
  rw [e7, show (36 * (((2 ^ k : Nat) : Int) - 1) + M0 7 0).toNat = 36 * (2 ^ k - 1) + (M0 7 0).toNat by omega]
  exact w_gdB (by omega) (by omega) rfl
theorem endM_L {M0 : Mem} {k : Nat} (hk : k ≤ 6) (hc : M0 101 0 = (k : Int)) : ∀ (m i n : Nat) (M : Mem), i + m = k → m < n → (∀ a, a ≠ 7 → M a = M0 a) → (∀ j, j < i → M 7 j = M0 2 j) →
    ∃ M', fX6_leastNow_L2 n M (i : Int) = some M' ∧ (∀ a, a ≠ 7 → M' a = M0 a) ∧ ∀ j, j < k → M' 7 j = M0 2 j := by
  intro m
  induction m with
  | zero =>
    intro i n M h hn ha hj
    obtain ⟨n, rfl⟩ : ∃ k, n = k + 1 := ⟨n - 1, by omega⟩
    refine ⟨M, ?_, ha, fun j h1 => hj j (by omega)⟩
    rw [fX6_leastNow_L2, ha 101 (by decide)]
    exact w_gdR (by omega) (by omega) (w_gdR (by omega) (by omega) (w_t (by omega) rfl))
  | succ m ih =>
    intro i n M h hn ha hj
    obtain ⟨n, rfl⟩ : ∃ k, n = k + 1 := ⟨n - 1, by omega⟩
    obtain ⟨M', g1, g2⟩ := ih (i + 1) n (wr M 7 i (M0 2 i)) (by omega) (by omega) (fun a h7 => (wr_row M _ h7).trans (ha a h7)) (fun j h1 => by
      rw [wr_put]
      by_cases q : j = i
      · rw [q, put_at]
      · rw [put_ne q]; exact hj j (by omega))
    refine ⟨M', ?_, g2⟩
    rw [fX6_leastNow_L2, ha 101 (by decide), ha 2 (by decide)]
    refine w_gdR (by omega) (by omega) (w_gdR (by omega) (by omega) (w_f (by omega) (w_gdB (by omega) (by omega) (w_gdB (by omega) (by omega) ?_))))
    rw [Int.toNat_natCast, show (i : Int) + 1 = ((i + 1 : Nat) : Int) by omega]
    exact g1
/-- the reference's least of now, where nothing is free -/
theorem lnM {M0 : Mem} {k : Nat} (hm : MR M0) (h104 : M0 104 0 = -1) (hk : k ≤ 6) (hc : M0 101 0 = (k : Int)) (htw : ∀ i, i < k → 0 ≤ M0 2 i ∧ M0 2 i < 36) : ∃ (r : Int) (M : Mem), fX6_leastNow M0 = some (r, M) ∧ (∀ a, a ≠ 7 → a ≠ 8 → M a = M0 a) ∧ (∀ j, j < k → M 7 j = M0 2 j) ∧ (k < 2 → r = 0) ∧ (2 ≤ k → STt (coM M0) k (fun i => (M0 2 i).toNat) (fun S v => M 8 (36 * S + v)) ∧ r = M 8 (36 * (2 ^ k - 1) + (M0 2 0).toNat)) := by
  obtain ⟨M1, a1, a2, a3⟩ := endM_L hk hc k 0 FU M0 (by omega) (by have := FU_big; omega) (fun _ _ => rfl) (fun j hj => absurd hj (by omega))
  have e101 : M1 101 0 = (k : Int) := by rw [a2 101 (by decide)]; exact hc
  by_cases c : 2 ≤ k
  · have hm1 : MR M1 := by
      unfold MR at hm ⊢
      rw [a2 0 (by decide), a2 1 (by decide)]
      exact hm
    obtain ⟨M2, b1, b2, b3⟩ := loM (M0 := M1) hm1 (by rw [a2 104 (by decide), h104]; exact ⟨by decide, by decide⟩) c (by omega) (fun i hi => by rw [a3 i hi]; exact htw i hi)
    have ep : ∀ e, e < 60 → prF M1 e = coM M0 e := fun e he => by
      unfold prF
      rw [a2 104 (by decide), h104, if_neg (by omega), coM_of (a2 0 (by decide)) (a2 1 (by decide))]
    refine ⟨_, M2, ?_, fun a h7 h8 => by rw [b2 a h8, a2 a h7], fun j hj => by rw [b2 7 (by decide), a3 j hj], fun z => absurd z (by omega), fun _ => ⟨b3.congr ep (fun i hi => by rw [a3 i hi]), rfl⟩⟩
    unfold fX6_leastNow
    refine w_bind a1 ?_
    rw [e101]
    refine w_bind b1 ?_
    rw [a3 0 (by omega)]
  · refine ⟨0, M1, ?_, fun a h7 _ => a2 a h7, a3, fun _ => rfl, fun z => absurd z c⟩
    unfold fX6_leastNow
    refine w_bind a1 ?_
    rw [e101]
    refine w_bind (t := (0, M1)) ?_ rfl
    unfold fX6_leastOf
    exact w_gdR (by omega) (by omega) (w_f (by omega) rfl)
/-- the same on both sides -/
theorem leastJ {Mc Mm : Mem} (h : Rl Mc Mm) : ∃ (r : Int) (C M : Mem), fX3_cheapest Mc = some (r, C) ∧ fX6_leastNow Mm = some (r, M) ∧ (0 ≤ r ∧ r ≤ 100000) ∧ M 100 = Mm 100 ∧ Rl C M ∧ (∀ a, a ≠ 8 → a ≠ 103 → C a = Mc a) := by
  obtain ⟨w1, w2, w3, w4⟩ := h.2.2.2.2.1
  obtain ⟨k, hk⟩ : ∃ k : Nat, Mc 102 0 = (k : Int) := ⟨(Mc 102 0).toNat, by omega⟩
  have h104 : Mm 104 0 = -1 := h.2.2.2.2.2.2.2.2.2.2.2
  have htw : ∀ i, i < k → 0 ≤ Mm 2 i ∧ Mm 2 i < 36 := fun i hi => by
    have := w3 i (by omega)
    rw [this.1]; exact this.2
  obtain ⟨r, M, a1, a2, a3, a4, a5⟩ := lnM h.2.1 h104 (by omega) (by rw [w1]; exact hk) htw
  have hM : Rl Mc M := h.keep (fun _ _ => rfl) (fun a ha => a2 a (by intro q; subst q; revert ha; decide) (by intro q; subst q; revert ha; decide))
  by_cases c : k < 2
  · refine ⟨0, Mc, M, ?_, ?_, by omega, a2 100 (by decide) (by decide), hM, fun _ _ _ => rfl⟩
    · unfold fX3_cheapest
      exact w_gdR (by omega) (by omega) (w_f (by omega) rfl)
    · rw [← a4 c]; exact a1
  · obtain ⟨s1, s2⟩ := a5 (by omega)
    obtain ⟨C, c1, c2, c3, c4⟩ := hM.join
    have e102 : C 102 0 = (k : Int) := by rw [c2 102 (by decide) (by decide)]; exact hk
    have e7 : ∀ i, i < k → C 7 i = Mm 2 i := fun i hi => by rw [c2 7 (by decide) (by decide)]; exact (w3 i (by omega)).1.symm
    unfold JT at c3
    rw [e102, Int.toNat_natCast] at c3
    have s3 : STt (C 4) k (fun i => (C 7 i).toNat) (fun S v => M 8 (36 * S + v)) := s1.congr (fun e he => by rw [c2 4 (by decide) (by decide)]; exact (h.2.2.2.1 e he).2.symm) (fun i hi => by rw [e7 i hi])
    have t0 := htw 0 (by omega)
    have p1 : 2 ≤ 2 ^ k := by
      have : 2 ^ 1 < 2 ^ k := pow_mono (by omega)
      omega
    have p6 : 2 ^ k ≤ 2 ^ 6 := Nat.pow_le_pow_right (by decide) (by omega)
    have e64 : (2 : Nat) ^ 6 = 64 := by decide
    have eq := STt_one c3 s3 (2 ^ k - 1) (by omega) (by omega) (Mm 2 0).toNat (by omega)
    have bd := s1.bd h.2.1.PR (by omega) (fun i hi => by have := htw i hi; omega) (2 ^ k - 1) (by omega) (by omega) (Mm 2 0).toNat (by omega)
    rw [← s2] at eq
    have bd : 0 ≤ M 8 (36 * (2 ^ k - 1) + (Mm 2 0).toNat) ∧ M 8 (36 * (2 ^ k - 1) + (Mm 2 0).toNat) ≤ 590 * ((2 ^ k - 1 : Nat) : Int) := bd
    refine ⟨r, C, M, ?_, a1, by omega, a2 100 (by decide) (by decide), c4, c2⟩
    unfold fX3_cheapest
    refine w_gdR (by omega) (by omega) (w_t (by omega) (w_bind c1 (w_bind (allC (by omega) e102) ?_)))
    have e70 : C 7 0 = Mm 2 0 := e7 0 (by omega)
    show gd (inB ((((2 ^ k : Nat) : Int) - 1) * 36 + C 7 0) 2304) (some (C 8 ((((2 ^ k : Nat) : Int) - 1) * 36 + C 7 0).toNat, C)) = _
    rw [e70, show ((((2 ^ k : Nat) : Int) - 1) * 36 + Mm 2 0).toNat = 36 * (2 ^ k - 1) + (Mm 2 0).toNat by omega]
    refine w_gdB (by omega) (by omega) ?_
    rw [← eq]
theorem F_least : Fc_least Rl := by
  intro Mc Mm hR
  obtain ⟨r, C, M, h1, h2, h3, h4, h5, _⟩ := leastJ (hR.thr 0)
  refine ⟨(r, C), (r, M), ?_, ?_, rfl, ⟨by omega, by omega⟩, h5⟩
  · unfold fX5_least
    exact w_bind h1 rfl
  · unfold fX6_least
    exact w_bind h2 rfl
