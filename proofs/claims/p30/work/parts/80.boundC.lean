/-! the class's bound -/
theorem ss_ones : ∀ (m a : Nat), ss (fun _ => (1 : Int)) a m = (m : Int)
  | 0, _ => rfl
  | m + 1, a => by rw [ss, ss_ones m (a + 1)]; omega
noncomputable def Dt (p : Nat → Int) (tw : Nat → Nat) (i j : Nat) : Int := dsF p (tw i) (tw j)
def MTw (M : Mem) (k : Nat) (p : Nat → Int) (tw : Nat → Nat) : Prop := M 102 0 = (k : Int) ∧ k ≤ 6 ∧ (∀ i, i < k → M 7 i = (tw i : Int) ∧ tw i < 36) ∧ ∀ i, i < k → ∀ v, v < 36 → M 9 (36 * i + v) = dsF p (tw i) v
theorem mtC_L {M0 : Mem} {k : Nat} {tw : Nat → Nat} (hg : GR M0) (hk : k ≤ 6) (hc : M0 102 0 = (k : Int)) (htw : ∀ i, i < k → M0 7 i = (tw i : Int) ∧ tw i < 36) : ∀ (m i n : Nat) (M : Mem), i + m = k → m < n → (∀ a, a ≠ 9 → M a = M0 a) → (∀ j, j < i → ∀ v, v < 36 → M 9 (36 * j + v) = dsF (M0 4) (tw j) v) →
    ∃ M', fX3_measureTowns_L2 n M (i : Int) = some M' ∧ (∀ a, a ≠ 9 → M' a = M0 a) ∧ ∀ j, j < k → ∀ v, v < 36 → M' 9 (36 * j + v) = dsF (M0 4) (tw j) v := by
  intro m
  induction m with
  | zero =>
    intro i n M h hn ha hd
    obtain ⟨n, rfl⟩ : ∃ k, n = k + 1 := ⟨n - 1, by omega⟩
    refine ⟨M, ?_, ha, fun j hj => hd j (by omega)⟩
    rw [fX3_measureTowns_L2, ha 102 (by decide)]
    exact w_gdR (by omega) (by omega) (w_gdR (by omega) (by omega) (w_t (by omega) rfl))
  | succ m ih =>
    intro i n M h hn ha hd
    obtain ⟨n, rfl⟩ : ∃ k, n = k + 1 := ⟨n - 1, by omega⟩
    have hi : i < k := by omega
    obtain ⟨t1, t2⟩ := htw i hi
    have hgM : GR M := by
      unfold GR
      rw [ha 0 (by decide), ha 1 (by decide), ha 2 (by decide), ha 4 (by decide)]
      exact hg
    have e4 : M 4 = M0 4 := ha 4 (by decide)
    have ok : okT 9 (36 * i) := by
      refine ⟨⟨by decide, by decide⟩, ?_, by decide, by decide, by decide, by decide⟩
      show 36 * i + 36 ≤ 216
      omega
    obtain ⟨M1, m1, m2, m3⟩ := meaC ok hgM t2 (by rw [e4]; exact (dsF_is hg.PR t2).gc hg.PR t2 (B := 1000000) (by decide))
    obtain ⟨M', g1, g2⟩ := ih (i + 1) n M1 (by omega) (by omega) (fun a h9 => by rw [m2.arr h9, ha a h9]) (fun j hj v hv => by
      by_cases q : j = i
      · rw [q]; exact m3 v hv
      · rw [m2 9 (36 * j + v) (fun z => by omega)]
        exact hd j (by omega) v hv)
    refine ⟨M', ?_, g2⟩
    rw [fX3_measureTowns_L2, ha 102 (by decide), ha 7 (by decide)]
    refine w_gdR (by omega) (by omega) (w_gdR (by omega) (by omega) (w_f (by omega) (w_gdB (by omega) (by omega) ?_)))
    rw [Int.toNat_natCast, t1, show (i : Int) * 36 = ((36 * i : Nat) : Int) by omega]
    refine w_bind m1 ?_
    rw [show (i : Int) + 1 = ((i + 1 : Nat) : Int) by omega]
    exact g1
theorem mtC {M0 : Mem} {k : Nat} {tw : Nat → Nat} (hg : GR M0) (hk : k ≤ 6) (hc : M0 102 0 = (k : Int)) (htw : ∀ i, i < k → M0 7 i = (tw i : Int) ∧ tw i < 36) : ∃ M, fX3_measureTowns M0 = some M ∧ (∀ a, a ≠ 9 → M a = M0 a) ∧ MTw M k (M0 4) tw := by
  obtain ⟨M, a1, a2, a3⟩ := mtC_L hg hk hc htw k 0 FU M0 (by omega) (by have := FU_big; omega) (fun _ _ => rfl) (fun j hj => absurd hj (by omega))
  refine ⟨M, ?_, a2, by rw [a2 102 (by decide)]; exact hc, hk, by rw [a2 7 (by decide)]; exact htw, a3⟩
  unfold fX3_measureTowns
  exact w_bind a1 rfl
theorem btw {M : Mem} {k : Nat} {p : Nat → Int} {tw : Nat → Nat} (h : MTw M k p tw) {a b : Nat} (ha : a < k) (hb : b < k) : fX3_between M (a : Int) (b : Int) = some (Dt p tw a b) := by
  obtain ⟨h1, h2, h3, h4⟩ := h
  obtain ⟨t1, t2⟩ := h3 b hb
  unfold fX3_between Dt
  refine w_gdB (by omega) (by omega) ?_
  rw [Int.toNat_natCast, t1]
  refine w_gdB (by omega) (by omega) ?_
  rw [show ((a : Int) * 36 + (tw b : Int)).toNat = 36 * a + tw b by omega, h4 a ha _ t2]
theorem MTw.keep {M M' : Mem} {k : Nat} {p : Nat → Int} {tw : Nat → Nat} (h : MTw M k p tw) (f : ∀ a, a ≠ 11 → M' a = M a) : MTw M' k p tw := by
  unfold MTw at h ⊢
  rw [f 102 (by decide), f 7 (by decide), f 9 (by decide)]
  exact h
/-- what a table of distances is like -/
def DOK (D : Nat → Nat → Int) (k : Nat) : Prop := ∀ i, i < k → ∀ j, j < k → D i j = D j i ∧ (0 ≤ D i j ∧ D i j ≤ 590) ∧ (i = j → D i j = 0) ∧ (i ≠ j → 1 ≤ D i j)
theorem Dt_ok {p : Nat → Int} {tw : Nat → Nat} {k : Nat} (hp : ∀ e, e < 60 → 1 ≤ p e ∧ p e ≤ 59) (ht : ∀ i, i < k → tw i < 36) (hinj : ∀ i, i < k → ∀ j, j < k → tw i = tw j → i = j) : DOK (Dt p tw) k := by
  have hP : PR p := fun e he => by have := hp e he; omega
  intro i hi j hj
  refine ⟨dsF_sym hP (ht i hi) (ht j hj), dsF_bd hP (ht i hi) (ht j hj), fun q => ?_, fun q => dsF_pos hP (fun e he => (hp e he).1) (ht i hi) (ht j hj) (fun z => q (hinj j hj i hi z).symm)⟩
  subst q
  exact dsF_self hP (ht i hi)
def mx (a b : Int) : Int := if a < b then b else a
theorem mx_ub (a b : Int) : a ≤ mx a b ∧ b ≤ mx a b ∧ (mx a b = a ∨ mx a b = b) := by
  unfold mx
  split <;> omega
theorem fp16 {M : Mem} {k : Nat} {p : Nat → Int} {tw : Nat → Nat} (h : MTw M k p tw) (hD : DOK (Dt p tw) k) {a : Nat} (ha : a < k) : ∀ (m j n : Nat) (x : Int), j + m = k → m < n → 0 ≤ x ∧ x ≤ 10000 →
    ∃ r, fX3_farthestPair_L16 n M x (a : Int) (j : Int) = some r ∧ (0 ≤ r ∧ r ≤ 10000) ∧ ∀ X, r ≤ X ↔ (x ≤ X ∧ ∀ b, j ≤ b → b < k → Dt p tw a b ≤ X) := by
  intro m
  have hc := h.1
  have hk := h.2.1
  induction m with
  | zero =>
    intro j n x h1 hn hx
    obtain ⟨n, rfl⟩ : ∃ k, n = k + 1 := ⟨n - 1, by omega⟩
    refine ⟨x, ?_, hx, fun X => ⟨fun z => ⟨z, fun b b1 b2 => absurd b2 (by omega)⟩, fun z => z.1⟩⟩
    rw [fX3_farthestPair_L16, hc]
    exact w_gdR (by omega) (by omega) (w_gdR (by omega) (by omega) (w_t (by omega) rfl))
  | succ m ih =>
    intro j n x h1 hn hx
    obtain ⟨n, rfl⟩ : ∃ k, n = k + 1 := ⟨n - 1, by omega⟩
    have d := (hD a ha j (by omega)).2.1
    have y := mx_ub x (Dt p tw a j)
    obtain ⟨r, g1, g2, g3⟩ := ih (j + 1) n (mx x (Dt p tw a j)) (by omega) (by omega) (by omega)
    refine ⟨r, ?_, g2, fun X => (g3 X).trans ⟨fun z => ⟨by omega, fun b b1 b2 => ?_⟩, fun z => ⟨by have := z.2 j (Nat.le_refl _) (by omega); omega, fun b b1 b2 => z.2 b (by omega) b2⟩⟩⟩
    · clear g3
      rw [fX3_farthestPair_L16, hc]
      refine w_gdR (by omega) (by omega) (w_gdR (by omega) (by omega) (w_f (by omega) (w_bind (btw h ha (by omega)) (w_gdR (by omega) (by omega) (w_gdR (by omega) (by omega) ?_)))))
      rw [show (j : Int) + 1 = ((j + 1 : Nat) : Int) by omega]
      exact g1
    · by_cases q : b = j
      · rw [q]; omega
      · exact z.2 b (by omega) b2
theorem fp4 {M : Mem} {k : Nat} {p : Nat → Int} {tw : Nat → Nat} (h : MTw M k p tw) (hD : DOK (Dt p tw) k) : ∀ (m a n : Nat) (x : Int), a + m = k → m < n → 0 ≤ x ∧ x ≤ 10000 →
    ∃ r, fX3_farthestPair_L4 n M x (a : Int) = some r ∧ (0 ≤ r ∧ r ≤ 10000) ∧ ∀ X, r ≤ X ↔ (x ≤ X ∧ ∀ i, a ≤ i → i < k → ∀ b, i + 1 ≤ b → b < k → Dt p tw i b ≤ X) := by
  intro m
  have hc := h.1
  have hk := h.2.1
  induction m with
  | zero =>
    intro a n x h1 hn hx
    obtain ⟨n, rfl⟩ : ∃ k, n = k + 1 := ⟨n - 1, by omega⟩
    refine ⟨x, ?_, hx, fun X => ⟨fun z => ⟨z, fun b b1 b2 => absurd b2 (by omega)⟩, fun z => z.1⟩⟩
    rw [fX3_farthestPair_L4, hc]
    exact w_gdR (by omega) (by omega) (w_gdR (by omega) (by omega) (w_t (by omega) rfl))
  | succ m ih =>
    intro a n x h1 hn hx
    obtain ⟨n, rfl⟩ : ∃ k, n = k + 1 := ⟨n - 1, by omega⟩
    obtain ⟨y, y1, y2, y3⟩ := fp16 h hD (a := a) (by omega) (k - (a + 1)) (a + 1) FU x (by omega) (by have := FU_big; omega) hx
    obtain ⟨r, g1, g2, g3⟩ := ih (a + 1) n y (by omega) (by omega) y2
    refine ⟨r, ?_, g2, fun X => (g3 X).trans ⟨fun z => ?_, fun z => ⟨(y3 X).mpr ⟨z.1, z.2 a (Nat.le_refl _) (by omega)⟩, fun i i1 i2 => z.2 i (by omega) i2⟩⟩⟩
    · clear g3 y3
      rw [fX3_farthestPair_L4, hc]
      refine w_gdR (by omega) (by omega) (w_gdR (by omega) (by omega) (w_f (by omega) ?_))
      rw [show (a : Int) + 1 = ((a + 1 : Nat) : Int) by omega]
      exact w_bind y1 g1
    · have q := (y3 X).mp z.1
      refine ⟨q.1, fun i i1 i2 b b1 b2 => ?_⟩
      by_cases e : i = a
      · rw [e] at b1 ⊢; exact q.2 b b1 b2
      · exact z.2 i (by omega) i2 b b1 b2
theorem ft29 {M : Mem} {k : Nat} {p : Nat → Int} {tw : Nat → Nat} (h : MTw M k p tw) (hD : DOK (Dt p tw) k) {a b : Nat} (ha : a < k) (hb : b < k) : ∀ (m j n : Nat) (x : Int), j + m = k → m < n → 0 ≤ x ∧ x ≤ 10000 →
    ∃ r, fX3_farthestThree_L29 n M x (a : Int) (b : Int) (j : Int) = some r ∧ (0 ≤ r ∧ r ≤ 10000) ∧ ∀ X, r ≤ X ↔ (x ≤ X ∧ ∀ c, j ≤ c → c < k → Dt p tw a b + Dt p tw a c + Dt p tw b c ≤ X) := by
  intro m
  have hc := h.1
  have hk := h.2.1
  induction m with
  | zero =>
    intro j n x h1 hn hx
    obtain ⟨n, rfl⟩ : ∃ k, n = k + 1 := ⟨n - 1, by omega⟩
    refine ⟨x, ?_, hx, fun X => ⟨fun z => ⟨z, fun b b1 b2 => absurd b2 (by omega)⟩, fun z => z.1⟩⟩
    rw [fX3_farthestThree_L29, hc]
    exact w_gdR (by omega) (by omega) (w_gdR (by omega) (by omega) (w_t (by omega) rfl))
  | succ m ih =>
    intro j n x h1 hn hx
    obtain ⟨n, rfl⟩ : ∃ k, n = k + 1 := ⟨n - 1, by omega⟩
    have d1 := (hD a ha b hb).2.1
    have d2 := (hD a ha j (by omega)).2.1
    have d3 := (hD b hb j (by omega)).2.1
    have y := mx_ub x (Dt p tw a b + Dt p tw a j + Dt p tw b j)
    obtain ⟨r, g1, g2, g3⟩ := ih (j + 1) n (mx x (Dt p tw a b + Dt p tw a j + Dt p tw b j)) (by omega) (by omega) (by omega)
    refine ⟨r, ?_, g2, fun X => (g3 X).trans ⟨fun z => ⟨by omega, fun c b1 b2 => ?_⟩, fun z => ⟨by have := z.2 j (Nat.le_refl _) (by omega); omega, fun c b1 b2 => z.2 c (by omega) b2⟩⟩⟩
    · clear g3
      rw [fX3_farthestThree_L29, hc]
      refine w_gdR (by omega) (by omega) (w_gdR (by omega) (by omega) (w_f (by omega) (w_bind (btw h ha hb) (w_bind (btw h ha (by omega)) (w_bind (btw h hb (by omega)) (w_gdR (by omega) (by omega) (w_gdR (by omega) (by omega) ?_)))))))
      rw [show (j : Int) + 1 = ((j + 1 : Nat) : Int) by omega]
      exact g1
    · by_cases q : c = j
      · rw [q]; omega
      · exact z.2 c (by omega) b2
theorem ft16 {M : Mem} {k : Nat} {p : Nat → Int} {tw : Nat → Nat} (h : MTw M k p tw) (hD : DOK (Dt p tw) k) {a : Nat} (ha : a < k) : ∀ (m b n : Nat) (x : Int), b + m = k → m < n → 0 ≤ x ∧ x ≤ 10000 →
    ∃ r, fX3_farthestThree_L16 n M x (a : Int) (b : Int) = some r ∧ (0 ≤ r ∧ r ≤ 10000) ∧ ∀ X, r ≤ X ↔ (x ≤ X ∧ ∀ j, b ≤ j → j < k → ∀ c, j + 1 ≤ c → c < k → Dt p tw a j + Dt p tw a c + Dt p tw j c ≤ X) := by
  intro m
  have hc := h.1
  have hk := h.2.1
  induction m with
  | zero =>
    intro a n x h1 hn hx
    obtain ⟨n, rfl⟩ : ∃ k, n = k + 1 := ⟨n - 1, by omega⟩
    refine ⟨x, ?_, hx, fun X => ⟨fun z => ⟨z, fun b b1 b2 => absurd b2 (by omega)⟩, fun z => z.1⟩⟩
    rw [fX3_farthestThree_L16, hc]
    exact w_gdR (by omega) (by omega) (w_gdR (by omega) (by omega) (w_t (by omega) rfl))
  | succ m ih =>
    intro b n x h1 hn hx
    obtain ⟨n, rfl⟩ : ∃ k, n = k + 1 := ⟨n - 1, by omega⟩
    obtain ⟨y, y1, y2, y3⟩ := ft29 h hD ha (b := b) (by omega) (k - (b + 1)) (b + 1) FU x (by omega) (by have := FU_big; omega) hx
    obtain ⟨r, g1, g2, g3⟩ := ih (b + 1) n y (by omega) (by omega) y2
    refine ⟨r, ?_, g2, fun X => (g3 X).trans ⟨fun z => ?_, fun z => ⟨(y3 X).mpr ⟨z.1, z.2 b (Nat.le_refl _) (by omega)⟩, fun i i1 i2 => z.2 i (by omega) i2⟩⟩⟩
    · clear g3 y3
      rw [fX3_farthestThree_L16, hc]
      refine w_gdR (by omega) (by omega) (w_gdR (by omega) (by omega) (w_f (by omega) ?_))
      rw [show (b : Int) + 1 = ((b + 1 : Nat) : Int) by omega]
      exact w_bind y1 g1
    · have q := (y3 X).mp z.1
      refine ⟨q.1, fun j i1 i2 c b1 b2 => ?_⟩
      by_cases e : j = b
      · rw [e] at b1 ⊢; exact q.2 c b1 b2
      · exact z.2 j (by omega) i2 c b1 b2
theorem ft4 {M : Mem} {k : Nat} {p : Nat → Int} {tw : Nat → Nat} (h : MTw M k p tw) (hD : DOK (Dt p tw) k) : ∀ (m a n : Nat) (x : Int), a + m = k → m < n → 0 ≤ x ∧ x ≤ 10000 →
    ∃ r, fX3_farthestThree_L4 n M x (a : Int) = some r ∧ (0 ≤ r ∧ r ≤ 10000) ∧ ∀ X, r ≤ X ↔ (x ≤ X ∧ ∀ i, a ≤ i → i < k → ∀ j, i + 1 ≤ j → j < k → ∀ c, j + 1 ≤ c → c < k → Dt p tw i j + Dt p tw i c + Dt p tw j c ≤ X) := by
  intro m
  have hc := h.1
  have hk := h.2.1
  induction m with
  | zero =>
    intro a n x h1 hn hx
    obtain ⟨n, rfl⟩ : ∃ k, n = k + 1 := ⟨n - 1, by omega⟩
    refine ⟨x, ?_, hx, fun X => ⟨fun z => ⟨z, fun b b1 b2 => absurd b2 (by omega)⟩, fun z => z.1⟩⟩
    rw [fX3_farthestThree_L4, hc]
    exact w_gdR (by omega) (by omega) (w_gdR (by omega) (by omega) (w_t (by omega) rfl))
  | succ m ih =>
    intro a n x h1 hn hx
    obtain ⟨n, rfl⟩ : ∃ k, n = k + 1 := ⟨n - 1, by omega⟩
    obtain ⟨y, y1, y2, y3⟩ := ft16 h hD (a := a) (by omega) (k - (a + 1)) (a + 1) FU x (by omega) (by have := FU_big; omega) hx
    obtain ⟨r, g1, g2, g3⟩ := ih (a + 1) n y (by omega) (by omega) y2
    refine ⟨r, ?_, g2, fun X => (g3 X).trans ⟨fun z => ?_, fun z => ⟨(y3 X).mpr ⟨z.1, z.2 a (Nat.le_refl _) (by omega)⟩, fun i i1 i2 => z.2 i (by omega) i2⟩⟩⟩
    · clear g3 y3
      rw [fX3_farthestThree_L4, hc]
      refine w_gdR (by omega) (by omega) (w_gdR (by omega) (by omega) (w_f (by omega) ?_))
      rw [show (a : Int) + 1 = ((a + 1 : Nat) : Int) by omega]
      exact w_bind y1 g1
    · have q := (y3 X).mp z.1
      refine ⟨q.1, fun i i1 i2 j j1 j2 c b1 b2 => ?_⟩
      by_cases e : i = a
      · rw [e] at j1 ⊢; exact q.2 j j1 j2 c b1 b2
      · exact z.2 i (by omega) i2 j j1 j2 c b1 b2
/-! the class's tree -/
theorem no_L {M : Mem} {k : Nat} (hc : M 102 0 = (k : Int)) (hk : k ≤ 6) (hr : ∀ t, t < k → 0 ≤ M 11 t ∧ M 11 t ≤ 590) : ∀ (m t n best : Nat), t + m = k → m < n → best < k → ((M 11 best = 0 ∧ ∀ u, u < t → M 11 u = 0) ∨ (0 < M 11 best ∧ ∀ u, u < t → 0 < M 11 u → M 11 best ≤ M 11 u)) →
    ∃ r : Nat, fX3_nearestOutside_L4 n M (best : Int) (t : Int) = some (r : Int) ∧ r < k ∧ ((M 11 r = 0 ∧ ∀ u, u < k → M 11 u = 0) ∨ (0 < M 11 r ∧ ∀ u, u < k → 0 < M 11 u → M 11 r ≤ M 11 u)) := by
  intro m
  induction m with
  | zero =>
    intro t n best h hn hb hx
    obtain ⟨n, rfl⟩ : ∃ k, n = k + 1 := ⟨n - 1, by omega⟩
    have e : t = k := by omega
    subst e
    refine ⟨best, ?_, hb, hx⟩
    clear hx
    rw [fX3_nearestOutside_L4, hc]
    exact w_gdR (by omega) (by omega) (w_gdR (by omega) (by omega) (w_t (by omega) rfl))
  | succ m ih =>
    intro t n best h hn hb hx
    obtain ⟨n, rfl⟩ : ∃ k, n = k + 1 := ⟨n - 1, by omega⟩
    have ht : t < k := by omega
    have r1 := hr t ht
    have r2 := hr best hb
    have front : ∀ (nb : Nat) (r : Int), (if M 11 t ≤ 0 then (some (best : Int)) else (gd (inB (best : Int) 6) (gd (inR (M 11 best)) (if M 11 best = 0 then (some (t : Int)) else (gd (inB (t : Int) 6) (gd (inB (best : Int) 6) (if M 11 best ≤ M 11 t then (some (best : Int)) else (some (t : Int))))))))) = some (nb : Int) → fX3_nearestOutside_L4 n M (nb : Int) ((t : Int) + 1) = some r → fX3_nearestOutside_L4 (n + 1) M (best : Int) (t : Int) = some r := by
      intro nb r h1 h2
      clear hx
      rw [fX3_nearestOutside_L4, hc]
      refine w_gdR (by omega) (by omega) (w_gdR (by omega) (by omega) (w_f (by omega) (w_gdB (by omega) (by omega) ?_)))
      rw [Int.toNat_natCast, Int.toNat_natCast]
      exact w_gdR (by omega) (by omega) (w_bind h1 h2)
    have go : ∀ nb : Nat, nb < k → (if M 11 t ≤ 0 then (some (best : Int)) else (gd (inB (best : Int) 6) (gd (inR (M 11 best)) (if M 11 best = 0 then (some (t : Int)) else (gd (inB (t : Int) 6) (gd (inB (best : Int) 6) (if M 11 best ≤ M 11 t then (some (best : Int)) else (some (t : Int))))))))) = some (nb : Int) → ((M 11 nb = 0 ∧ ∀ u, u < t + 1 → M 11 u = 0) ∨ (0 < M 11 nb ∧ ∀ u, u < t + 1 → 0 < M 11 u → M 11 nb ≤ M 11 u)) → ∃ r : Nat, fX3_nearestOutside_L4 (n + 1) M (best : Int) (t : Int) = some (r : Int) ∧ r < k ∧ ((M 11 r = 0 ∧ ∀ u, u < k → M 11 u = 0) ∨ (0 < M 11 r ∧ ∀ u, u < k → 0 < M 11 u → M 11 r ≤ M 11 u)) := by
      intro nb h1 h2 h3
      obtain ⟨r, g1, g2⟩ := ih (t + 1) n nb (by omega) (by omega) h1 h3
      rw [show ((t + 1 : Nat) : Int) = (t : Int) + 1 by omega] at g1
      exact ⟨r, front nb _ h2 g1, g2⟩
    have new : ∀ u, u < t + 1 → u < t ∨ u = t := fun u hu => by omega
    by_cases c : M 11 t ≤ 0
    · refine go best hb (w_t c rfl) ?_
      rcases hx with ⟨q1, q2⟩ | ⟨q1, q2⟩
      · refine Or.inl ⟨q1, fun u hu => ?_⟩
        rcases new u hu with z | z
        · exact q2 u z
        · rw [z]; omega
      · refine Or.inr ⟨q1, fun u hu hp => ?_⟩
        rcases new u hu with z | z
        · exact q2 u z hp
        · rw [z] at hp; omega
    · by_cases d : M 11 best = 0
      · refine go t ht (w_f c (w_gdB (by clear hx; omega) (by clear hx; omega) (w_gdR (by clear hx; omega) (by clear hx; omega) (w_t d rfl)))) (Or.inr ⟨by omega, fun u hu hp => ?_⟩)
        rcases hx with ⟨q1, q2⟩ | ⟨q1, q2⟩
        · rcases new u hu with z | z
          · have := q2 u z; omega
          · rw [z]; omega
        · omega
      · by_cases f : M 11 best ≤ M 11 t
        · refine go best hb (w_f c (w_gdB (by clear hx; omega) (by clear hx; omega) (w_gdR (by clear hx; omega) (by clear hx; omega) (w_f d (w_gdB (by clear hx; omega) (by clear hx; omega) (w_gdB (by clear hx; omega) (by clear hx; omega) (w_t f rfl))))))) ?_
          rcases hx with ⟨q1, q2⟩ | ⟨q1, q2⟩
          · exact absurd q1 d
          · refine Or.inr ⟨q1, fun u hu hp => ?_⟩
            rcases new u hu with z | z
            · exact q2 u z hp
            · rw [z]; exact f
        · refine go t ht (w_f c (w_gdB (by clear hx; omega) (by clear hx; omega) (w_gdR (by clear hx; omega) (by clear hx; omega) (w_f d (w_gdB (by clear hx; omega) (by clear hx; omega) (w_gdB (by clear hx; omega) (by clear hx; omega) (w_f f rfl))))))) ?_
          rcases hx with ⟨q1, q2⟩ | ⟨q1, q2⟩
          · exact absurd q1 d
          · refine Or.inr ⟨by omega, fun u hu hp => ?_⟩
            rcases new u hu with z | z
            · have := q2 u z hp; omega
            · rw [z]; omega
theorem cp2_L {M0 : Mem} {k : Nat} {p : Nat → Int} {tw : Nat → Nat} (h : MTw M0 k p tw) : ∀ (m t n : Nat) (M : Mem), t + m = k → m < n → (∀ a, a ≠ 11 → M a = M0 a) → (∀ u, u < t → M 11 u = Dt p tw 0 u) →
    ∃ M', fX3_cheapestPairs_L2 n M (t : Int) = some M' ∧ (∀ a, a ≠ 11 → M' a = M0 a) ∧ ∀ u, u < k → M' 11 u = Dt p tw 0 u := by
  intro m
  have hc := h.1
  have hk := h.2.1
  induction m with
  | zero =>
    intro t n M h1 hn ha hu
    obtain ⟨n, rfl⟩ : ∃ k, n = k + 1 := ⟨n - 1, by omega⟩
    refine ⟨M, ?_, ha, fun u hu2 => hu u (by omega)⟩
    rw [fX3_cheapestPairs_L2, ha 102 (by decide), hc]
    exact w_gdR (by omega) (by omega) (w_gdR (by omega) (by omega) (w_t (by omega) rfl))
  | succ m ih =>
    intro t n M h1 hn ha hu
    obtain ⟨n, rfl⟩ : ∃ k, n = k + 1 := ⟨n - 1, by omega⟩
    obtain ⟨M', g1, g2⟩ := ih (t + 1) n (wr M 11 t (Dt p tw 0 t)) (by omega) (by omega) (fun a h11 => (wr_row M _ h11).trans (ha a h11)) (fun u hu2 => by
      rw [wr_put]
      by_cases q : u = t
      · rw [q, put_at]
      · rw [put_ne q]; exact hu u (by omega))
    refine ⟨M', ?_, g2⟩
    rw [fX3_cheapestPairs_L2, ha 102 (by decide), hc]
    refine w_gdR (by omega) (by omega) (w_gdR (by omega) (by omega) (w_f (by omega) (w_bind (t := Dt p tw 0 t) (btw (h.keep ha) (a := 0) (b := t) (by omega) (by omega)) (w_gdB (by omega) (by omega) ?_))))
    rw [Int.toNat_natCast, show (t : Int) + 1 = ((t + 1 : Nat) : Int) by omega]
    exact g1
theorem cp57_L {M0 : Mem} {k : Nat} {p : Nat → Int} {tw : Nat → Nat} (h : MTw M0 k p tw) (hD : DOK (Dt p tw) k) (hr : ∀ t, t < k → 0 ≤ M0 11 t ∧ M0 11 t ≤ 590) {nx : Nat} (hnx : nx < k) (x1 x2 : Int) : ∀ (m t n : Nat) (M : Mem), t + m = k → m < n → (∀ a, a ≠ 11 → M a = M0 a) → (∀ u, u < k → M 11 u = if u < t then mn (Dt p tw nx u) (M0 11 u) else M0 11 u) →
    ∃ M', fX3_cheapestPairs_L57 n M x1 x2 (nx : Int) (t : Int) = some M' ∧ (∀ a, a ≠ 11 → M' a = M0 a) ∧ ∀ u, u < k → M' 11 u = mn (Dt p tw nx u) (M0 11 u) := by
  intro m
  have hc := h.1
  have hk := h.2.1
  induction m with
  | zero =>
    intro t n M h1 hn ha hu
    obtain ⟨n, rfl⟩ : ∃ k, n = k + 1 := ⟨n - 1, by omega⟩
    refine ⟨M, ?_, ha, fun u hu2 => by rw [hu u hu2, if_pos (by omega)]⟩
    rw [fX3_cheapestPairs_L57, ha 102 (by decide), hc]
    exact w_gdR (by omega) (by omega) (w_gdR (by omega) (by omega) (w_t (by omega) rfl))
  | succ m ih =>
    intro t n M h1 hn ha hu
    obtain ⟨n, rfl⟩ : ∃ k, n = k + 1 := ⟨n - 1, by omega⟩
    have ht : t < k := by omega
    have et : M 11 t = M0 11 t := by rw [hu t ht, if_neg (by omega)]
    have r1 := hr t ht
    have d1 := (hD nx hnx t ht).2.1
    obtain ⟨M', g1, g2⟩ := ih (t + 1) n (wr M 11 t (mn (Dt p tw nx t) (M0 11 t))) (by omega) (by omega) (fun a h11 => (wr_row M _ h11).trans (ha a h11)) (fun u hu2 => by
      rw [wr_put]
      by_cases q : u = t
      · rw [q, put_at, if_pos (by omega)]
      · rw [put_ne q, hu u hu2]
        by_cases q2 : u < t
        · rw [if_pos q2, if_pos (by omega)]
        · rw [if_neg q2, if_neg (by omega)])
    refine ⟨M', ?_, g2⟩
    rw [fX3_cheapestPairs_L57, ha 102 (by decide), hc]
    refine w_gdR (by omega) (by omega) (w_gdR (by omega) (by omega) (w_f (by omega) (w_gdB (by omega) (by omega) (w_bind (btw (h.keep ha) hnx ht) ?_))))
    rw [Int.toNat_natCast, et]
    refine w_gdR (by omega) (by omega) (w_gdR (by omega) (by omega) (w_gdB (by omega) (by omega) ?_))
    rw [show (t : Int) + 1 = ((t + 1 : Nat) : Int) by omega]
    exact g1
def PrI (D : Nat → Nat → Int) (k : Nat) (R : Nat → Int) (s : Nat) (sum : Int) : Prop :=
  (∀ t, t < k → 0 ≤ R t ∧ R t ≤ 590) ∧ (∀ t, t < k → ∃ j, j < k ∧ R j = 0 ∧ R t = D j t) ∧ (∀ t, t < k → ∀ j, j < k → R j = 0 → R t ≤ D j t) ∧ ss (fun i => if R i = 0 then 1 else 0) 0 k = (s : Int) ∧ sum = Phi D k (fun i => R i = 0) - Phi D k (fun i => i = 0) ∧ (0 ≤ sum ∧ sum ≤ 590 * (s : Int))
theorem PrI.step {D : Nat → Nat → Int} {k : Nat} {R R2 : Nat → Int} {s : Nat} {sum : Int} (hD : DOK D k) (h : PrI D k R s sum) {n : Nat} (hn : n < k) (h0 : 0 < R n) (hm : ∀ u, u < k → 0 < R u → R n ≤ R u) (h2 : ∀ u, u < k → R2 u = mn (D n u) (R u)) : PrI D k R2 (s + 1) (sum + R n) := by
  obtain ⟨a1, a2, a3, a4, a5, a6⟩ := h
  have z : ∀ u, u < k → (R2 u = 0 ↔ (R u = 0 ∨ u = n)) := fun u hu => by
    have d := hD n hn u hu
    have y := mn_le (D n u) (R u)
    have r := a1 u hu
    rw [h2 u hu]
    constructor
    · intro q
      by_cases e : u = n
      · exact Or.inr e
      · have := d.2.2.2 (fun x => e x.symm)
        left; omega
    · rintro (q | q)
      · omega
      · have := d.2.2.1 q.symm
        omega
  refine ⟨fun t ht => ?_, fun t ht => ?_, fun t ht j hj hj0 => ?_, ?_, ?_, ?_⟩
  · have d := (hD n hn t ht).2.1
    have y := mn_le (D n t) (R t)
    have r := a1 t ht
    rw [h2 t ht]
    omega
  · have y := mn_le (D n t) (R t)
    rcases y.2.2 with q | q
    · exact ⟨n, hn, (z n hn).mpr (Or.inr rfl), by rw [h2 t ht, q]⟩
    · obtain ⟨j, j1, j2, j3⟩ := a2 t ht
      exact ⟨j, j1, (z j j1).mpr (Or.inl j2), by rw [h2 t ht, q, j3]⟩
  · have y := mn_le (D n t) (R t)
    rw [h2 t ht]
    rcases (z j hj).mp hj0 with q | q
    · have := a3 t ht j hj q
      omega
    · rw [q]; exact y.1
  · have e : ∀ i, i < k → (if R2 i = 0 then (1 : Int) else 0) = (if R i = 0 then 1 else 0) + (if i = n then 1 else 0) := by
      intro i hi
      have := z i hi
      by_cases c : i = n
      · have c2 : ¬ R i = 0 := by rw [c]; omega
        rw [if_pos c, if_neg c2, if_pos (this.mpr (Or.inr c))]; rfl
      · by_cases d : R i = 0
        · rw [if_neg c, if_pos d, if_pos (this.mpr (Or.inl d))]; rfl
        · rw [if_neg c, if_neg d, if_neg (fun q => (this.mp q).elim d c)]; rfl
    rw [ss_congr (g := fun i => (if R i = 0 then 1 else 0) + (if i = n then 1 else 0)) k 0 (fun i _ hi => e i (by omega)), ss_add (fun i => if R i = 0 then 1 else 0) (fun i => if i = n then 1 else 0), a4, ss_one 1 (Nat.zero_le _) (by omega)]
    omega
  · obtain ⟨j, j1, j2, j3⟩ := a2 n hn
    have st := Phi_step (J := fun i => R i = 0) (fun i hi j hj => (hD i hi j hj).1) hn (by show ¬ R n = 0; omega) j1 j2 j3 (by have := a1 n hn; omega) (fun i hi hi0 u hu hu0 => by
      have c1 := a3 u hu i hi hi0
      have c2 := hm u hu (by have := a1 u hu; have hu0 : ¬ R u = 0 := hu0; omega)
      omega)
    rw [Phi_congr (J := fun i => R2 i = 0) (J2 := fun i => R i = 0 ∨ i = n) (fun i hi => z i hi), st]
    omega
  · have := a1 n hn
    omega
theorem cp32_L {M0 : Mem} {k : Nat} {p : Nat → Int} {tw : Nat → Nat} (h : MTw M0 k p tw) (hD : DOK (Dt p tw) k) : ∀ (m s n : Nat) (M : Mem) (sum : Int), s + m = k → m < n → 0 < s → (∀ a, a ≠ 11 → M a = M0 a) → M 11 0 = 0 → PrI (Dt p tw) k (M 11) s sum →
    ∃ (r : Int) (M' : Mem), fX3_cheapestPairs_L32 n M sum (s : Int) = some (r, M') ∧ (∀ a, a ≠ 11 → M' a = M0 a) ∧ PrI (Dt p tw) k (M' 11) k r := by
  intro m
  have hc := h.1
  have hk := h.2.1
  induction m with
  | zero =>
    intro s n M sum h1 hn hs ha h0 hP
    obtain ⟨n, rfl⟩ : ∃ k, n = k + 1 := ⟨n - 1, by omega⟩
    have e : s = k := by omega
    rw [e] at hP
    refine ⟨sum, M, ?_, ha, hP⟩
    clear hP
    rw [fX3_cheapestPairs_L32, ha 102 (by decide), hc]
    exact w_gdR (by omega) (by omega) (w_gdR (by omega) (by omega) (w_t (by omega) rfl))
  | succ m ih =>
    intro s n M sum h1 hn hs ha h0 hP
    obtain ⟨n, rfl⟩ : ∃ k, n = k + 1 := ⟨n - 1, by omega⟩
    have hM := h.keep ha
    obtain ⟨r, n1, n2, n3⟩ := no_L hM.1 hk hP.1 k 0 FU 0 (by omega) (by have := FU_big; omega) (by omega) (Or.inl ⟨h0, fun u hu => absurd hu (by omega)⟩)
    have n3 : 0 < M 11 r ∧ ∀ u, u < k → 0 < M 11 u → M 11 r ≤ M 11 u := by
      rcases n3 with ⟨q1, q2⟩ | q
      · exfalso
        have e := hP.2.2.2.1
        rw [ss_congr (g := fun _ => (1 : Int)) k 0 (fun i _ hi => if_pos (q2 i (by omega))), ss_ones] at e
        omega
      · exact q
    obtain ⟨M1, b1, b2, b3⟩ := cp57_L hM hD hP.1 n2 (sum + M 11 r) (s : Int) k 0 FU M (by omega) (by have := FU_big; omega) (fun _ _ => rfl) (fun u hu => by rw [if_neg (by omega)])
    have hP2 := hP.step hD n2 n3.1 n3.2 b3
    have z0 : M1 11 0 = 0 := by
      rw [b3 0 (by omega), h0]
      have d := (hD r n2 0 (by omega)).2.1
      have y := mn_le (Dt p tw r 0) 0
      omega
    obtain ⟨x, M', g1, g2⟩ := ih (s + 1) n M1 _ (by omega) (by omega) (by omega) (fun a h11 => by rw [b2 a h11, ha a h11]) z0 hP2
    refine ⟨x, M', ?_, g2⟩
    clear hP hP2 g2
    rw [fX3_cheapestPairs_L32, ha 102 (by decide), hc]
    refine w_gdR (by omega) (by omega) (w_gdR (by omega) (by omega) (w_f (by omega) (w_bind (t := (r : Int)) ?_ (w_gdB (by omega) (by omega) ?_))))
    · unfold fX3_nearestOutside
      exact w_bind n1 rfl
    · rw [Int.toNat_natCast]
      refine w_bind b1 ?_
      rw [show (s : Int) + 1 = ((s + 1 : Nat) : Int) by omega]
      exact g1
/-- the sum of the tree, the same for every tree that grows by the nearest -/
noncomputable def TreeS (D : Nat → Nat → Int) (k : Nat) : Int := Phi D k (fun _ => True) - Phi D k (fun i => i = 0)
theorem PrI.all {D : Nat → Nat → Int} {k : Nat} {R : Nat → Int} {sum : Int} (h : PrI D k R k sum) : sum = TreeS D k := by
  obtain ⟨a1, a2, a3, a4, a5, a6⟩ := h
  have all : ∀ i, i < k → R i = 0 := by
    have t := ss_tight (f := fun i => if R i = 0 then (1 : Int) else 0) (g := fun _ => 1) (m := k) (a := 0) (fun i _ _ => by show (if R i = 0 then (1 : Int) else 0) ≤ 1; split <;> decide) (by rw [a4, ss_ones])
    intro i hi
    have := t i (Nat.zero_le _) (by omega)
    have this : (if R i = 0 then (1 : Int) else 0) = 1 := this
    by_cases c : R i = 0
    · exact c
    · rw [if_neg c] at this; omega
  rw [a5]
  unfold TreeS
  rw [Phi_congr (J := fun i => R i = 0) (J2 := fun _ => True) (fun i hi => ⟨fun _ => trivial, fun _ => all i hi⟩)]
theorem cpC {M0 : Mem} {k : Nat} {p : Nat → Int} {tw : Nat → Nat} (h : MTw M0 k p tw) (hD : DOK (Dt p tw) k) (h2 : 2 ≤ k) : ∃ M', fX3_cheapestPairs M0 = some (TreeS (Dt p tw) k, M') ∧ (∀ a, a ≠ 11 → M' a = M0 a) ∧ 0 ≤ TreeS (Dt p tw) k ∧ TreeS (Dt p tw) k ≤ 590 * (k : Int) := by
  have hk := h.2.1
  obtain ⟨M1, a1, a2, a3⟩ := cp2_L h k 0 FU M0 (by omega) (by have := FU_big; omega) (fun _ _ => rfl) (fun u hu => absurd hu (by omega))
  have z : ∀ u, u < k → (M1 11 u = 0 ↔ u = 0) := fun u hu => by
    have d := hD 0 (by omega) u hu
    rw [a3 u hu]
    constructor
    · intro q
      exact Classical.byContradiction fun e => by
        have := d.2.2.2 (fun x => e x.symm)
        omega
    · intro q
      exact d.2.2.1 q.symm
  have hP : PrI (Dt p tw) k (M1 11) 1 0 := by
    refine ⟨fun t ht => by rw [a3 t ht]; exact (hD 0 (by omega) t ht).2.1, fun t ht => ⟨0, by omega, (z 0 (by omega)).mpr rfl, a3 t ht⟩, fun t ht j hj hj0 => ?_, ?_, ?_, by omega⟩
    · rw [a3 t ht, (z j hj).mp hj0]; exact Int.le_refl _
    · rw [ss_congr (g := fun i => if i = 0 then (1 : Int) else 0) k 0 (fun i _ hi => by
        have := z i (by omega)
        by_cases c : i = 0
        · rw [if_pos c, if_pos (this.mpr c)]
        · rw [if_neg c, if_neg (fun q => c (this.mp q))]), ss_one 1 (Nat.zero_le _) (by omega)]
      rfl
    · rw [Phi_congr (J := fun i => M1 11 i = 0) (J2 := fun i => i = 0) z]
      omega
  obtain ⟨r, M', g1, g2, g3⟩ := cp32_L h hD (k - 1) 1 FU M1 0 (by omega) (by have := FU_big; omega) (by omega) a2 ((z 0 (by omega)).mpr rfl) hP
  have e := g3.all
  have b := g3.2.2.2.2.2
  rw [e] at g1 b
  refine ⟨M', ?_, g2, b⟩
  unfold fX3_cheapestPairs
  exact w_bind a1 (w_bind g1 rfl)
/-- the class's bound: the least that all these are at most -/
theorem lbC {M0 : Mem} {k : Nat} {tw : Nat → Nat} (hg : GR M0) (hk : k ≤ 6) (h2 : 2 ≤ k) (hc : M0 102 0 = (k : Int)) (htw : ∀ i, i < k → M0 7 i = (tw i : Int) ∧ tw i < 36) (hinj : ∀ i, i < k → ∀ j, j < k → tw i = tw j → i = j) : ∃ (r : Int) (M : Mem), fX3_lowerBound M0 = some (r, M) ∧ (∀ a, a ≠ 9 → a ≠ 11 → M a = M0 a) ∧ (0 ≤ r ∧ r ≤ 10000) ∧ ∀ X, r ≤ X ↔ ((TreeS (Dt (M0 4) tw) k + 1) / 2 ≤ X ∧ (0 ≤ X ∧ ∀ i, i < k → ∀ j, j < k → i < j → Dt (M0 4) tw i j ≤ X) ∧ ∀ i, i < k → ∀ j, j < k → ∀ c, c < k → i < j → j < c → (Dt (M0 4) tw i j + Dt (M0 4) tw i c + Dt (M0 4) tw j c + 1) / 2 ≤ X) := by
  obtain ⟨M1, a1, a2, a3⟩ := mtC hg hk hc htw
  have hD : DOK (Dt (M0 4) tw) k := Dt_ok (fun e he => (hg.1 e he).2.2) (fun i hi => (htw i hi).2) hinj
  obtain ⟨M2, b1, b2, b3, b4⟩ := cpC a3 hD h2
  have h3 := a3.keep b2
  obtain ⟨x, p1, p2, p3⟩ := fp4 h3 hD k 0 FU 0 (by omega) (by have := FU_big; omega) ⟨by omega, by omega⟩
  obtain ⟨y, q1, q2, q3⟩ := ft4 h3 hD k 0 FU 0 (by omega) (by have := FU_big; omega) ⟨by omega, by omega⟩
  have m1 := mx_ub x ((y + 1) / 2)
  have m2 := mx_ub ((TreeS (Dt (M0 4) tw) k + 1) / 2) (mx x ((y + 1) / 2))
  refine ⟨mx ((TreeS (Dt (M0 4) tw) k + 1) / 2) (mx x ((y + 1) / 2)), M2, ?_, fun a h9 h11 => by rw [b2 a h11, a2 a h9], by omega, fun X => ?_⟩
  · unfold fX3_lowerBound
    refine w_gdR (by omega) (by omega) (w_t (by omega) (w_bind a1 (w_bind b1 (w_bind (t := (TreeS (Dt (M0 4) tw) k + 1) / 2) ?_ (w_bind (t := x) ?_ (w_bind (t := y) ?_ (w_bind (t := (y + 1) / 2) ?_ ?_)))))))
    · unfold fX3_halfUp
      exact w_gd ⟨by omega, by omega⟩ rfl
    · unfold fX3_farthestPair
      exact w_bind p1 rfl
    · unfold fX3_farthestThree
      exact w_bind q1 rfl
    · unfold fX3_halfUp
      exact w_gd ⟨by omega, by omega⟩ rfl
    · have rg : inR (mx x ((y + 1) / 2)) := ⟨by omega, by omega⟩
      exact w_gdR (by omega) (by omega) (w_gdR (by omega) (by omega) (w_gdR (by omega) (by omega) (w_gd rg rfl)))
  · have px := p3 X
    have qx := q3 (2 * X)
    have half : ∀ v : Int, (v + 1) / 2 ≤ X ↔ v ≤ 2 * X := fun v => by omega
    constructor
    · intro z
      have z1 : (TreeS (Dt (M0 4) tw) k + 1) / 2 ≤ X := by omega
      have z2 : x ≤ X := by omega
      have z3 : y ≤ 2 * X := (half y).mp (by omega)
      have w1 := px.mp z2
      have w2 := qx.mp z3
      exact ⟨z1, ⟨w1.1, fun i hi j hj hij => w1.2 i (Nat.zero_le _) hi j hij hj⟩, fun i hi j hj c hc1 hij hjc => (half _).mpr (w2.2 i (Nat.zero_le _) hi j hij hj c hjc hc1)⟩
    · rintro ⟨z1, ⟨z0, z2⟩, z3⟩
      have w1 := px.mpr ⟨z0, fun i _ hi j hij hj => z2 i hi j hj hij⟩
      have w2 := qx.mpr ⟨by omega, fun i _ hi j hij hj c hjc hc1 => (half _).mp (z3 i hi j hj c hc1 hij hjc)⟩
      have w3 := (half y).mpr w2
      omega
