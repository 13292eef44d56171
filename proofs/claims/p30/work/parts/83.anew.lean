/-! the shapes with two nodes at which three or more meet -/
theorem allB {k i : Nat} : (2 ^ k - 1).testBit i = true ↔ i < k := by
  rw [Nat.testBit_two_pow_sub_one]
  simp
def maxF (a b : Int) : Int := if a ≤ b then b else a
theorem maxF_ge (a b : Int) : a ≤ maxF a b ∧ b ≤ maxF a b ∧ (maxF a b = a ∨ maxF a b = b) := by
  unfold maxF
  split <;> omega
theorem CLo_max {p g h : Nat → Int} (hg : CLo p g) (hh : CLo p h) : CLo p (fun v => maxF (g v) (h v)) := fun e he => by
  have a := hg e he
  have b := hh e he
  have m1 := maxF_ge (g (lo e)) (h (lo e))
  have m2 := maxF_ge (g (hi e)) (h (hi e))
  show maxF (g (hi e)) (h (hi e)) ≤ maxF (g (lo e)) (h (lo e)) + p e ∧ maxF (g (lo e)) (h (lo e)) ≤ maxF (g (hi e)) (h (hi e)) + p e
  omega
/-- raising one row of a greatest table, where the rules allow it, raises nothing -/
theorem raiseT {p : Nat → Int} {k : Nat} {tw : Nat → Nat} {T : Nat → Nat → Int} (h : STt p k tw T) {S : Nat} (h1 : 0 < S) (h2 : S < 2 ^ k) {q : Nat → Int} (hq : CLo p q) (hs : ∀ i, i < k → S = 2 ^ i → q (tw i) ≤ 0) (hp2 : ∀ A, 0 < A → A < S → A &&& S = A → ∀ v, v < 36 → q v ≤ T A v + T (S - A) v) {v : Nat} (hv : v < 36) : q v ≤ T S v := by
  obtain ⟨g, hg⟩ : ∃ g : Nat → Nat → Int, ∀ R x, g R x = if R = S then maxF (T S x) (q x) else T R x := ⟨_, fun _ _ => rfl⟩
  have ge : ∀ R x, T R x ≤ g R x := fun R x => by
    rw [hg]
    by_cases c : R = S
    · rw [if_pos c, c]; exact (maxF_ge _ _).1
    · rw [if_neg c]; exact Int.le_refl _
  have feas : STf p k tw g := by
    refine ⟨fun R r1 r2 => ?_, fun i hi => ?_, fun W hW A a1 a2 a3 x hx => ?_⟩
    · by_cases c : R = S
      · have := CLo_max (h.1.1 S h1 h2) hq
        exact this.congr (fun x _ => by rw [hg, if_pos c])
      · exact (h.1.1 R r1 r2).congr (fun x _ => by rw [hg, if_neg c])
    · rw [hg]
      by_cases c : 2 ^ i = S
      · rw [if_pos c]
        have a := h.1.2.1 i hi
        rw [c] at a
        have b := hs i hi c.symm
        have := maxF_ge (T S (tw i)) (q (tw i))
        omega
      · rw [if_neg c]; exact h.1.2.1 i hi
    · have t := h.1.2.2 W hW A a1 a2 a3 x hx
      by_cases c : W = S
      · have e1 : g A x = T A x := by rw [hg, if_neg (by omega)]
        have e2 : g (W - A) x = T (W - A) x := by rw [hg, if_neg (by omega)]
        have e3 : g W x = maxF (T S x) (q x) := by rw [hg, if_pos c]
        rw [e1, e2, e3]
        rw [c] at t a2 a3 ⊢
        have := hp2 A a1 a2 a3 x hx
        have := maxF_ge (T S x) (q x)
        omega
      · have e3 : g W x = T W x := by rw [hg, if_neg c]
        rw [e3]
        have := ge A x
        have := ge (W - A) x
        omega
  have := h.2 g feas S h1 h2 v hv
  rw [hg, if_pos rfl] at this
  have := maxF_ge (T S v) (q v)
  omega
theorem T_single {p : Nat → Int} (hp : PR p) {k : Nat} (hk : k ≤ 7) {tw : Nat → Nat} (htw : ∀ i, i < k → tw i < 36) {T : Nat → Nat → Int} (h : STt p k tw T) {i : Nat} (hi : i < k) {v : Nat} (hv : v < 36) : T (2 ^ i) v = dsF p (tw i) v := by
  have d := dsF_is hp (htw i hi)
  refine Int.le_antisymm (d.2.2 _ (h.1.1 _ (Nat.two_pow_pos i) (pow_mono hi)) (h.1.2.1 i hi) v hv) ?_
  refine raiseT h (Nat.two_pow_pos i) (pow_mono hi) d.1 (fun j hj e => ?_) (fun A a1 a2 a3 => ?_) hv
  · rw [← pow_inj e]; exact d.2.1
  · have := pa2 i (by omega) A a2 a3
    omega
theorem T_near {p : Nat → Int} (hp : PR p) {g : Nat → Int} (h : CLo p g) {x y : Nat} (hx : x < 36) (hy : y < 36) : g y ≤ g x + dsF p x y := by
  have c : CLo p (fun v => g v - g x) := fun e he => by
    have := h e he
    show g (hi e) - g x ≤ g (lo e) - g x + p e ∧ g (lo e) - g x ≤ g (hi e) - g x + p e
    omega
  have := (dsF_is hp hx).2.2 _ c (by show g x - g x ≤ 0; omega) y hy
  have this : g y - g x ≤ dsF p x y := this
  omega
/-- a set of two towns or more is joined at some node from two parts -/
theorem unroll {p : Nat → Int} (hp : PR p) {k : Nat} {tw : Nat → Nat} {T : Nat → Nat → Int} (h : STt p k tw T) {S : Nat} (h1 : 0 < S) (h2 : S < 2 ^ k) (hns : ¬ ∃ i : Nat, S = 2 ^ i) {v : Nat} (hv : v < 36) : ∃ u A : Nat, u < 36 ∧ 0 < A ∧ A < S ∧ A &&& S = A ∧ T A u + T (S - A) u + dsF p u v ≤ T S v := by
  refine Classical.byContradiction fun q => ?_
  have c : CLo p (fun x => T S v + 1 - dsF p v x) := fun e he => by
    have := (dsF_is hp hv).1 e he
    show T S v + 1 - dsF p v (hi e) ≤ T S v + 1 - dsF p v (lo e) + p e ∧ T S v + 1 - dsF p v (lo e) ≤ T S v + 1 - dsF p v (hi e) + p e
    omega
  have r := raiseT h h1 h2 c (fun i _ e => absurd ⟨i, e⟩ hns) (fun A a1 a2 a3 x hx => by
    show T S v + 1 - dsF p v x ≤ T A x + T (S - A) x
    have s := dsF_sym hp hx hv
    have n : ¬ (T A x + T (S - A) x + dsF p x v ≤ T S v) := fun z => q ⟨x, A, hx, a1, a2, a3, z⟩
    omega) hv
  have r : T S v + 1 - dsF p v v ≤ T S v := r
  rw [dsF_self hp hv] at r
  omega
theorem sumT {p : Nat → Int} (hp : PR p) {k : Nat} (hk : k ≤ 7) {tw : Nat → Nat} (htw : ∀ i, i < k → tw i < 36) {T : Nat → Nat → Int} (h : STt p k tw T) {x : Nat} (hx : x < 36) : ∀ S, 0 < S → S < 2 ^ k → T S x ≤ ss (fun i => if S.testBit i = true then dsF p (tw i) x else 0) 0 k := by
  intro S
  induction S using Nat.strongRecOn with
  | ind S ih =>
    intro h1 h2
    have hS : S < 128 := by have := (pow7 k (by omega)).1; omega
    rcases pa3 S hS h1 with ⟨i, i1, i2⟩ | ⟨R, r1, r2, r3⟩
    · have hik : i < k := pow_lt (by rw [← i2]; exact h2)
      rw [i2, T_single hp hk htw h hik hx, ss_congr (g := fun j => if j = i then dsF p (tw i) x else 0) k 0 (fun j _ _ => by
        rw [Nat.testBit_two_pow]
        by_cases c : j = i
        · rw [if_pos c, c, if_pos (by simp)]
        · rw [if_neg c, if_neg (by simp; omega)]), ss_one _ (Nat.zero_le _) (by omega)]
      exact Int.le_refl _
    · have a := h.1.2.2 S h2 R r2 r1 r3 x hx
      have b := ih R r1 r2 (by omega)
      have c := ih (S - R) (by omega) (by omega) (by omega)
      have e : ss (fun i => if S.testBit i = true then dsF p (tw i) x else 0) 0 k = ss (fun i => if R.testBit i = true then dsF p (tw i) x else 0) 0 k + ss (fun i => if (S - R).testBit i = true then dsF p (tw i) x else 0) 0 k := by
        rw [← ss_add]
        refine ss_congr k 0 (fun i _ hi => ?_)
        have d := pa6 S hS R (by omega) r3 i (by omega)
        show (if S.testBit i = true then dsF p (tw i) x else 0) = (if R.testBit i = true then dsF p (tw i) x else 0) + (if (S - R).testBit i = true then dsF p (tw i) x else 0)
        by_cases q : R.testBit i = true
        · have q2 := and_sub r3 q
          rw [if_pos q, if_pos q2, if_neg (by rw [d, q, q2]; decide)]; omega
        · have q1 : R.testBit i = false := by simpa using q
          by_cases q2 : S.testBit i = true
          · rw [if_neg q, if_pos q2, if_pos (by rw [d, q1, q2]; rfl)]; omega
          · have q3 : S.testBit i = false := by simpa using q2
            rw [if_neg q, if_neg q2, if_neg (by rw [d, q1, q3]; decide)]; rfl
      omega
noncomputable def shp (p : Nat → Int) (k : Nat) (tw : Nat → Nat) (x y : Nat) : Int := dsF p x y + ss (fun t => mn (dsF p (tw t) y) (dsF p (tw t) x)) 0 k
/-- no shape costs less than the least -/
theorem shp_ge {p : Nat → Int} (hp : PR p) {k : Nat} (hk : k ≤ 7) (h1k : 1 ≤ k) {tw : Nat → Nat} (htw : ∀ i, i < k → tw i < 36) {T : Nat → Nat → Int} (h : STt p k tw T) {x y : Nat} (hx : x < 36) (hy : y < 36) : T (2 ^ k - 1) (tw 0) ≤ shp p k tw x y := by
  have hnn : pNN p := fun e he => (hp e he).1
  have p1 := pow_mono (i := 0) (k := k) (by omega)
  rw [Nat.pow_zero] at p1
  have p7 := (pow7 k (by omega)).1
  have root : ∀ z, z < 36 → T (2 ^ k - 1) (tw 0) ≤ T (2 ^ k - 1) z := fun z hz => reroot hnn hk htw h (by omega) (by omega) hz (by omega) (allB.mpr (by omega)) (by omega) (by omega) (fun i hi _ => allB.mpr hi)
  have d0 := (dsF_bd hp hx hy).1
  obtain ⟨P, q1, q2⟩ := mask_ex (fun i => ¬ (dsF p (tw i) y < dsF p (tw i) x)) k
  have pS : P &&& (2 ^ k - 1) = P := sub_and (fun i q => allB.mpr ((q2 i).mp q).1)
  have sumX : ∀ (S : Nat) (z : Nat), (∀ i, i < k → S.testBit i = true → dsF p (tw i) z = mn (dsF p (tw i) y) (dsF p (tw i) x)) → ss (fun i => if S.testBit i = true then dsF p (tw i) z else 0) 0 k = ss (fun i => if S.testBit i = true then mn (dsF p (tw i) y) (dsF p (tw i) x) else 0) 0 k := fun S z hz => ss_congr k 0 (fun i _ hi => by
    by_cases c : S.testBit i = true
    · rw [if_pos c, if_pos c, hz i (by omega) c]
    · rw [if_neg c, if_neg c])
  have whole : ss (fun i => if (2 ^ k - 1).testBit i = true then mn (dsF p (tw i) y) (dsF p (tw i) x) else 0) 0 k = ss (fun t => mn (dsF p (tw t) y) (dsF p (tw t) x)) 0 k := ss_congr k 0 (fun i _ hi => if_pos (allB.mpr (by omega)))
  have nearX : ∀ i, P.testBit i = true → dsF p (tw i) x = mn (dsF p (tw i) y) (dsF p (tw i) x) := fun i q => by
    have := ((q2 i).mp q).2
    unfold mn
    rw [if_neg this]
  have nearY : ∀ i, i < k → ¬ P.testBit i = true → dsF p (tw i) y = mn (dsF p (tw i) y) (dsF p (tw i) x) := fun i hi q => by
    have : dsF p (tw i) y < dsF p (tw i) x := Classical.byContradiction fun z => q ((q2 i).mpr ⟨hi, z⟩)
    unfold mn
    rw [if_pos this]
  unfold shp
  by_cases z1 : P = 0
  · have a := sumT hp hk htw h hy (2 ^ k - 1) (by omega) (by omega)
    rw [sumX _ y (fun i hi _ => nearY i hi (by rw [z1, Nat.zero_testBit]; decide)), whole] at a
    have := root y hy
    omega
  · by_cases z2 : P = 2 ^ k - 1
    · have a := sumT hp hk htw h hx (2 ^ k - 1) (by omega) (by omega)
      rw [sumX _ x (fun i hi q => nearX i (by rw [z2]; exact q)), whole] at a
      have := root x hx
      omega
    · have ple : P ≤ 2 ^ k - 1 := by rw [← pS]; exact Nat.and_le_right
      have a := sumT hp hk htw h hx P (by omega) q1
      have b := sumT hp hk htw h hy (2 ^ k - 1 - P) (by omega) (by omega)
      have bits : ∀ i, i < k → ((2 ^ k - 1 - P).testBit i = true ↔ ¬ P.testBit i = true) := fun i hi => by
        rw [pa6 _ (by omega) P (by omega) pS i (by omega), allB.mpr hi]
        simp
      rw [sumX P x (fun i _ q => nearX i q)] at a
      rw [sumX (2 ^ k - 1 - P) y (fun i hi q => nearY i hi ((bits i hi).mp q))] at b
      have e : ss (fun t => mn (dsF p (tw t) y) (dsF p (tw t) x)) 0 k = ss (fun i => if P.testBit i = true then mn (dsF p (tw i) y) (dsF p (tw i) x) else 0) 0 k + ss (fun i => if (2 ^ k - 1 - P).testBit i = true then mn (dsF p (tw i) y) (dsF p (tw i) x) else 0) 0 k := by
        rw [← ss_add]
        refine ss_congr k 0 (fun i _ hi => ?_)
        have d := bits i (by omega)
        show mn (dsF p (tw i) y) (dsF p (tw i) x) = (if P.testBit i = true then mn (dsF p (tw i) y) (dsF p (tw i) x) else 0) + (if (2 ^ k - 1 - P).testBit i = true then mn (dsF p (tw i) y) (dsF p (tw i) x) else 0)
        by_cases c : P.testBit i = true
        · rw [if_pos c, if_neg (fun w => d.mp w c)]; omega
        · rw [if_neg c, if_pos (d.mpr c)]; omega
      have f := h.1.2.2 (2 ^ k - 1) (by omega) P (by omega) (by omega) pS x hx
      have g := T_near hp (h.1.1 (2 ^ k - 1 - P) (by omega) (by omega)) hy hx
      have s := dsF_sym hp hx hy
      have := root x hx
      omega
theorem pa14 : ∀ A : Nat, A < 14 → 0 < A → A &&& 14 = A → A = 2 ∨ A = 4 ∨ A = 8 ∨ A = 12 ∨ A = 10 ∨ A = 6 := by decide
theorem pa12 : ∀ A : Nat, A < 12 → 0 < A → A &&& 12 = A → (A = 4 ∧ 12 - A = 8) ∨ (A = 8 ∧ 12 - A = 4) := by decide
theorem pa10 : ∀ A : Nat, A < 10 → 0 < A → A &&& 10 = A → (A = 2 ∧ 10 - A = 8) ∨ (A = 8 ∧ 10 - A = 2) := by decide
theorem pa06 : ∀ A : Nat, A < 6 → 0 < A → A &&& 6 = A → (A = 2 ∧ 6 - A = 4) ∨ (A = 4 ∧ 6 - A = 2) := by decide
theorem notpow : ∀ S : Nat, (S = 6 ∨ S = 10 ∨ S = 12 ∨ S = 14) → ¬ ∃ i : Nat, S = 2 ^ i := fun S hS ⟨i, hi⟩ => by
  have h : i < 7 := Classical.byContradiction fun q => by
    have : 2 ^ 7 ≤ 2 ^ i := Nat.pow_le_pow_right (by decide) (by omega)
    have e : (2 : Nat) ^ 7 = 128 := by decide
    omega
  have : ∀ i : Nat, i < 7 → 2 ^ i ≠ 6 ∧ 2 ^ i ≠ 10 ∧ 2 ^ i ≠ 12 ∧ 2 ^ i ≠ 14 := by decide
  have := this i h
  omega
/-- and some shape costs the least -/
theorem shp_le {p : Nat → Int} (hp : PR p) {k : Nat} (h2k : 2 ≤ k) (h4k : k ≤ 4) {tw : Nat → Nat} (htw : ∀ i, i < k → tw i < 36) {T : Nat → Nat → Int} (h : STt p k tw T) : ∃ x y : Nat, x ≤ y ∧ y < 36 ∧ shp p k tw x y ≤ T (2 ^ k - 1) (tw 0) := by
  have hnn : pNN p := fun e he => (hp e he).1
  have t0 := htw 0 (by omega)
  have p1 := pow_mono (i := 0) (k := k) (by omega)
  rw [Nat.pow_zero] at p1
  have root : ∀ R, 0 < R → R < 2 ^ k → T R (tw 0) ≤ T (2 ^ k - 1) (tw 0) := fun R r1 r2 => reroot hnn (by omega) htw h (by omega) (by omega) t0 (by omega) (allB.mpr (by omega)) r1 r2 (fun i hi _ => allB.mpr hi)
  have sgl : ∀ i, i < k → ∀ v, v < 36 → T (2 ^ i) v = dsF p (tw i) v := fun i hi v hv => T_single hp (by omega) htw h hi hv
  have kc : k = 2 ∨ k = 3 ∨ k = 4 := by omega
  rcases kc with rfl | rfl | rfl
  · have r := root 2 (by decide) (by decide)
    have s1 := sgl 1 (by decide) _ t0
    rw [show (2 : Nat) ^ 1 = 2 by decide] at s1
    refine ⟨tw 0, tw 0, Nat.le_refl _, t0, ?_⟩
    unfold shp
    simp only [ss]
    have z := dsF_self hp t0
    have m0 := mn_le (dsF p (tw 0) (tw 0)) (dsF p (tw 0) (tw 0))
    have m1 := mn_le (dsF p (tw (0 + 1)) (tw 0)) (dsF p (tw (0 + 1)) (tw 0))
    rw [show (0 : Nat) + 1 = 1 by rfl] at m1 ⊢
    omega
  · have r := root 6 (by decide) (by decide)
    obtain ⟨u, A, u1, a1, a2, a3, a4⟩ := unroll hp h (S := 6) (by decide) (by decide) (notpow 6 (by omega)) t0
    have s1 := sgl 1 (by decide) u u1
    have s2 := sgl 2 (by decide) u u1
    rw [show (2 : Nat) ^ 1 = 2 by decide] at s1
    rw [show (2 : Nat) ^ 2 = 4 by decide] at s2
    have sy := dsF_sym hp u1 t0
    have z := dsF_self hp u1
    refine ⟨u, u, Nat.le_refl _, u1, ?_⟩
    unfold shp
    simp only [ss]
    rw [show (0 : Nat) + 1 = 1 by rfl, show (1 : Nat) + 1 = 2 by rfl]
    have m0 := mn_le (dsF p (tw 0) u) (dsF p (tw 0) u)
    have m1 := mn_le (dsF p (tw 1) u) (dsF p (tw 1) u)
    have m2 := mn_le (dsF p (tw 2) u) (dsF p (tw 2) u)
    rcases pa06 A a2 a1 a3 with ⟨e1, e2⟩ | ⟨e1, e2⟩
    · rw [e2, e1] at a4; omega
    · rw [e2, e1] at a4; omega
  · have r := root 14 (by decide) (by decide)
    obtain ⟨u, A, u1, a1, a2, a3, a4⟩ := unroll hp h (S := 14) (by decide) (by decide) (notpow 14 (by omega)) t0
    have fin : ∀ x, x < 36 → ∀ a b c : Int, (∀ y, y < 36 → True) → (a = dsF p (tw 1) u ∨ a = dsF p (tw 1) x) → (b = dsF p (tw 2) u ∨ b = dsF p (tw 2) x) → (c = dsF p (tw 3) u ∨ c = dsF p (tw 3) x) → a + b + c + dsF p x u + dsF p u (tw 0) ≤ T 14 (tw 0) → ∃ x y : Nat, x ≤ y ∧ y < 36 ∧ shp p 4 tw x y ≤ T (2 ^ 4 - 1) (tw 0) := by
      intro x hx a b c _ ha hb hc hle
      have sy := dsF_sym hp u1 t0
      have sxu := dsF_sym hp u1 hx
      have f0 := mn_le (dsF p (tw 0) x) (dsF p (tw 0) u)
      have f1 := mn_le (dsF p (tw 1) x) (dsF p (tw 1) u)
      have f2 := mn_le (dsF p (tw 2) x) (dsF p (tw 2) u)
      have f3 := mn_le (dsF p (tw 3) x) (dsF p (tw 3) u)
      have g0 := mn_le (dsF p (tw 0) u) (dsF p (tw 0) x)
      have g1 := mn_le (dsF p (tw 1) u) (dsF p (tw 1) x)
      have g2 := mn_le (dsF p (tw 2) u) (dsF p (tw 2) x)
      have g3 := mn_le (dsF p (tw 3) u) (dsF p (tw 3) x)
      by_cases o : u ≤ x
      · refine ⟨u, x, o, hx, ?_⟩
        unfold shp
        simp only [ss]
        rw [show (0 : Nat) + 1 = 1 by rfl, show (1 : Nat) + 1 = 2 by rfl, show (2 : Nat) + 1 = 3 by rfl]
        have : mn (dsF p (tw 1) x) (dsF p (tw 1) u) ≤ a := by rcases ha with q | q <;> omega
        have : mn (dsF p (tw 2) x) (dsF p (tw 2) u) ≤ b := by rcases hb with q | q <;> omega
        have : mn (dsF p (tw 3) x) (dsF p (tw 3) u) ≤ c := by rcases hc with q | q <;> omega
        omega
      · refine ⟨x, u, by omega, u1, ?_⟩
        unfold shp
        simp only [ss]
        rw [show (0 : Nat) + 1 = 1 by rfl, show (1 : Nat) + 1 = 2 by rfl, show (2 : Nat) + 1 = 3 by rfl]
        have : mn (dsF p (tw 1) u) (dsF p (tw 1) x) ≤ a := by rcases ha with q | q <;> omega
        have : mn (dsF p (tw 2) u) (dsF p (tw 2) x) ≤ b := by rcases hb with q | q <;> omega
        have : mn (dsF p (tw 3) u) (dsF p (tw 3) x) ≤ c := by rcases hc with q | q <;> omega
        omega
    have s1 := sgl 1 (by decide)
    have s2 := sgl 2 (by decide)
    have s3 := sgl 3 (by decide)
    rw [show (2 : Nat) ^ 1 = 2 by decide] at s1
    rw [show (2 : Nat) ^ 2 = 4 by decide] at s2
    rw [show (2 : Nat) ^ 3 = 8 by decide] at s3
    have two12 : T 2 u + T 12 u + dsF p u (tw 0) ≤ T 14 (tw 0) → ∃ x y : Nat, x ≤ y ∧ y < 36 ∧ shp p 4 tw x y ≤ T (2 ^ 4 - 1) (tw 0) := fun hle => by
      obtain ⟨x, B, x1, b1, b2, b3, b4⟩ := unroll hp h (S := 12) (by decide) (by decide) (notpow 12 (by omega)) u1
      have := s1 u u1
      have := s2 x x1
      have := s3 x x1
      refine fin x x1 _ _ _ (fun _ _ => trivial) (Or.inl rfl) (Or.inr rfl) (Or.inr rfl) ?_
      rcases pa12 B b2 b1 b3 with ⟨e1, e2⟩ | ⟨e1, e2⟩
      · rw [e2, e1] at b4; omega
      · rw [e2, e1] at b4; omega
    have two10 : T 4 u + T 10 u + dsF p u (tw 0) ≤ T 14 (tw 0) → ∃ x y : Nat, x ≤ y ∧ y < 36 ∧ shp p 4 tw x y ≤ T (2 ^ 4 - 1) (tw 0) := fun hle => by
      obtain ⟨x, B, x1, b1, b2, b3, b4⟩ := unroll hp h (S := 10) (by decide) (by decide) (notpow 10 (by omega)) u1
      have := s1 x x1
      have := s2 u u1
      have := s3 x x1
      refine fin x x1 _ _ _ (fun _ _ => trivial) (Or.inr rfl) (Or.inl rfl) (Or.inr rfl) ?_
      rcases pa10 B b2 b1 b3 with ⟨e1, e2⟩ | ⟨e1, e2⟩
      · rw [e2, e1] at b4; omega
      · rw [e2, e1] at b4; omega
    have two6 : T 8 u + T 6 u + dsF p u (tw 0) ≤ T 14 (tw 0) → ∃ x y : Nat, x ≤ y ∧ y < 36 ∧ shp p 4 tw x y ≤ T (2 ^ 4 - 1) (tw 0) := fun hle => by
      obtain ⟨x, B, x1, b1, b2, b3, b4⟩ := unroll hp h (S := 6) (by decide) (by decide) (notpow 6 (by omega)) u1
      have := s1 x x1
      have := s2 x x1
      have := s3 u u1
      refine fin x x1 _ _ _ (fun _ _ => trivial) (Or.inr rfl) (Or.inr rfl) (Or.inl rfl) ?_
      rcases pa06 B b2 b1 b3 with ⟨e1, e2⟩ | ⟨e1, e2⟩
      · rw [e2, e1] at b4; omega
      · rw [e2, e1] at b4; omega
    rcases pa14 A a2 a1 a3 with rfl | rfl | rfl | rfl | rfl | rfl
    · have a4 : T 2 u + T 12 u + dsF p u (tw 0) ≤ T 14 (tw 0) := a4
      exact two12 a4
    · have a4 : T 4 u + T 10 u + dsF p u (tw 0) ≤ T 14 (tw 0) := a4
      exact two10 a4
    · have a4 : T 8 u + T 6 u + dsF p u (tw 0) ≤ T 14 (tw 0) := a4
      exact two6 a4
    · have a4 : T 12 u + T 2 u + dsF p u (tw 0) ≤ T 14 (tw 0) := a4
      exact two12 (by omega)
    · have a4 : T 10 u + T 4 u + dsF p u (tw 0) ≤ T 14 (tw 0) := a4
      exact two10 (by omega)
    · have a4 : T 6 u + T 8 u + dsF p u (tw 0) ≤ T 14 (tw 0) := a4
      exact two6 (by omega)
