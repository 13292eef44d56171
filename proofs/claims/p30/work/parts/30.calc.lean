/-! sums of whole numbers over a stretch; rules for the Option of a run -/
def ss (f : Nat → Int) (a : Nat) : Nat → Int
  | 0 => 0
  | m + 1 => f a + ss f (a + 1) m
theorem ss_congr {f g : Nat → Int} : ∀ (m a : Nat), (∀ i, a ≤ i → i < a + m → f i = g i) → ss f a m = ss g a m
  | 0, _, _ => rfl
  | m + 1, a, h => by
    rw [ss, ss, h a (Nat.le_refl _) (by omega), ss_congr m (a + 1) (fun i h1 h2 => h i (by omega) (by omega))]
theorem ss_add (f g : Nat → Int) : ∀ (m a : Nat), ss (fun i => f i + g i) a m = ss f a m + ss g a m
  | 0, _ => rfl
  | m + 1, a => by rw [ss, ss, ss, ss_add f g m (a + 1)]; omega
theorem ss_sub (f g : Nat → Int) : ∀ (m a : Nat), ss (fun i => f i - g i) a m = ss f a m - ss g a m
  | 0, _ => rfl
  | m + 1, a => by rw [ss, ss, ss, ss_sub f g m (a + 1)]; omega
theorem ss_zero {f : Nat → Int} : ∀ (m a : Nat), (∀ i, a ≤ i → i < a + m → f i = 0) → ss f a m = 0
  | 0, _, _ => rfl
  | m + 1, a, h => by
    rw [ss, h a (Nat.le_refl _) (by omega), ss_zero m (a + 1) (fun i h1 h2 => h i (by omega) (by omega))]; rfl
theorem ss_nn {f : Nat → Int} : ∀ (m a : Nat), (∀ i, a ≤ i → i < a + m → 0 ≤ f i) → 0 ≤ ss f a m
  | 0, _, _ => Int.le_refl 0
  | m + 1, a, h => by
    have h1 := h a (Nat.le_refl _) (by omega)
    have h2 := ss_nn m (a + 1) (fun i h1 h2 => h i (by omega) (by omega))
    rw [ss]; omega
theorem ss_le {f g : Nat → Int} : ∀ (m a : Nat), (∀ i, a ≤ i → i < a + m → f i ≤ g i) → ss f a m ≤ ss g a m
  | 0, _, _ => Int.le_refl 0
  | m + 1, a, h => by
    have h1 := h a (Nat.le_refl _) (by omega)
    have h2 := ss_le m (a + 1) (fun i h1 h2 => h i (by omega) (by omega))
    rw [ss, ss]; omega
theorem ss_ub {f : Nat → Int} {c : Int} : ∀ (m a : Nat), (∀ i, a ≤ i → i < a + m → f i ≤ c) → ss f a m ≤ m * c
  | 0, _, _ => by simp [ss]
  | m + 1, a, h => by
    have h1 := h a (Nat.le_refl _) (by omega)
    have h2 := ss_ub m (a + 1) (fun i h1 h2 => h i (by omega) (by omega))
    rw [ss]
    have e : ((m + 1 : Nat) : Int) * c = m * c + c := by rw [Int.natCast_add, Int.add_mul]; simp
    rw [e]; omega
theorem ss_split (f : Nat → Int) : ∀ (m a n : Nat), ss f a (m + n) = ss f a m + ss f (a + m) n
  | 0, a, n => by simp [ss]
  | m + 1, a, n => by
    rw [show m + 1 + n = (m + n) + 1 by omega, ss, ss, ss_split f m (a + 1) n, show a + 1 + m = a + (m + 1) by omega]; omega
theorem ss_last (f : Nat → Int) (m a : Nat) : ss f a (m + 1) = ss f a m + f (a + m) := by
  rw [ss_split f m a 1]; simp [ss]
/-- one term alone differs -/
theorem ss_upd {f g : Nat → Int} {k : Nat} : ∀ (m a : Nat), a ≤ k → k < a + m → (∀ i, i ≠ k → f i = g i) → ss f a m = ss g a m + (f k - g k)
  | 0, a, h1, h2, _ => absurd h2 (by omega)
  | m + 1, a, h1, h2, h => by
    rcases Nat.lt_or_ge a k with q | q
    · rw [ss, ss, h a (by omega), ss_upd m (a + 1) q (by omega) h]; omega
    · have e : a = k := by omega
      subst e
      rw [ss, ss, ss_congr m (a + 1) (fun i h3 h4 => h i (by omega))]; omega
theorem ss_mul (c : Int) (f : Nat → Int) : ∀ (m a : Nat), ss (fun i => c * f i) a m = c * ss f a m
  | 0, _ => (Int.mul_zero c).symm
  | m + 1, a => by rw [ss, ss, ss_mul c f m (a + 1), Int.mul_add]
/-- the order of two sums -/
theorem ss_swap (F : Nat → Nat → Int) (n b : Nat) : ∀ (m a : Nat), ss (fun i => ss (fun j => F i j) b n) a m = ss (fun j => ss (fun i => F i j) a m) b n
  | 0, a => (ss_zero n b (fun _ _ _ => rfl)).symm
  | m + 1, a => by
    rw [ss, ss_swap F n b m (a + 1), ← ss_add]
    exact ss_congr n b (fun j _ _ => rfl)
/-- a sum with one term -/
theorem ss_one (c : Int) {k m a : Nat} (h1 : a ≤ k) (h2 : k < a + m) : ss (fun i => if i = k then c else 0) a m = c := by
  rw [ss_upd (f := fun i => if i = k then c else 0) (g := fun _ => 0) (k := k) m a h1 h2 (fun i hi => if_neg hi), ss_zero m a (fun _ _ _ => rfl)]
  simp
theorem w_gd {α : Type} {c : Prop} [Decidable c] {x : Option α} {r : α} (h : c) (k : x = some r) : gd c x = some r := by rw [gd_pos h]; exact k
theorem w_gdR {α : Type} {z : Int} {x : Option α} {r : α} (h1 : -2147483648 ≤ z) (h2 : z < 2147483648) (k : x = some r) : gd (inR z) x = some r := w_gd ⟨h1, h2⟩ k
theorem w_gdB {α : Type} {z : Int} {n : Nat} {x : Option α} {r : α} (h1 : 0 ≤ z) (h2 : z < (n : Int)) (k : x = some r) : gd (inB z n) x = some r := w_gd ⟨h1, h2⟩ k
theorem w_bind {α β : Type} {x : Option α} {f : α → Option β} {t : α} {r : β} (h : x = some t) (k : f t = some r) : x.bind f = some r := by rw [h]; exact k
theorem w_t {α : Type} {c : Prop} [Decidable c] {x y : Option α} {r : α} (h : c) (k : x = some r) : (if c then x else y) = some r := by rw [if_pos h]; exact k
theorem w_f {α : Type} {c : Prop} [Decidable c] {x y : Option α} {r : α} (h : ¬ c) (k : y = some r) : (if c then x else y) = some r := by rw [if_neg h]; exact k
theorem w_if {α : Type} {c : Prop} [Decidable c] {x y : Option α} {r : α} (h1 : c → x = some r) (h2 : ¬ c → y = some r) : (if c then x else y) = some r := by
  by_cases h : c
  · rw [if_pos h]; exact h1 h
  · rw [if_neg h]; exact h2 h
/-- the answer of a run has a property -/
def ok {α : Type} (x : Option α) (P : α → Prop) : Prop := ∃ a, x = some a ∧ P a
theorem ok_some {α : Type} {a : α} {P : α → Prop} (h : P a) : ok (some a) P := ⟨a, rfl, h⟩
theorem ok_gd {α : Type} {c : Prop} [Decidable c] {x : Option α} {P : α → Prop} (h : c) (k : ok x P) : ok (gd c x) P := by rw [gd_pos h]; exact k
theorem ok_gdR {α : Type} {z : Int} {x : Option α} {P : α → Prop} (h1 : -2147483648 ≤ z) (h2 : z < 2147483648) (k : ok x P) : ok (gd (inR z) x) P := ok_gd ⟨h1, h2⟩ k
theorem ok_gdB {α : Type} {z : Int} {n : Nat} {x : Option α} {P : α → Prop} (h1 : 0 ≤ z) (h2 : z < (n : Int)) (k : ok x P) : ok (gd (inB z n) x) P := ok_gd ⟨h1, h2⟩ k
theorem ok_eq {α β : Type} {x : Option α} {f : α → Option β} {t : α} {P : β → Prop} (h : x = some t) (k : ok (f t) P) : ok (x.bind f) P := by rw [h]; exact k
theorem ok_bind {α β : Type} {x : Option α} {f : α → Option β} {Q : α → Prop} {P : β → Prop} (h : ok x Q) (k : ∀ t, Q t → ok (f t) P) : ok (x.bind f) P := by
  obtain ⟨t, e, q⟩ := h
  rw [e]
  exact k t q
theorem ok_t {α : Type} {c : Prop} [Decidable c] {x y : Option α} {P : α → Prop} (h : c) (k : ok x P) : ok (if c then x else y) P := by rw [if_pos h]; exact k
theorem ok_f {α : Type} {c : Prop} [Decidable c] {x y : Option α} {P : α → Prop} (h : ¬ c) (k : ok y P) : ok (if c then x else y) P := by rw [if_neg h]; exact k
theorem ok_if {α : Type} {c : Prop} [Decidable c] {x y : Option α} {P : α → Prop} (h1 : c → ok x P) (h2 : ¬ c → ok y P) : ok (if c then x else y) P := by
  by_cases h : c
  · rw [if_pos h]; exact h1 h
  · rw [if_neg h]; exact h2 h
theorem ok_imp {α : Type} {x : Option α} {P Q : α → Prop} (h : ok x P) (k : ∀ a, P a → Q a) : ok x Q := by
  obtain ⟨a, e, p⟩ := h
  exact ⟨a, e, k a p⟩
theorem FU_big : 1000000000000 < FU := by unfold FU; decide
/-! the grid: what an edge joins, what lies on the sides of a node -/
def lo (e : Nat) : Nat := if e < 30 then 6 * (e / 5) + e % 5 else e - 30
def hi (e : Nat) : Nat := if e < 30 then lo e + 1 else lo e + 6
/-- the edge on a side of a node, 60 where there is none -/
def bes (v s : Nat) : Nat := if s = 0 then (if v % 6 < 5 then 5 * (v / 6) + v % 6 else 60) else if s = 1 then (if v < 30 then 30 + v else 60) else if s = 2 then (if 0 < v % 6 then 5 * (v / 6) + v % 6 - 1 else 60) else (if 6 ≤ v then 24 + v else 60)
def oth (e v : Nat) : Nat := if v = lo e then hi e else lo e
theorem lo_lt {e : Nat} (h : e < 60) : lo e < 36 := by revert e; decide
theorem hi_lt {e : Nat} (h : e < 60) : hi e < 36 := by revert e; decide
theorem lo_hi {e : Nat} (h : e < 60) : lo e < hi e := by revert e; decide
theorem bes_inc : ∀ v, v < 36 → ∀ s, s < 4 → bes v s = 60 ∨ (bes v s < 60 ∧ (lo (bes v s) = v ∨ hi (bes v s) = v)) := by decide
theorem bes_inj : ∀ v, v < 36 → ∀ s, s < 4 → ∀ t, t < 4 → bes v s = bes v t → bes v s = 60 ∨ s = t := by decide
theorem inc_bes : ∀ e, e < 60 → ∀ v, v < 36 → (lo e = v ∨ hi e = v) → ∃ s, s < 4 ∧ bes v s = e := by decide
theorem oth_lt {e v : Nat} (h : e < 60) : oth e v < 36 := by unfold oth; split; exact hi_lt h; exact lo_lt h
/-- the class's grid -/
def GR (M : Mem) : Prop := (∀ e, e < 60 → M 0 e = (lo e : Int) ∧ M 1 e = (hi e : Int) ∧ 1 ≤ M 4 e ∧ M 4 e ≤ 59) ∧ ∀ v, v < 36 → ∀ s, s < 4 → M 2 (v * 4 + s) = if bes v s = 60 then -1 else (bes v s : Int)
theorem gr_low {M : Mem} (h : GR M) {e : Nat} (he : e < 60) : fX2_low M (e : Int) = some (lo e : Int) := by
  unfold fX2_low
  refine w_gdB (by omega) (by omega) ?_
  rw [Int.toNat_natCast, (h.1 e he).1]
theorem gr_high {M : Mem} (h : GR M) {e : Nat} (he : e < 60) : fX2_high M (e : Int) = some (hi e : Int) := by
  unfold fX2_high
  refine w_gdB (by omega) (by omega) ?_
  rw [Int.toNat_natCast, (h.1 e he).2.1]
theorem gr_price {M : Mem} {e : Nat} (he : e < 60) : fX2_price M (e : Int) = some (M 4 e) := by
  unfold fX2_price
  refine w_gdB (by omega) (by omega) ?_
  rw [Int.toNat_natCast]
theorem gr_beside {M : Mem} (h : GR M) {v s : Nat} (hv : v < 36) (hs : s < 4) : fX2_beside M (v : Int) (s : Int) = some (if bes v s = 60 then -1 else (bes v s : Int)) := by
  unfold fX2_beside
  refine w_gdB (by omega) (by omega) ?_
  rw [show ((v : Int) * 4 + (s : Int)).toNat = v * 4 + s by omega, h.2 v hv s hs]
theorem gr_other {M : Mem} (h : GR M) {e v : Nat} (he : e < 60) (hv : v < 36) : fX2_otherEnd M (e : Int) (v : Int) = some (oth e v : Int) := by
  have h1 := (h.1 e he).1
  have h2 := (h.1 e he).2.1
  have h3 := lo_lt he
  unfold fX2_otherEnd
  refine w_gdB (by omega) (by omega) ?_
  refine w_gdR (by omega) (by omega) ?_
  rw [Int.toNat_natCast, h1, h2]
  refine w_gdR (by omega) (by omega) ?_
  unfold oth
  by_cases c : v = lo e
  · rw [if_pos c]
    refine w_bind (w_t (by omega) (w_gdB (by omega) (by omega) rfl)) rfl
  · rw [if_neg c]
    refine w_bind (w_f (by omega) (w_gdB (by omega) (by omega) rfl)) rfl
