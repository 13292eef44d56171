/-! the greatest closed function below a given one: what a measuring of ways comes to -/
def CLo (p g : Nat → Int) : Prop := ∀ e, e < 60 → g (hi e) ≤ g (lo e) + p e ∧ g (lo e) ≤ g (hi e) + p e
def LE36 (g f : Nat → Int) : Prop := ∀ v, v < 36 → g v ≤ f v
def GC (p f t : Nat → Int) : Prop := CLo p t ∧ LE36 t f ∧ ∀ g, CLo p g → LE36 g f → LE36 g t
theorem GC_one {p f t u : Nat → Int} (h : GC p f t) (k : GC p f u) : ∀ v, v < 36 → t v = u v := fun v hv =>
  Int.le_antisymm (k.2.2 t h.1 h.2.1 v hv) (h.2.2 u k.1 k.2.1 v hv)
def put (r : Nat → Int) (v : Nat) (x : Int) : Nat → Int := fun i => if i = v then x else r i
theorem put_at (r : Nat → Int) (v : Nat) (x : Int) : put r v x v = x := if_pos rfl
theorem put_ne {r : Nat → Int} {v i : Nat} {x : Int} (h : i ≠ v) : put r v x i = r i := if_neg h
theorem put_sum (r : Nat → Int) {v : Nat} (x : Int) (hv : v < 36) : ss (put r v x) 0 36 = ss r 0 36 + (x - r v) := by
  rw [ss_upd (f := put r v x) (g := r) (k := v) 36 0 (Nat.zero_le _) (by omega) (fun i hi => put_ne hi), put_at]
/-- lowering by one edge keeps every closed function below -/
theorem relax_keep {p f r : Nat → Int} (hr : ∀ g, CLo p g → LE36 g f → LE36 g r) {a b : Nat} {x : Int} (hb : ∀ g, CLo p g → LE36 g f → g b ≤ x) : ∀ g, CLo p g → LE36 g f → LE36 g (put r b x) := by
  intro g h1 h2 v hv
  by_cases c : v = b
  · rw [c, put_at]; exact hb g h1 h2
  · rw [put_ne c]; exact hr g h1 h2 v hv
theorem GC_ex_aux {p f : Nat → Int} (hp : ∀ e, e < 60 → 0 ≤ p e) : ∀ (n : Nat) (r : Nat → Int), ss r 0 36 ≤ (n : Int) → (∀ v, v < 36 → 0 ≤ r v) → LE36 r f → (∀ g, CLo p g → LE36 g f → LE36 g r) → ∃ t, GC p f t ∧ ∀ v, v < 36 → 0 ≤ t v := by
  intro n
  induction n with
  | zero =>
    intro r h1 h2 h3 h4
    have z : ∀ v, v < 36 → r v = 0 := by
      intro v hv
      have a := put_sum r 0 hv
      have b := ss_nn (f := put r v 0) 36 0 (fun i _ hi => by
        by_cases c : i = v
        · rw [c, put_at]; exact Int.le_refl 0
        · rw [put_ne c]; exact h2 i (by omega))
      have c := h2 v hv
      omega
    refine ⟨r, ⟨fun e he => ?_, h3, h4⟩, h2⟩
    have a := z _ (lo_lt he)
    have b := z _ (hi_lt he)
    have c := hp e he
    omega
  | succ n ih =>
    intro r h1 h2 h3 h4
    by_cases c : CLo p r
    · exact ⟨r, ⟨c, h3, h4⟩, h2⟩
    · have c2 : ∃ e, e < 60 ∧ ¬ (r (hi e) ≤ r (lo e) + p e ∧ r (lo e) ≤ r (hi e) + p e) := by
        refine Classical.byContradiction fun q => c fun e he => ?_
        exact Classical.byContradiction fun q2 => q ⟨e, he, q2⟩
      obtain ⟨e, he, hne⟩ := c2
      have hl := lo_lt he
      have hh := hi_lt he
      have hpe := hp e he
      have l0 := h2 _ hl
      have u0 := h2 _ hh
      by_cases d : r (hi e) ≤ r (lo e) + p e
      · have d2 : r (hi e) + p e < r (lo e) := by omega
        refine ih (put r (lo e) (r (hi e) + p e)) ?_ ?_ ?_ ?_
        · rw [put_sum r _ hl]; omega
        · intro v hv
          by_cases q : v = lo e
          · rw [q, put_at]; omega
          · rw [put_ne q]; exact h2 v hv
        · intro v hv
          by_cases q : v = lo e
          · have := h3 _ hl
            rw [q, put_at]; omega
          · rw [put_ne q]; exact h3 v hv
        · refine relax_keep (a := hi e) h4 fun g g1 g2 => ?_
          have a := h4 g g1 g2 _ hh
          have b := (g1 e he).2
          omega
      · have d2 : r (lo e) + p e < r (hi e) := by omega
        refine ih (put r (hi e) (r (lo e) + p e)) ?_ ?_ ?_ ?_
        · rw [put_sum r _ hh]; omega
        · intro v hv
          by_cases q : v = hi e
          · rw [q, put_at]; omega
          · rw [put_ne q]; exact h2 v hv
        · intro v hv
          by_cases q : v = hi e
          · have := h3 _ hh
            rw [q, put_at]; omega
          · rw [put_ne q]; exact h3 v hv
        · refine relax_keep (a := lo e) h4 fun g g1 g2 => ?_
          have a := h4 g g1 g2 _ hl
          have b := (g1 e he).1
          omega
theorem GC_ex {p f : Nat → Int} (hp : ∀ e, e < 60 → 0 ≤ p e) (hf : ∀ v, v < 36 → 0 ≤ f v) : ∃ t, GC p f t ∧ ∀ v, v < 36 → 0 ≤ t v :=
  GC_ex_aux hp (ss f 0 36).toNat f (by omega) hf (fun _ _ => Int.le_refl _) (fun _ _ h => h)
/-- a node that lies lower than its start has a neighbour that it comes from -/
theorem GC_tight {p f t : Nat → Int} (h : GC p f t) {v : Nat} (hv : v < 36) (hlt : t v < f v) : ∃ e, e < 60 ∧ ((hi e = v ∧ t v = t (lo e) + p e) ∨ (lo e = v ∧ t v = t (hi e) + p e)) := by
  refine Classical.byContradiction fun q => ?_
  have hcl : CLo p (put t v (t v + 1)) := by
    intro e he
    have a := (h.1 e he).1
    have b := (h.1 e he).2
    have lh := lo_hi he
    by_cases c1 : hi e = v
    · have c2 : lo e ≠ v := by omega
      rw [c1, put_at, put_ne c2]
      rw [c1] at a b
      have : t v ≠ t (lo e) + p e := fun k => q ⟨e, he, Or.inl ⟨c1, k⟩⟩
      omega
    · by_cases c2 : lo e = v
      · rw [c2, put_at, put_ne c1]
        rw [c2] at a b
        have : t v ≠ t (hi e) + p e := fun k => q ⟨e, he, Or.inr ⟨c2, k⟩⟩
        omega
      · rw [put_ne c1, put_ne c2]; exact ⟨a, b⟩
  have := h.2.2 _ hcl (fun i hi => by
    by_cases c : i = v
    · rw [c, put_at]; omega
    · rw [put_ne c]; exact h.2.1 i hi) v hv
  rw [put_at] at this
  omega
/-- how many nodes stand at their end -/
def nFin (r t : Nat → Int) : Int := ss (fun v => if r v = t v then 1 else 0) 0 36
theorem nFin_full {r t : Nat → Int} (h : 36 ≤ nFin r t) : ∀ v, v < 36 → r v = t v := by
  intro v hv
  refine Classical.byContradiction fun q => ?_
  have a := ss_upd (f := fun v => if r v = t v then (1 : Int) else 0) (g := fun i => if i = v then 1 else if r i = t i then 1 else 0) (k := v) 36 0 (Nat.zero_le _) (by omega) (fun i hi => by simp only [if_neg hi])
  have b := ss_ub (f := fun i => if i = v then (1 : Int) else if r i = t i then 1 else 0) (c := 1) 36 0 (fun i _ _ => by
    show (if i = v then (1 : Int) else if r i = t i then 1 else 0) ≤ 1
    split
    · exact Int.le_refl _
    · split <;> decide)
  simp only [if_neg q, if_pos] at a
  unfold nFin at h
  omega
/-- a pass: every edge's end is at most what the row was at the other end before, plus the edge; nothing rises; the closed ones stay below. It brings one more node to its end -/
theorem pass_more {p f t r r2 : Nat → Int} (hp : ∀ e, e < 60 → 1 ≤ p e) (h : GC p f t) (h1 : LE36 t r) (h2 : LE36 r f) (h3 : LE36 t r2) (h4 : LE36 r2 r) (h5 : ∀ e, e < 60 → r2 (hi e) ≤ r (lo e) + p e ∧ r2 (lo e) ≤ r (hi e) + p e) (hn : ∃ v, v < 36 ∧ r v ≠ t v) : nFin r t + 1 ≤ nFin r2 t := by
  have mono : ∀ i, i < 36 → (if r i = t i then (1 : Int) else 0) ≤ (if r2 i = t i then 1 else 0) := by
    intro i hi
    have a := h3 i hi
    have b := h4 i hi
    by_cases c : r i = t i
    · rw [if_pos c, if_pos (by omega)]; exact Int.le_refl _
    · rw [if_neg c]; split <;> decide
  have pick : ∃ v, v < 36 ∧ r v ≠ t v ∧ ∀ u, u < 36 → r u ≠ t u → t v ≤ t u := by
    obtain ⟨v0, hv0, hd0⟩ := hn
    have key : ∀ (n : Nat) (v : Nat), v < 36 → r v ≠ t v → (∃ w : Int, w ≤ t v ∧ (t v - w).toNat ≤ n ∧ ∀ u, u < 36 → w ≤ t u) → ∃ v, v < 36 ∧ r v ≠ t v ∧ ∀ u, u < 36 → r u ≠ t u → t v ≤ t u := by
      intro n
      induction n with
      | zero =>
        intro v hv hd ⟨w, w1, w2, w3⟩
        refine ⟨v, hv, hd, fun u hu _ => ?_⟩
        have := w3 u hu
        omega
      | succ n ih =>
        intro v hv hd ⟨w, w1, w2, w3⟩
        by_cases c : ∃ u, u < 36 ∧ r u ≠ t u ∧ t u < t v
        · obtain ⟨u, hu, hd2, hlt⟩ := c
          exact ih u hu hd2 ⟨w, w3 u hu, by have := w3 u hu; omega, w3⟩
        · refine ⟨v, hv, hd, fun u hu hd2 => ?_⟩
          exact Classical.byContradiction fun q => c ⟨u, hu, hd2, by omega⟩
    have low : ∃ w : Int, ∀ u, u < 36 → w ≤ t u := by
      have : ∀ m : Nat, ∃ w : Int, ∀ u, u < m → w ≤ t u := by
        intro m
        induction m with
        | zero => exact ⟨0, fun u hu => absurd hu (by omega)⟩
        | succ m ih =>
          obtain ⟨w, hw⟩ := ih
          by_cases c : w ≤ t m
          · exact ⟨w, fun u hu => by
              by_cases d : u = m
              · rw [d]; exact c
              · exact hw u (by omega)⟩
          · exact ⟨t m, fun u hu => by
              by_cases d : u = m
              · rw [d]; exact Int.le_refl _
              · have := hw u (by omega); omega⟩
      exact this 36
    obtain ⟨w, hw⟩ := low
    exact key (t v0 - w).toNat v0 hv0 hd0 ⟨w, hw v0 hv0, Nat.le_refl _, hw⟩
  obtain ⟨v, hv, hd, hmin⟩ := pick
  have e1 := h1 v hv
  have e2 := h2 v hv
  have fin : r2 v = t v := by
    obtain ⟨e, he, k⟩ := GC_tight h hv (by omega)
    have hpe := hp e he
    have a := h5 e he
    have b := h3 v hv
    rcases k with ⟨k1, k2⟩ | ⟨k1, k2⟩
    · have hu : r (lo e) = t (lo e) := Classical.byContradiction fun q => by
        have := hmin _ (lo_lt he) q
        omega
      rw [k1] at a
      omega
    · have hu : r (hi e) = t (hi e) := Classical.byContradiction fun q => by
        have := hmin _ (hi_lt he) q
        omega
      rw [k1] at a
      omega
  have s1 := ss_le (f := fun i => if i = v then (0 : Int) else if r i = t i then 1 else 0) (g := fun i => if i = v then (0 : Int) else if r2 i = t i then 1 else 0) 36 0 (fun i _ hi => by
    show (if i = v then (0 : Int) else if r i = t i then 1 else 0) ≤ (if i = v then (0 : Int) else if r2 i = t i then 1 else 0)
    by_cases c : i = v
    · rw [if_pos c, if_pos c]; exact Int.le_refl _
    · rw [if_neg c, if_neg c]; exact mono i (by omega))
  have a1 := ss_upd (f := fun i => if r i = t i then (1 : Int) else 0) (g := fun i => if i = v then (0 : Int) else if r i = t i then 1 else 0) (k := v) 36 0 (Nat.zero_le _) (by omega) (fun i hi => by simp only [if_neg hi])
  have a2 := ss_upd (f := fun i => if r2 i = t i then (1 : Int) else 0) (g := fun i => if i = v then (0 : Int) else if r2 i = t i then 1 else 0) (k := v) 36 0 (Nat.zero_le _) (by omega) (fun i hi => by simp only [if_neg hi])
  simp only [if_neg hd, if_pos fin, if_pos] at a1 a2
  unfold nFin
  omega
