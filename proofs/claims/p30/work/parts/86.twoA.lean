/-! two ways: what a way laid leaves, its distances, and that the second way's cost is the same for every cheapest first way -/
def rcL (p f : Nat → Int) (e : Nat) : Int := if f e = 0 then p e else -(p e)
def alA (f : Nat → Int) (j : Nat) : Prop := if j % 2 = 0 then f (j / 2) ≤ 0 else 0 ≤ f (j / 2)
def CLd (p f g : Nat → Int) : Prop := ∀ j, j < 120 → alA f j → g (arT j) ≤ g (arF j) + rcL p f (j / 2)
def Dsd (p f : Nat → Int) (s : Nat) (t : Nat → Int) : Prop := CLd p f t ∧ t s ≤ 0 ∧ ∀ g, CLd p f g → g s ≤ 0 → LE36 g t
def p159 (p : Nat → Int) : Prop := ∀ e, e < 60 → 1 ≤ p e ∧ p e ≤ 59
def uni (f : Nat → Int) : Prop := ∀ e, e < 60 → f e = -1 ∨ f e = 0 ∨ f e = 1
/-- from s every node is reached over what is left -/
def NB (f : Nat → Int) (s : Nat) : Prop := ∀ A : Nat → Prop, A s → (∀ j, j < 120 → alA f j → A (arF j) → A (arT j)) → ∀ v, v < 36 → A v
def Pot (p f : Nat → Int) (s : Nat) (π : Nat → Int) : Prop := CLd p f π ∧ π s = 0 ∧ ∀ v, v < 36 → 0 ≤ π v ∧ π v ≤ 590
theorem rc_bd {p f : Nat → Int} (hp : p159 p) {e : Nat} (he : e < 60) : -59 ≤ rcL p f e ∧ rcL p f e ≤ 59 := by
  have := hp e he
  unfold rcL
  split <;> omega
theorem Dsd_one {p f t u : Nat → Int} {s : Nat} (h : Dsd p f s t) (k : Dsd p f s u) : ∀ v, v < 36 → t v = u v := fun v hv => Int.le_antisymm (k.2.2 t h.1 h.2.1 v hv) (h.2.2 u k.1 k.2.1 v hv)
/-- how far a closed function can rise -/
theorem rise {p f g : Nat → Int} {s : Nat} (hp : p159 p) (hn : NB f s) (hs : s < 36) (hg : CLd p f g) (h0 : g s ≤ 0) : ∀ v, v < 36 → g v ≤ 2124 := by
  have lev : ∀ m : Nat, m ≤ 36 → (∀ v, v < 36 → g v ≤ 59 * (m : Int)) ∨ (m : Int) + 1 ≤ ss (fun v => if g v ≤ 59 * (m : Int) then 1 else 0) 0 36 := by
    intro m
    induction m with
    | zero =>
      intro _
      right
      have ge := ss_ge (f := fun v => if g v ≤ 59 * ((0 : Nat) : Int) then (1 : Int) else 0) (m := 36) (a := 0) (k := s) (Nat.zero_le _) (by omega) (fun i _ _ => by show 0 ≤ (if g i ≤ 59 * ((0 : Nat) : Int) then (1 : Int) else 0); split <;> decide)
      have ge : (if g s ≤ 59 * ((0 : Nat) : Int) then (1 : Int) else 0) ≤ ss (fun v => if g v ≤ 59 * ((0 : Nat) : Int) then (1 : Int) else 0) 0 36 := ge
      rw [if_pos (by omega)] at ge
      exact ge
    | succ m ih =>
      intro hm
      by_cases all : ∀ v, v < 36 → g v ≤ 59 * (m : Int)
      · left
        intro v hv
        have := all v hv
        omega
      · have cnt := (ih (by omega)).resolve_left all
        right
        -- one more node in the next level
        have more : ∃ v, v < 36 ∧ ¬ g v ≤ 59 * (m : Int) ∧ g v ≤ 59 * ((m + 1 : Nat) : Int) := Classical.byContradiction fun q => by
          refine all (hn (fun v => g v ≤ 59 * (m : Int)) (by show g s ≤ 59 * (m : Int); omega) (fun j hj ha hA => ?_))
          have hA : g (arF j) ≤ 59 * (m : Int) := hA
          have c := hg j hj ha
          have b := rc_bd (f := f) hp (show j / 2 < 60 by omega)
          refine Classical.byContradiction fun z => q ⟨arT j, (ar_lt hj).2.1, z, ?_⟩
          omega
        obtain ⟨v, v1, v2, v3⟩ := more
        have a := ss_upd (f := fun i => if i = v then (1 : Int) else if g i ≤ 59 * (m : Int) then 1 else 0) (g := fun i => if g i ≤ 59 * (m : Int) then (1 : Int) else 0) (k := v) 36 0 (Nat.zero_le _) (by omega) (fun i hi => if_neg hi)
        have b := ss_le (f := fun i => if i = v then (1 : Int) else if g i ≤ 59 * (m : Int) then 1 else 0) (g := fun i => if g i ≤ 59 * ((m + 1 : Nat) : Int) then (1 : Int) else 0) 36 0 (fun i _ hi => by
          show (if i = v then (1 : Int) else if g i ≤ 59 * (m : Int) then 1 else 0) ≤ (if g i ≤ 59 * ((m + 1 : Nat) : Int) then (1 : Int) else 0)
          by_cases q : i = v
          · rw [if_pos q, q, if_pos v3]; exact Int.le_refl _
          · rw [if_neg q]
            by_cases q2 : g i ≤ 59 * (m : Int)
            · rw [if_pos q2, if_pos (by omega)]; exact Int.le_refl _
            · rw [if_neg q2]; split <;> decide)
        simp only [if_neg v2, if_pos] at a
        omega
  intro v hv
  rcases lev 36 (by omega) with q | q
  · have := q v hv
    omega
  · have := ss_ub (f := fun v => if g v ≤ 59 * ((36 : Nat) : Int) then (1 : Int) else 0) (c := 1) 36 0 (fun i _ _ => by show (if g i ≤ 59 * ((36 : Nat) : Int) then (1 : Int) else 0) ≤ 1; split <;> decide)
    omega
theorem Dsd_aux {p f π r0 : Nat → Int} {s : Nat} (hπ : Pot p f s π) (hle : LE36 π r0) : ∀ (n : Nat) (r : Nat → Int), ss r 0 36 ≤ (n : Int) → LE36 π r → LE36 r r0 → (∀ g, CLd p f g → LE36 g r0 → LE36 g r) → ∃ t, CLd p f t ∧ LE36 t r0 ∧ ∀ g, CLd p f g → LE36 g r0 → LE36 g t := by
  intro n
  have low : ∀ r : Nat → Int, LE36 π r → LE36 r r0 → (∀ g, CLd p f g → LE36 g r0 → LE36 g r) → ¬ CLd p f r → ∃ r2, ss r2 0 36 + 1 ≤ ss r 0 36 ∧ LE36 π r2 ∧ LE36 r2 r0 ∧ ∀ g, CLd p f g → LE36 g r0 → LE36 g r2 := by
    intro r h2 h3 h4 c
    have c2 : ∃ j, j < 120 ∧ alA f j ∧ ¬ r (arT j) ≤ r (arF j) + rcL p f (j / 2) := Classical.byContradiction fun q => c (fun j hj ha => Classical.byContradiction fun z => q ⟨j, hj, ha, z⟩)
    obtain ⟨j, hj, ha, hlt⟩ := c2
    obtain ⟨f1, f2, f3, _⟩ := ar_lt hj
    have key : ∀ g, CLd p f g → LE36 g r0 → LE36 g (put r (arT j) (r (arF j) + rcL p f (j / 2))) := fun g g1 g2 v hv => by
      by_cases q : v = arT j
      · rw [q, put_at]
        have a := h4 g g1 g2 _ f1
        have b := g1 j hj ha
        omega
      · rw [put_ne q]; exact h4 g g1 g2 v hv
    refine ⟨put r (arT j) (r (arF j) + rcL p f (j / 2)), ?_, key π hπ.1 hle, fun v hv => ?_, key⟩
    · rw [put_sum r _ f2]; omega
    · by_cases q : v = arT j
      · have := h3 _ f2
        rw [q, put_at]; omega
      · rw [put_ne q]; exact h3 v hv
  induction n with
  | zero =>
    intro r h1 h2 h3 h4
    by_cases c : CLd p f r
    · exact ⟨r, c, h3, h4⟩
    · obtain ⟨r2, a1, a2, _⟩ := low r h2 h3 h4 c
      have := ss_nn (f := r2) 36 0 (fun i _ hi => by have := a2 i (by omega); have := (hπ.2.2 i (by omega)).1; omega)
      omega
  | succ n ih =>
    intro r h1 h2 h3 h4
    by_cases c : CLd p f r
    · exact ⟨r, c, h3, h4⟩
    · obtain ⟨r2, a1, a2, a3, a4⟩ := low r h2 h3 h4 c
      exact ih r2 (by omega) a2 a3 a4
theorem Dsd_ex {p f π : Nat → Int} {s : Nat} (hp : p159 p) (hs : s < 36) (hn : NB f s) (hπ : Pot p f s π) : ∃ t, Dsd p f s t ∧ LE36 π t ∧ ∀ v, v < 36 → t v ≤ 2124 := by
  have h0 : LE36 π (stR s 3000) := fun v hv => by
    have := hπ.2.2 v hv
    unfold stR
    by_cases q : v = s
    · rw [if_pos q, q, hπ.2.1]; exact Int.le_refl _
    · rw [if_neg q]; omega
  obtain ⟨t, t1, t2, t3⟩ := Dsd_aux hπ h0 (ss (stR s 3000) 0 36).toNat (stR s 3000) (by omega) h0 (fun _ _ => Int.le_refl _) (fun _ _ h => h)
  have ts : t s ≤ 0 := by
    have := t2 s hs
    unfold stR at this
    rw [if_pos rfl] at this
    exact this
  refine ⟨t, ⟨t1, ts, fun g g1 g2 => t3 g g1 (fun v hv => ?_)⟩, t3 π hπ.1 h0, rise hp hn hs t1 ts⟩
  have := rise hp hn hs g1 g2 v hv
  unfold stR
  by_cases q : v = s
  · rw [if_pos q, q]; exact g2
  · rw [if_neg q]; omega
/-- a pass over the arcs; what stands at B isn't gone on from -/
def DPs (p f : Nat → Int) (B : Int) (E : Nat → Prop) (r r2 : Nat → Int) : Prop := LE36 r2 r ∧ ∀ j, j < 120 → E j → alA f j → r (arF j) ≠ B → r2 (arT j) ≤ r (arF j) + rcL p f (j / 2)
theorem DPs.step {p f r r1 r2 : Nat → Int} {B : Int} {E G : Nat → Prop} {j : Nat} (hB : ∀ v, v < 36 → r v ≤ B) (h : DPs p f B E r r1) (hj : j < 120) (h1 : LE36 r2 r1) (h2 : alA f j → r1 (arF j) ≠ B → r2 (arT j) ≤ r1 (arF j) + rcL p f (j / 2)) (hG : ∀ i, G i → E i ∨ i = j) : DPs p f B G r r2 := by
  refine ⟨fun v hv => Int.le_trans (h1 v hv) (h.1 v hv), fun i hi hGi ha hne => ?_⟩
  obtain ⟨f1, f2, _⟩ := ar_lt hi
  rcases hG i hGi with q | q
  · exact Int.le_trans (h1 _ f2) (h.2 i hi q ha hne)
  · subst q
    have a := h.1 _ f1
    have b := hB _ f1
    have := h2 ha (by omega)
    omega
theorem dpass_more {p f t r r2 : Nat → Int} {s : Nat} {B : Int} (hs : s < 36) (ht : Dsd p f s t) (hB : ∀ v, v < 36 → t v < B) (hts : t s = 0) (h1 : LE36 t r) (h3 : LE36 t r2) (hr : r s = 0) (h : DPs p f B (fun _ => True) r r2) (hn : ∃ v, v < 36 ∧ r v ≠ t v) : nFin r t + 1 ≤ nFin r2 t := by
  by_cases c : ∃ v, v < 36 ∧ r v ≠ t v ∧ r2 v = t v
  · obtain ⟨v, hv, hd, he⟩ := c
    have a := ss_upd (f := fun i => if i = v then (1 : Int) else if r i = t i then 1 else 0) (g := fun i => if r i = t i then (1 : Int) else 0) (k := v) 36 0 (Nat.zero_le _) (by omega) (fun i hi => if_neg hi)
    have b := ss_le (f := fun i => if i = v then (1 : Int) else if r i = t i then 1 else 0) (g := fun i => if r2 i = t i then (1 : Int) else 0) 36 0 (fun i _ hi => by
      show (if i = v then (1 : Int) else if r i = t i then 1 else 0) ≤ (if r2 i = t i then (1 : Int) else 0)
      by_cases q : i = v
      · rw [if_pos q, q, if_pos he]; exact Int.le_refl _
      · rw [if_neg q]
        by_cases q2 : r i = t i
        · have x1 := h3 i (by omega)
          have x2 := h.1 i (by omega)
          rw [if_pos q2, if_pos (by omega)]; exact Int.le_refl _
        · rw [if_neg q2]; split <;> decide)
    simp only [if_neg hd, if_pos] at a
    unfold nFin
    omega
  · exfalso
    have st : ∀ v, v < 36 → r v ≠ t v → t v + 1 ≤ r2 v := fun v hv hd => by
      have x1 := h3 v hv
      have x3 : r2 v ≠ t v := fun q => c ⟨v, hv, hd, q⟩
      omega
    have hcl : CLd p f (fun v => if r v = t v then t v else t v + 1) := by
      intro j hj ha
      obtain ⟨f1, f2, _⟩ := ar_lt hj
      have a := ht.1 j hj ha
      show (if r (arT j) = t (arT j) then t (arT j) else t (arT j) + 1) ≤ (if r (arF j) = t (arF j) then t (arF j) else t (arF j) + 1) + rcL p f (j / 2)
      by_cases q1 : r (arF j) = t (arF j)
      · by_cases q2 : r (arT j) = t (arT j)
        · rw [if_pos q1, if_pos q2]; exact a
        · have x := st _ f2 q2
          have y := h.2 j hj trivial ha (by rw [q1]; have := hB _ f1; omega)
          rw [if_pos q1, if_neg q2]; omega
      · by_cases q2 : r (arT j) = t (arT j)
        · rw [if_neg q1, if_pos q2]; omega
        · rw [if_neg q1, if_neg q2]; omega
    obtain ⟨v, hv, hd⟩ := hn
    have k := ht.2.2 _ hcl (by
      show (if r s = t s then t s else t s + 1) ≤ 0
      rw [hr, hts, if_pos rfl]; exact Int.le_refl _) v hv
    have k : (if r v = t v then t v else t v + 1) ≤ t v := k
    rw [if_neg hd] at k
    omega
/-! costs -/
def ab (x : Int) : Int := if x < 0 then -x else x
def cst (p f : Nat → Int) : Int := ss (fun e => p e * ab (f e)) 0 60
def stO (f : Nat → Int) (s t : Nat) (n : Int) : Prop := ∀ v, v < 36 → outF f v = (if v = s then n else 0) - (if v = t then n else 0)
/-- what a flow's costs are at least, by a function on the nodes -/
theorem dsum2 (g f : Nat → Int) {s t : Nat} {n : Int} (hs : s < 36) (ht : t < 36) (h : stO f s t n) : ss (fun e => f e * (g (lo e) - g (hi e))) 0 60 = n * g s - n * g t := by
  rw [← dsum, ss_congr (g := fun v => (if v = s then n * g s else 0) + (if v = t then -(n * g t) else 0)) 36 0 (fun v _ hv => by
    rw [h v (by omega)]
    by_cases q1 : v = s
    · by_cases q2 : v = t
      · rw [if_pos q1, if_pos q2, if_pos q1, if_pos q2, ← q1, ← q2, Int.sub_self, Int.mul_zero]; omega
      · rw [if_pos q1, if_neg q2, if_pos q1, if_neg q2, Int.sub_zero, Int.add_zero, q1, Int.mul_comm]
    · by_cases q2 : v = t
      · rw [if_neg q1, if_pos q2, if_neg q1, if_pos q2, q2, Int.zero_sub, Int.zero_add, Int.mul_neg, Int.mul_comm]
      · rw [if_neg q1, if_neg q2, if_neg q1, if_neg q2, Int.sub_self, Int.mul_zero]; rfl), ss_add (fun v => if v = s then n * g s else 0) (fun v => if v = t then -(n * g t) else 0), ss_one _ (Nat.zero_le _) (by omega), ss_one _ (Nat.zero_le _) (by omega)]
  omega
/-- a unit way that costs the distance is cheapest everywhere: the distances are a potential of what it leaves -/
theorem unit_pot {p f : Nat → Int} (hp : p159 p) {s t : Nat} (hs : s < 36) (ht : t < 36) (hu : uni f) (ho : stO f s t 1) (hc : cst p f = dsF p s t) : Pot p f s (dsF p s) := by
  have hP : PR p := fun e he => by have := hp e he; omega
  have d := dsF_is hP hs
  have z := dsF_self hP hs
  have su := dsum2 (dsF p s) f hs ht ho
  have le : ∀ e, e < 60 → -(f e * (dsF p s (lo e) - dsF p s (hi e))) ≤ p e * ab (f e) := fun e he => by
    have c := d.1 e he
    rcases hu e he with q | q | q
    · rw [q]; unfold ab; rw [if_pos (by decide)]; omega
    · rw [q]; unfold ab; rw [if_neg (by decide)]; omega
    · rw [q]; unfold ab; rw [if_neg (by decide)]; omega
  have eq : ss (fun e => -(f e * (dsF p s (lo e) - dsF p s (hi e)))) 0 60 = ss (fun e => p e * ab (f e)) 0 60 := by
    have n : ss (fun e => -(f e * (dsF p s (lo e) - dsF p s (hi e)))) 0 60 = -ss (fun e => f e * (dsF p s (lo e) - dsF p s (hi e))) 0 60 := by
      have := ss_mul (-1) (fun e => f e * (dsF p s (lo e) - dsF p s (hi e))) 60 0
      rw [ss_congr (g := fun e => -1 * (f e * (dsF p s (lo e) - dsF p s (hi e)))) 60 0 (fun e _ _ => by omega), this]
      omega
    rw [n, su]
    unfold cst at hc
    rw [hc, z]
    omega
  have ti := ss_tight (m := 60) (a := 0) (fun e _ he => le e (by omega)) eq
  refine ⟨fun j hj ha => ?_, z, fun v hv => dsF_bd hP hs hv⟩
  have he : j / 2 < 60 := by omega
  have c := d.1 _ he
  have q := ti (j / 2) (Nat.zero_le _) (by omega)
  unfold alA at ha
  unfold rcL arT arF
  by_cases par : j % 2 = 0
  · rw [if_pos par] at ha ⊢
    rw [if_pos par]
    rcases hu _ he with y | y | y
    · rw [y] at q
      unfold ab at q
      rw [if_pos (by decide)] at q
      rw [y, if_neg (by decide)]; omega
    · rw [y, if_pos rfl]; exact c.1
    · omega
  · rw [if_neg par] at ha ⊢
    rw [if_neg par]
    rcases hu _ he with y | y | y
    · omega
    · rw [y, if_pos rfl]; exact c.2
    · rw [y] at q
      unfold ab at q
      rw [if_neg (by decide)] at q
      rw [y, if_neg (by decide)]; omega
/-! no edge of the grid is a bridge -/
def sqA (e : Nat) : Nat := if e < 30 then (if e < 25 then 30 + 6 * (e / 5) + e % 5 else 54 + e % 5) else (if (e - 30) % 6 < 5 then 5 * ((e - 30) / 6) + (e - 30) % 6 else 5 * ((e - 30) / 6) + 4)
def sqB (e : Nat) : Nat := if e < 30 then (if e < 25 then e + 5 else e - 5) else (if (e - 30) % 6 < 5 then e + 1 else e - 1)
def sqC (e : Nat) : Nat := if e < 30 then (if e < 25 then 31 + 6 * (e / 5) + e % 5 else 55 + e % 5) else (if (e - 30) % 6 < 5 then 5 * ((e - 30) / 6) + 5 + (e - 30) % 6 else 5 * ((e - 30) / 6) + 9)
def sqX (e : Nat) : Nat := if e < 30 then (if e < 25 then lo e + 6 else lo e - 6) else (if (e - 30) % 6 < 5 then lo e + 1 else lo e - 1)
def sqY (e : Nat) : Nat := if e < 30 then (if e < 25 then hi e + 6 else hi e - 6) else (if (e - 30) % 6 < 5 then hi e + 1 else hi e - 1)
def isE (e a b : Nat) : Prop := (lo e = a ∧ hi e = b) ∨ (lo e = b ∧ hi e = a)
theorem sq_ok : ∀ e : Nat, e < 60 → (sqA e < 60 ∧ sqA e ≠ e ∧ ((lo (sqA e) = lo e ∧ hi (sqA e) = sqX e) ∨ (lo (sqA e) = sqX e ∧ hi (sqA e) = lo e))) ∧ (sqB e < 60 ∧ sqB e ≠ e ∧ ((lo (sqB e) = sqX e ∧ hi (sqB e) = sqY e) ∨ (lo (sqB e) = sqY e ∧ hi (sqB e) = sqX e))) ∧ (sqC e < 60 ∧ sqC e ≠ e ∧ ((lo (sqC e) = sqY e ∧ hi (sqC e) = hi e) ∨ (lo (sqC e) = hi e ∧ hi (sqC e) = sqY e))) := by decide +kernel
theorem two_cross {A : Nat → Prop} {e : Nat} (he : e < 60) (hx : ¬ (A (lo e) ↔ A (hi e))) : ∃ d, d < 60 ∧ d ≠ e ∧ ¬ (A (lo d) ↔ A (hi d)) := by
  obtain ⟨⟨a1, a2, a3⟩, ⟨b1, b2, b3⟩, ⟨c1, c2, c3⟩⟩ := sq_ok e he
  refine Classical.byContradiction fun q => hx ?_
  have no : ∀ d, d < 60 → d ≠ e → (A (lo d) ↔ A (hi d)) := fun d h1 h2 => Classical.byContradiction fun z => q ⟨d, h1, h2, z⟩
  have xa : A (lo e) ↔ A (sqX e) := by
    have := no _ a1 a2
    rcases a3 with ⟨z1, z2⟩ | ⟨z1, z2⟩
    · rw [z1, z2] at this; exact this
    · rw [z1, z2] at this; exact this.symm
  have xy : A (sqX e) ↔ A (sqY e) := by
    have := no _ b1 b2
    rcases b3 with ⟨z1, z2⟩ | ⟨z1, z2⟩
    · rw [z1, z2] at this; exact this
    · rw [z1, z2] at this; exact this.symm
  have yc : A (sqY e) ↔ A (hi e) := by
    have := no _ c1 c2
    rcases c3 with ⟨z1, z2⟩ | ⟨z1, z2⟩
    · rw [z1, z2] at this; exact this
    · rw [z1, z2] at this; exact this.symm
  exact xa.trans (xy.trans yc)
theorem one_cross {A : Nat → Prop} {s v : Nat} (hs : s < 36) (hv : v < 36) (h1 : A s) (h2 : ¬ A v) : ∃ e, e < 60 ∧ ¬ (A (lo e) ↔ A (hi e)) := Classical.byContradiction fun q =>
  h2 (Cn_all hs hv A (fun e he _ => Classical.byContradiction fun z => q ⟨e, he, z⟩) h1)
theorem NB_zero {f : Nat → Int} {s : Nat} (hs : s < 36) (hf : ∀ e, e < 60 → f e = 0) : NB f s := by
  intro A hA hc v hv
  refine Classical.byContradiction fun hv2 => ?_
  obtain ⟨e, he, hx⟩ := one_cross hs hv hA hv2
  have a := hc (2 * e) (by omega)
  have b := hc (2 * e + 1) (by omega)
  unfold alA arF arT at a b
  rw [if_pos (show 2 * e % 2 = 0 by omega), if_pos (show 2 * e % 2 = 0 by omega), if_pos (show 2 * e % 2 = 0 by omega), show 2 * e / 2 = e by omega] at a
  rw [if_neg (show ¬ (2 * e + 1) % 2 = 0 by omega), if_neg (show ¬ (2 * e + 1) % 2 = 0 by omega), if_neg (show ¬ (2 * e + 1) % 2 = 0 by omega), show (2 * e + 1) / 2 = e by omega] at b
  have z := hf e he
  exact hx ⟨a (by omega), b (by omega)⟩
theorem NB_unit {f : Nat → Int} {s t : Nat} (hs : s < 36) (ht : t < 36) (ho : stO f s t 1) (hu : uni f) : NB f s := by
  intro A hA hc v hv
  refine Classical.byContradiction fun hv2 => ?_
  obtain ⟨g, hg⟩ : ∃ g : Nat → Int, ∀ x, (A x → g x = 1) ∧ (¬ A x → g x = 0) := ⟨fun x => @ite _ (A x) (Classical.propDecidable _) 1 0, fun _ => ⟨fun q => if_pos q, fun q => if_neg q⟩⟩
  obtain ⟨e, he, hx⟩ := one_cross hs hv hA hv2
  obtain ⟨d, hd, hde, hy⟩ := two_cross he hx
  have term : ∀ x, x < 60 → 0 ≤ f x * (g (lo x) - g (hi x)) ∧ (¬ (A (lo x) ↔ A (hi x)) → f x * (g (lo x) - g (hi x)) = 1) := by
    intro x hx0
    have a := hc (2 * x) (by omega)
    have b := hc (2 * x + 1) (by omega)
    unfold alA arF arT at a b
    rw [if_pos (show 2 * x % 2 = 0 by omega), if_pos (show 2 * x % 2 = 0 by omega), if_pos (show 2 * x % 2 = 0 by omega), show 2 * x / 2 = x by omega] at a
    rw [if_neg (show ¬ (2 * x + 1) % 2 = 0 by omega), if_neg (show ¬ (2 * x + 1) % 2 = 0 by omega), if_neg (show ¬ (2 * x + 1) % 2 = 0 by omega), show (2 * x + 1) / 2 = x by omega] at b
    have u := hu x hx0
    by_cases q1 : A (lo x)
    · by_cases q2 : A (hi x)
      · rw [(hg _).1 q1, (hg _).1 q2]
        exact ⟨by omega, fun z => absurd ⟨fun _ => q2, fun _ => q1⟩ z⟩
      · have : f x = 1 := by
          have : ¬ f x ≤ 0 := fun z => q2 (a z q1)
          omega
        rw [(hg _).1 q1, (hg _).2 q2, this]
        exact ⟨by decide, fun _ => by decide⟩
    · by_cases q2 : A (hi x)
      · have : f x = -1 := by
          have : ¬ 0 ≤ f x := fun z => q1 (b z q2)
          omega
        rw [(hg _).2 q1, (hg _).1 q2, this]
        exact ⟨by decide, fun _ => by decide⟩
      · rw [(hg _).2 q1, (hg _).2 q2]
        exact ⟨by omega, fun z => absurd ⟨fun y => absurd y q1, fun y => absurd y q2⟩ z⟩
  have su := dsum2 g f hs ht ho
  have up := ss_upd (f := fun x => f x * (g (lo x) - g (hi x))) (g := fun x => if x = e then 0 else f x * (g (lo x) - g (hi x))) (k := e) 60 0 (Nat.zero_le _) (by omega) (fun i hi0 => (if_neg hi0).symm)
  have ge := ss_ge (f := fun x => if x = e then 0 else f x * (g (lo x) - g (hi x))) (m := 60) (a := 0) (k := d) (Nat.zero_le _) (by omega) (fun i _ hi0 => by
    show 0 ≤ (if i = e then 0 else f i * (g (lo i) - g (hi i)))
    split
    · exact Int.le_refl _
    · exact (term i (by omega)).1)
  have ge : (if d = e then 0 else f d * (g (lo d) - g (hi d))) ≤ ss (fun x => if x = e then 0 else f x * (g (lo x) - g (hi x))) 0 60 := ge
  rw [if_neg hde, (term d hd).2 hy] at ge
  have t1 := (term e he).2 hx
  simp only [if_pos] at up
  have gs := (hg s).1 hA
  have gt : 0 ≤ g t := by
    by_cases q : A t
    · rw [(hg t).1 q]; decide
    · rw [(hg t).2 q]; decide
  rw [su, gs, t1] at up
  omega
/-- every two ways cost as much as a cheapest one and the distance over what it leaves, or more -/
theorem two_low {p f x ρ : Nat → Int} (hp : p159 p) {s t : Nat} (hs : s < 36) (ht : t < 36) (hf : uni f) (hx : uni x) (of : stO f s t 1) (ox : stO x s t 2) (hρ : Dsd p f s ρ) (h0 : 0 ≤ ρ s) : cst p f + ρ t ≤ cst p x := by
  have term : ∀ e, e < 60 → -((x e - f e) * (ρ (lo e) - ρ (hi e))) ≤ p e * ab (x e) - p e * ab (f e) := by
    intro e he
    have pe := hp e he
    have a := hρ.1 (2 * e) (by omega)
    have b := hρ.1 (2 * e + 1) (by omega)
    unfold alA arF arT rcL at a b
    rw [if_pos (show 2 * e % 2 = 0 by omega), if_pos (show 2 * e % 2 = 0 by omega), if_pos (show 2 * e % 2 = 0 by omega), show 2 * e / 2 = e by omega] at a
    rw [if_neg (show ¬ (2 * e + 1) % 2 = 0 by omega), if_neg (show ¬ (2 * e + 1) % 2 = 0 by omega), if_neg (show ¬ (2 * e + 1) % 2 = 0 by omega), show (2 * e + 1) / 2 = e by omega] at b
    have m1 : ab (-1) = 1 := rfl
    have m0 : ab 0 = 0 := rfl
    have m2 : ab 1 = 1 := rfl
    rcases hf e he with y | y | y
    · rw [y] at a b ⊢
      have a := a (by decide)
      rw [if_neg (by decide)] at a
      rcases hx e he with z | z | z <;> rw [z] <;> simp only [m1, m0, m2] <;> omega
    · rw [y] at a b ⊢
      have a := a (by decide)
      have b := b (by decide)
      rw [if_pos rfl] at a b
      rcases hx e he with z | z | z <;> rw [z] <;> simp only [m1, m0, m2] <;> omega
    · rw [y] at a b ⊢
      have b := b (by decide)
      rw [if_neg (by decide)] at b
      rcases hx e he with z | z | z <;> rw [z] <;> simp only [m1, m0, m2] <;> omega
  have sl := ss_le 60 0 (fun e _ he => term e (by omega))
  rw [ss_sub (fun e => p e * ab (x e)) (fun e => p e * ab (f e))] at sl
  have e1 : ss (fun e => -((x e - f e) * (ρ (lo e) - ρ (hi e)))) 0 60 = ss (fun e => f e * (ρ (lo e) - ρ (hi e))) 0 60 - ss (fun e => x e * (ρ (lo e) - ρ (hi e))) 0 60 := by
    rw [← ss_sub]
    refine ss_congr 60 0 (fun e _ _ => ?_)
    show -((x e - f e) * (ρ (lo e) - ρ (hi e))) = f e * (ρ (lo e) - ρ (hi e)) - x e * (ρ (lo e) - ρ (hi e))
    rw [Int.sub_mul]
    omega
  rw [e1, dsum2 ρ f hs ht of, dsum2 ρ x hs ht ox] at sl
  have z : ρ s = 0 := by have := hρ.2.1; omega
  rw [z] at sl
  unfold cst
  omega
