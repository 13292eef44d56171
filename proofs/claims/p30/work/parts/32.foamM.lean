/-! the foam, the reference's side -/
def coM (M : Mem) (e : Nat) : Int := (if e < 30 then M 0 0 else M 0 1) + M 1 e
def MR (M : Mem) : Prop := (1 ≤ M 0 0 ∧ M 0 0 ≤ 9) ∧ (1 ≤ M 0 1 ∧ M 0 1 ≤ 9) ∧ ∀ e, e < 60 → 0 ≤ M 1 e ∧ M 1 e ≤ 50
theorem coM_bd {M : Mem} (h : MR M) {e : Nat} (he : e < 60) : 1 ≤ coM M e ∧ coM M e ≤ 59 := by
  have h1 := h.2.2 e he
  have h2 := h.1
  have h3 := h.2.1
  unfold coM
  split <;> omega
theorem m_first (M : Mem) {e : Nat} (he : e < 60) : fX6_first M (e : Int) = some (lo e : Int) := by
  unfold fX6_first lo
  refine w_gdR (by omega) (by omega) ?_
  by_cases c : e < 30
  · rw [if_pos c]
    refine w_bind (w_f (by omega) (w_gd ⟨by omega, by omega⟩ (w_gd ⟨by omega, by omega⟩ rfl))) ?_
    refine congrArg some ?_
    omega
  · rw [if_neg c]
    refine w_bind (w_t (by omega) rfl) ?_
    refine congrArg some ?_
    omega
theorem m_second (M : Mem) {e : Nat} (he : e < 60) : fX6_second M (e : Int) = some (hi e : Int) := by
  unfold fX6_second hi
  refine w_gdR (by omega) (by omega) ?_
  by_cases c : e < 30
  · rw [if_pos c]
    refine w_bind (w_f (by omega) (w_bind (m_first M he) rfl)) ?_
    refine congrArg some ?_
    omega
  · rw [if_neg c]
    refine w_bind (w_t (by omega) (w_bind (m_first M he) rfl)) ?_
    refine congrArg some ?_
    omega
theorem m_cost (M : Mem) {e : Nat} (he : e < 60) : fX6_costOfEdge M (e : Int) = some (coM M e) := by
  unfold fX6_costOfEdge coM
  refine w_gdR (by omega) (by omega) ?_
  by_cases c : e < 30
  · rw [if_pos c]
    refine w_bind (w_f (by omega) rfl) (w_gdB (by omega) (by omega) (w_gdB (by omega) (by omega) ?_))
    rw [Int.toNat_natCast]
    rfl
  · rw [if_neg c]
    refine w_bind (w_t (by omega) rfl) (w_gdB (by omega) (by omega) (w_gdB (by omega) (by omega) ?_))
    rw [Int.toNat_natCast]
    rfl
def BR (M : Mem) : Prop := ∀ v, v < 36 → 0 ≤ M 4 v ∧ M 4 v < 8
theorem enM_L {M : Mem} (hb : BR M) : ∀ (m e n : Nat) (s : Int), e + m = 60 → m < n → fX6_energyNow_L4 n M s (e : Int) = some (s + ss (fun i => if M 4 (lo i) = M 4 (hi i) then 0 else coM M i) e m)
  | _, _, 0, _, _, h => absurd h (by omega)
  | 0, e, n + 1, s, h, _ => by
    rw [fX6_energyNow_L4]
    refine w_gdR (by omega) (by omega) (w_t (by omega) ?_)
    simp [ss]
  | m + 1, e, n + 1, s, h, hn => by
    have he : e < 60 := by omega
    have hlo := lo_lt he
    have hhi := hi_lt he
    have h1 := hb _ hlo
    have h2 := hb _ hhi
    rw [fX6_energyNow_L4]
    refine w_gdR (by omega) (by omega) (w_f (by omega) ?_)
    refine w_bind (m_first M he) (w_gdB (by omega) (by omega) (w_bind (m_second M he) (w_gdB (by omega) (by omega) ?_)))
    simp only [Int.toNat_natCast]
    refine w_gdR (by omega) (by omega) (w_gdR (by omega) (by omega) ?_)
    refine w_bind (t := if M 4 (lo e) = M 4 (hi e) then 0 else coM M e) ?_ ?_
    · by_cases c : M 4 (lo e) = M 4 (hi e)
      · rw [if_pos c, if_pos c]
      · rw [if_neg c, if_neg c]
        exact w_bind (m_cost M he) rfl
    · rw [show (e : Int) + 1 = ((e + 1 : Nat) : Int) by omega, enM_L hb m (e + 1) n _ (by omega) (by omega), ss, Int.add_assoc]
theorem enM {M : Mem} (hb : BR M) : fX6_energyNow M = some (enS (coM M) (M 4)) := by
  have h := enM_L hb 60 0 FU 0 (by omega) (by have := FU_big; omega)
  unfold fX6_energyNow
  refine w_bind h ?_
  rw [Int.zero_add]
  rfl
/-- the node on the other side, 36 where the edge isn't the node's -/
def otM (e v : Nat) : Nat := if lo e = v then hi e else if hi e = v then lo e else 36
theorem otM_run (M : Mem) {e v : Nat} (he : e < 60) (hv : v < 36) : (if (lo e : Int) = (v : Int) then (Option.bind (fX6_second M (e : Int)) (fun t8 => some (t8))) else (Option.bind (fX6_second M (e : Int)) (fun t10 => gd (inR (t10)) (if t10 = (v : Int) then (Option.bind (fX6_first M (e : Int)) (fun t14 => some (t14))) else (some ((-1))))))) = some (if otM e v = 36 then -1 else (otM e v : Int)) := by
  have h1 := lo_lt he
  have h2 := hi_lt he
  unfold otM
  by_cases c : lo e = v
  · rw [if_pos c, if_neg (show ¬ hi e = 36 by omega)]
    exact w_t (by omega) (w_bind (m_second M he) rfl)
  · rw [if_neg c]
    refine w_f (by omega) (w_bind (m_second M he) (w_gdR (by omega) (by omega) ?_))
    by_cases c2 : hi e = v
    · rw [if_pos c2, if_neg (show ¬ lo e = 36 by omega)]
      exact w_t (by omega) (w_bind (m_first M he) rfl)
    · rw [if_neg c2, if_pos rfl]
      exact w_f (by omega) rfl
theorem otM_lt {e v : Nat} (he : e < 60) : otM e v ≤ 36 := by
  have h1 := lo_lt he
  have h2 := hi_lt he
  unfold otM
  split <;> (try split) <;> omega
def wwE (pc b : Nat → Int) (v : Nat) (k : Int) : Int := ss (fun e => if otM e v = 36 then 0 else if b (otM e v) = k then 0 else pc e) 0 60
theorem wwM_L {M : Mem} (hb : BR M) {v : Nat} {k : Int} (hv : v < 36) (hk : 0 ≤ k ∧ k < 8) : ∀ (m e n : Nat) (a : Int), e + m = 60 → m < n → fX6_wallsOf_L5 n M (v : Int) k a (e : Int) = some (a + ss (fun e => if otM e v = 36 then 0 else if M 4 (otM e v) = k then 0 else coM M e) e m)
  | _, _, 0, _, _, h => absurd h (by omega)
  | 0, e, n + 1, a, h, _ => by
    rw [fX6_wallsOf_L5]
    refine w_gdR (by omega) (by omega) (w_t (by omega) ?_)
    simp [ss]
  | m + 1, e, n + 1, a, h, hn => by
    have he : e < 60 := by omega
    have hlo := lo_lt he
    have hot := otM_lt (v := v) he
    rw [fX6_wallsOf_L5]
    refine w_gdR (by omega) (by omega) (w_f (by omega) ?_)
    refine w_bind (m_first M he) (w_gdR (by omega) (by omega) (w_gdR (by omega) (by omega) (w_bind (otM_run M he hv) ?_)))
    refine w_gdR (by split <;> omega) (by split <;> omega) ?_
    refine w_bind (t := if otM e v = 36 then 0 else if M 4 (otM e v) = k then 0 else coM M e) ?_ ?_
    · by_cases c : otM e v = 36
      · rw [if_pos c, if_pos c, if_pos rfl]
      · have h1 := hb (otM e v) (by omega)
        rw [if_neg c, if_neg c]
        refine w_f (by omega) (w_gdB (by omega) (by omega) ?_)
        simp only [Int.toNat_natCast]
        refine w_gdR (by omega) (by omega) (w_gdR (by omega) (by omega) ?_)
        by_cases c2 : M 4 (otM e v) = k
        · rw [if_pos c2, if_pos c2]
        · rw [if_neg c2, if_neg c2]
          exact w_bind (m_cost M he) rfl
    · rw [show (e : Int) + 1 = ((e + 1 : Nat) : Int) by omega, wwM_L hb hv hk m (e + 1) n _ (by omega) (by omega), ss, Int.add_assoc]
theorem perm_sum {L L' : List Int} (h : L.Perm L') : L.sum = L'.sum := by
  induction h with
  | nil => rfl
  | cons _ _ ih => rw [List.sum_cons, List.sum_cons, ih]
  | swap _ _ _ => rw [List.sum_cons, List.sum_cons, List.sum_cons, List.sum_cons]; omega
  | trans _ _ a b => exact a.trans b
/-- over the edges of a node, or over its sides -/
theorem ss_list (f : Nat → Int) : ∀ (n : Nat) (L : List Nat), L.Nodup → (∀ i ∈ L, i < n) → (∀ i, i < n → i ∉ L → f i = 0) → ss f 0 n = (L.map f).sum
  | 0, L, _, h2, _ => by
    cases L with
    | nil => rfl
    | cons a t => exact absurd (h2 a List.mem_cons_self) (by omega)
  | n + 1, L, h1, h2, h3 => by
    rw [ss_last, Nat.zero_add]
    by_cases c : n ∈ L
    · have hp := List.perm_cons_erase c
      rw [perm_sum (hp.map f), List.map_cons, List.sum_cons]
      have e := ss_list f n (L.erase n) (h1.erase n) (fun i hi => by
        have a := h2 i (List.mem_of_mem_erase hi)
        have b : i ≠ n := fun q => by subst q; exact (h1.mem_erase_iff.mp hi).1 rfl
        omega) (fun i hi hn => h3 i (by omega) (fun q => hn (h1.mem_erase_iff.mpr ⟨by omega, q⟩)))
      rw [e]; omega
    · rw [h3 n (by omega) c, ss_list f n L h1 (fun i hi => by
        have a := h2 i hi
        have b : i ≠ n := fun q => c (q ▸ hi)
        omega) (fun i hi hn => h3 i (by omega) hn)]
      omega
def sidesOf (v : Nat) : List Nat := ((List.range 4).map (bes v)).filter (fun e => e != 60)
theorem sides_nd : ∀ v, v < 36 → (sidesOf v).Nodup ∧ (∀ i ∈ sidesOf v, i < 60) := by decide
theorem sides_out : ∀ v, v < 36 → ∀ e, e < 60 → e ∉ sidesOf v → otM e v = 36 := by decide
theorem sides_ot : ∀ v, v < 36 → ∀ s, s < 4 → bes v s = 60 ∨ (bes v s ≠ 60 ∧ otM (bes v s) v = oth (bes v s) v ∧ oth (bes v s) v ≠ 36) := by decide
theorem ww_eq {pc b : Nat → Int} {v : Nat} (hv : v < 36) (k : Int) : wwE pc b v k = wwS pc b v k := by
  unfold wwE wwS
  rw [ss_list _ 60 (sidesOf v) (sides_nd v hv).1 (sides_nd v hv).2 (fun e he hn => if_pos (sides_out v hv e he hn))]
  have h := sides_ot v hv
  have h0 := h 0 (by omega)
  have h1 := h 1 (by omega)
  have h2 := h 2 (by omega)
  have h3 := h 3 (by omega)
  simp only [sidesOf, List.range, List.range.loop, List.map_cons, List.map_nil, ss]
  rcases h0 with h0 | ⟨a0, b0, c0⟩ <;> rcases h1 with h1 | ⟨a1, b1, c1⟩ <;> rcases h2 with h2 | ⟨a2, b2, c2⟩ <;> rcases h3 with h3 | ⟨a3, b3, c3⟩ <;> simp [*]
theorem beM_L {M : Mem} (hb : BR M) {v : Nat} {k : Int} (hv : v < 36) (hk : 0 ≤ k ∧ k < 8) : ∀ (m e n : Nat) (x : Int), e + m = 60 → m < n → (x = 0 ∨ x = 1) → (x = 1 ↔ ∃ i, i < e ∧ otM i v ≠ 36 ∧ M 4 (otM i v) = k) →
    ∃ r, fX6_isBeside_L5 n M (v : Int) k x (e : Int) = some r ∧ (r = 0 ∨ r = 1) ∧ (r = 1 ↔ ∃ i, i < 60 ∧ otM i v ≠ 36 ∧ M 4 (otM i v) = k)
  | _, _, 0, _, _, h, _, _ => absurd h (by omega)
  | 0, e, n + 1, x, h, _, hx, hi => by
    have e0 : e = 60 := by omega
    subst e0
    refine ⟨x, ?_, hx, hi⟩
    rw [fX6_isBeside_L5]
    exact w_gdR (by omega) (by omega) (w_t (by omega) rfl)
  | m + 1, e, n + 1, x, h, hn, hx, hi => by
    have he : e < 60 := by omega
    have hlo := lo_lt he
    have hot := otM_lt (v := v) he
    have key : ∃ y, (y = 0 ∨ y = 1) ∧ (y = 1 ↔ ∃ i, i < e + 1 ∧ otM i v ≠ 36 ∧ M 4 (otM i v) = k) ∧ ∀ r, fX6_isBeside_L5 n M (v : Int) k y ((e : Int) + 1) = some r → fX6_isBeside_L5 (n + 1) M (v : Int) k x (e : Int) = some r := by
      have open1 : ∀ (y r : Int), (if x = 0 then (gd (inR (if otM e v = 36 then -1 else (otM e v : Int))) (if (if otM e v = 36 then -1 else (otM e v : Int)) = (-1) then (some (0)) else (gd (inB (if otM e v = 36 then -1 else (otM e v : Int)) 36) (gd (inR (M 4 (if otM e v = 36 then -1 else (otM e v : Int)).toNat)) (gd (inR k) (if M 4 (if otM e v = 36 then -1 else (otM e v : Int)).toNat = k then (some (1)) else (some (0)))))))) else (some (1))) = some y → fX6_isBeside_L5 n M (v : Int) k y ((e : Int) + 1) = some r → fX6_isBeside_L5 (n + 1) M (v : Int) k x (e : Int) = some r := by
        intro y r h1 h2
        rw [fX6_isBeside_L5]
        refine w_gdR (by omega) (by omega) (w_f (by omega) ?_)
        exact w_bind (m_first M he) (w_gdR (by omega) (by omega) (w_gdR (by omega) (by omega) (w_bind (otM_run M he hv) (w_gdR (by omega) (by omega) (w_bind h1 h2)))))
      rcases hx with rfl | rfl
      · by_cases c : otM e v = 36
        · refine ⟨0, Or.inl rfl, ?_, fun r hr => open1 0 r (w_t rfl ?_) hr⟩
          · constructor
            · intro q; exact absurd q (by decide)
            · intro ⟨i, h1, h2, h3⟩
              rcases Nat.lt_or_ge i e with q | q
              · exact absurd (hi.mpr ⟨i, q, h2, h3⟩) (by decide)
              · have : i = e := by omega
                subst this
                exact absurd c h2
          · rw [if_pos c]
            exact w_gdR (by omega) (by omega) (w_t rfl rfl)
        · have h1 := hb (otM e v) (by omega)
          by_cases c2 : M 4 (otM e v) = k
          · refine ⟨1, Or.inr rfl, ⟨fun _ => ⟨e, by omega, c, c2⟩, fun _ => rfl⟩, fun r hr => open1 1 r (w_t rfl ?_) hr⟩
            rw [if_neg c]
            refine w_gdR (by omega) (by omega) (w_f (by omega) (w_gdB (by omega) (by omega) ?_))
            rw [Int.toNat_natCast]
            exact w_gdR (by omega) (by omega) (w_gdR (by omega) (by omega) (w_t c2 rfl))
          · refine ⟨0, Or.inl rfl, ?_, fun r hr => open1 0 r (w_t rfl ?_) hr⟩
            · constructor
              · intro q; exact absurd q (by decide)
              · intro ⟨i, h1, h2, h3⟩
                rcases Nat.lt_or_ge i e with q | q
                · exact absurd (hi.mpr ⟨i, q, h2, h3⟩) (by decide)
                · have : i = e := by omega
                  subst this
                  exact absurd h3 c2
            · rw [if_neg c]
              refine w_gdR (by omega) (by omega) (w_f (by omega) (w_gdB (by omega) (by omega) ?_))
              rw [Int.toNat_natCast]
              exact w_gdR (by omega) (by omega) (w_gdR (by omega) (by omega) (w_f c2 rfl))
      · refine ⟨1, Or.inr rfl, ⟨fun _ => ?_, fun _ => rfl⟩, fun r hr => open1 1 r (w_f (by decide) rfl) hr⟩
        obtain ⟨i, h1, h2⟩ := hi.mp rfl
        exact ⟨i, by omega, h2⟩
    obtain ⟨y, h1, h2, h3⟩ := key
    obtain ⟨r, h4, h5⟩ := beM_L hb hv hk m (e + 1) n y (by omega) (by omega) h1 h2
    rw [show ((e + 1 : Nat) : Int) = (e : Int) + 1 by omega] at h4
    exact ⟨r, h3 r h4, h5⟩
theorem beM {M : Mem} (hb : BR M) {v : Nat} {k : Int} (hv : v < 36) (hk : 0 ≤ k ∧ k < 8) : ∃ r, fX6_isBeside M (v : Int) k = some r ∧ (r = 0 ∨ r = 1) ∧ (r = 1 ↔ ∃ i, i < 60 ∧ otM i v ≠ 36 ∧ M 4 (otM i v) = k) := by
  obtain ⟨r, h1, h2, h3⟩ := beM_L hb hv hk 60 0 FU 0 (by omega) (by have := FU_big; omega) (Or.inl rfl) ⟨fun q => absurd q (by decide), fun ⟨i, h, _⟩ => absurd h (by omega)⟩
  refine ⟨r, ?_, h2, h3⟩
  unfold fX6_isBeside
  exact w_bind h1 (w_gd h2 rfl)
theorem otM_in : ∀ v, v < 36 → ∀ e, e < 60 → otM e v = 36 ∨ ∃ s, s < 4 ∧ bes v s = e ∧ oth e v = otM e v := by decide
theorem cand_iff {b : Nat → Int} {v : Nat} {k : Int} (hv : v < 36) : (∃ i, i < 60 ∧ otM i v ≠ 36 ∧ b (otM i v) = k) ↔ ∃ s, s < 4 ∧ bes v s ≠ 60 ∧ b (oth (bes v s) v) = k := by
  constructor
  · intro ⟨i, h1, h2, h3⟩
    rcases otM_in v hv i h1 with q | ⟨s, q1, q2, q3⟩
    · exact absurd q h2
    · exact ⟨s, q1, by omega, by rw [q2, q3]; exact h3⟩
  · intro ⟨s, h1, h2, h3⟩
    rcases sides_ot v hv s h1 with q | ⟨q1, q2, q3⟩
    · exact absurd q h2
    · rcases bes_inc v hv s h1 with q | ⟨q, _⟩
      · exact absurd q h2
      · exact ⟨bes v s, q, by omega, by rw [q2]; exact h3⟩
theorem wwM {M : Mem} (hb : BR M) {v : Nat} {k : Int} (hv : v < 36) (hk : 0 ≤ k ∧ k < 8) : fX6_wallsOf M (v : Int) k = some (wwS (coM M) (M 4) v k) := by
  have h := wwM_L hb hv hk 60 0 FU 0 (by omega) (by have := FU_big; omega)
  unfold fX6_wallsOf
  refine w_bind h ?_
  rw [Int.zero_add, ← ww_eq hv]
  rfl
