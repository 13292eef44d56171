/-! the foam, the class's side -/
/-- what a table of the class holds of bubbles -/
def TB (M : Mem) (tb : Nat) : Prop := (tb < 21 ∧ kzC tb = false) ∧ lenC tb = 36 ∧ ∀ v, v < 36 → 0 ≤ M tb v ∧ M tb v < 8
def enS (pc : Nat → Int) (b : Nat → Int) : Int := ss (fun e => if b (lo e) = b (hi e) then 0 else pc e) 0 60
def wwS (pc : Nat → Int) (b : Nat → Int) (v : Nat) (k : Int) : Int := ss (fun s => if bes v s = 60 then 0 else if b (oth (bes v s) v) = k then 0 else pc (bes v s)) 0 4
theorem enC_L {M : Mem} {tb : Nat} (hg : GR M) (ht : TB M tb) : ∀ (m e n : Nat) (s : Int), e + m = 60 → m < n → fX1_energyOf_L4 n M tb s (e : Int) = some (s + ss (fun i => if M tb (lo i) = M tb (hi i) then 0 else M 4 i) e m)
  | _, _, 0, _, _, h => absurd h (by omega)
  | 0, e, n + 1, s, h, _ => by
    rw [fX1_energyOf_L4]
    refine w_gdR (by omega) (by omega) (w_t (by omega) ?_)
    simp [ss]
  | m + 1, e, n + 1, s, h, hn => by
    have he : e < 60 := by omega
    have hlo := lo_lt he
    have hhi := hi_lt he
    have h1 := ht.2.2 _ hlo
    have h2 := ht.2.2 _ hhi
    rw [fX1_energyOf_L4]
    refine w_gdR (by omega) (by omega) (w_f (by omega) ?_)
    refine w_bind (gr_low hg he) (w_gd ht.1 (w_gdB (by omega) (by rw [ht.2.1]; omega) ?_))
    refine w_bind (gr_high hg he) (w_gdB (by omega) (by rw [ht.2.1]; omega) ?_)
    simp only [Int.toNat_natCast]
    refine w_gdR (by omega) (by omega) (w_gdR (by omega) (by omega) ?_)
    refine w_bind (t := s + (if M tb (lo e) = M tb (hi e) then 0 else M 4 e)) ?_ ?_
    · by_cases c : M tb (lo e) = M tb (hi e)
      · rw [if_pos c, if_pos c, Int.add_zero]
      · rw [if_neg c, if_neg c]
        exact w_bind (gr_price he) rfl
    · rw [show (e : Int) + 1 = ((e + 1 : Nat) : Int) by omega, enC_L hg ht m (e + 1) n _ (by omega) (by omega), ss, Int.add_assoc]
theorem enC {M : Mem} {tb : Nat} (hg : GR M) (ht : TB M tb) : fX1_energyOf M tb = some (enS (M 4) (M tb)) := by
  have h := enC_L hg ht 60 0 FU 0 (by omega) (by have := FU_big; omega)
  unfold fX1_energyOf
  refine w_bind h ?_
  rw [Int.zero_add]
  rfl
theorem enNowC {M : Mem} (hg : GR M) (ht : TB M 16) : fX1_energyNow M = some (enS (M 4) (M 16)) := by
  unfold fX1_energyNow
  exact w_bind (enC hg ht) rfl
theorem wwC_L {M : Mem} {tb v : Nat} {k : Int} (hg : GR M) (ht : TB M tb) (hv : v < 36) (hk : 0 ≤ k ∧ k < 8) : ∀ (m s n : Nat) (a : Int), s + m = 4 → m < n → fX1_wallsWith_L6 n M tb (v : Int) k a (s : Int) = some (a + ss (fun s => if bes v s = 60 then 0 else if M tb (oth (bes v s) v) = k then 0 else M 4 (bes v s)) s m)
  | _, _, 0, _, _, h => absurd h (by omega)
  | 0, s, n + 1, a, h, _ => by
    rw [fX1_wallsWith_L6]
    refine w_gdR (by omega) (by omega) (w_t (by omega) ?_)
    simp [ss]
  | m + 1, s, n + 1, a, h, hn => by
    have hs : s < 4 := by omega
    rw [fX1_wallsWith_L6]
    refine w_gdR (by omega) (by omega) (w_f (by omega) ?_)
    refine w_bind (gr_beside hg hv hs) ?_
    have hb := bes_inc v hv s hs
    refine w_gdR (by split <;> omega) (by split <;> omega) ?_
    refine w_bind (t := a + (if bes v s = 60 then 0 else if M tb (oth (bes v s) v) = k then 0 else M 4 (bes v s))) ?_ ?_
    · by_cases c : bes v s = 60
      · rw [if_pos c, if_pos c, if_pos rfl, Int.add_zero]
      · have he : bes v s < 60 := by omega
        have ho := oth_lt (v := v) he
        have h1 := ht.2.2 _ ho
        rw [if_neg c, if_neg c]
        refine w_f (by omega) (w_bind (gr_other hg he hv) (w_gd ht.1 (w_gdB (by omega) (by rw [ht.2.1]; omega) ?_)))
        simp only [Int.toNat_natCast]
        refine w_gdR (by omega) (by omega) (w_gdR (by omega) (by omega) ?_)
        by_cases c2 : M tb (oth (bes v s) v) = k
        · rw [if_pos c2, if_pos c2, Int.add_zero]
        · rw [if_neg c2, if_neg c2]
          exact w_bind (gr_price he) rfl
    · rw [show (s : Int) + 1 = ((s + 1 : Nat) : Int) by omega, wwC_L hg ht hv hk m (s + 1) n _ (by omega) (by omega), ss, Int.add_assoc]
theorem wwC {M : Mem} {tb v : Nat} {k : Int} (hg : GR M) (ht : TB M tb) (hv : v < 36) (hk : 0 ≤ k ∧ k < 8) : fX1_wallsWith M tb (v : Int) k = some (wwS (M 4) (M tb) v k) := by
  have h := wwC_L hg ht hv hk 4 0 FU 0 (by omega) (by have := FU_big; omega)
  unfold fX1_wallsWith
  refine w_bind h ?_
  rw [Int.zero_add]
  rfl
/-- the bubble to which a node comes: its own, if none of the others makes its walls cost less; else the cheapest, of several the lowest -/
def BO (own : Int) (w : Int → Int) (cand : Int → Prop) (r : Int) : Prop := (r = own ∧ ∀ k, cand k → ¬ w k < w own) ∨ (cand r ∧ w r < w own ∧ ∀ k, cand k → w r < w k ∨ (w r = w k ∧ r ≤ k))
theorem BO.one {own : Int} {w : Int → Int} {cand : Int → Prop} {r t : Int} (h1 : BO own w cand r) (h2 : BO own w cand t) : r = t := by
  rcases h1 with ⟨e1, n1⟩ | ⟨c1, l1, m1⟩ <;> rcases h2 with ⟨e2, n2⟩ | ⟨c2, l2, m2⟩
  · rw [e1, e2]
  · exact absurd l2 (n1 _ c2)
  · exact absurd l1 (n2 _ c1)
  · have a := m1 _ c2
    have b := m2 _ c1
    omega
/-- a neighbour's bubble that is not held -/
def candS (held b : Nat → Int) (v : Nat) (k : Int) : Prop := ∃ s, s < 4 ∧ bes v s ≠ 60 ∧ b (oth (bes v s) v) = k ∧ held k.toNat = 0
def candN (held b : Nat → Int) (v n : Nat) (k : Int) : Prop := ∃ s, s < n ∧ bes v s ≠ 60 ∧ b (oth (bes v s) v) = k ∧ held k.toNat = 0
theorem ww_bd {pc b : Nat → Int} (hp : ∀ e, e < 60 → 1 ≤ pc e ∧ pc e ≤ 59) {v : Nat} (hv : v < 36) (k : Int) : 0 ≤ wwS pc b v k ∧ wwS pc b v k ≤ 236 := by
  have h : ∀ s, 0 ≤ s → s < 0 + 4 → 0 ≤ (if bes v s = 60 then (0 : Int) else if b (oth (bes v s) v) = k then 0 else pc (bes v s)) ∧ (if bes v s = 60 then (0 : Int) else if b (oth (bes v s) v) = k then 0 else pc (bes v s)) ≤ 59 := by
    intro s _ hs
    have hb := bes_inc v hv s (by omega)
    by_cases c : bes v s = 60
    · rw [if_pos c]; omega
    · rw [if_neg c]
      have := hp _ (show bes v s < 60 by omega)
      split <;> omega
  exact ⟨ss_nn 4 0 (fun s h1 h2 => (h s h1 h2).1), by have := ss_ub (c := 59) 4 0 (fun s h1 h2 => (h s h1 h2).2); unfold wwS; omega⟩
theorem boC_L {M : Mem} {tb v : Nat} {own : Int} (hg : GR M) (ht : TB M tb) (hh : ∀ k, k < 8 → M 18 k = 0 ∨ M 18 k = 1) (hv : v < 36) (ho : 0 ≤ own ∧ own < 8) : ∀ (m s n : Nat) (best : Int), s + m = 4 → m < n → 0 ≤ best ∧ best < 8 → BO own (wwS (M 4) (M tb) v) (candN (M 18) (M tb) v s) best →
    ∃ r, fX1_bestOwner_L22 n M tb (v : Int) own best (wwS (M 4) (M tb) v best) (s : Int) = some r ∧ 0 ≤ r ∧ r < 8 ∧ BO own (wwS (M 4) (M tb) v) (candS (M 18) (M tb) v) r
  | _, _, 0, _, _, h, _, _ => absurd h (by omega)
  | 0, s, n + 1, best, h, _, hb, hB => by
    refine ⟨best, ?_, hb.1, hb.2, ?_⟩
    · rw [fX1_bestOwner_L22]
      exact w_gdR (by omega) (by omega) (w_t (by omega) rfl)
    · have e : s = 4 := by omega
      subst e
      exact hB
  | m + 1, s, n + 1, best, h, hn, hb, hB => by
    have hs : s < 4 := by omega
    have hbi := bes_inc v hv s hs
    have hp : ∀ e, e < 60 → 1 ≤ M 4 e ∧ M 4 e ≤ 59 := fun e he => (hg.1 e he).2.2
    have hwb := ww_bd (b := M tb) hp hv best
    have step : ∀ best2, 0 ≤ best2 ∧ best2 < 8 → BO own (wwS (M 4) (M tb) v) (candN (M 18) (M tb) v (s + 1)) best2 → ∃ r, fX1_bestOwner_L22 n M tb (v : Int) own best2 (wwS (M 4) (M tb) v best2) ((s : Int) + 1) = some r ∧ 0 ≤ r ∧ r < 8 ∧ BO own (wwS (M 4) (M tb) v) (candS (M 18) (M tb) v) r := by
      intro best2 h1 h2
      rw [show (s : Int) + 1 = ((s + 1 : Nat) : Int) by omega]
      exact boC_L hg ht hh hv ho m (s + 1) n best2 (by omega) (by omega) h1 h2
    have hkeep : (bes v s = 60 ∨ M 18 (M tb (oth (bes v s) v)).toNat ≠ 0 ∨ ¬ (wwS (M 4) (M tb) v (M tb (oth (bes v s) v)) < wwS (M 4) (M tb) v best ∨ (wwS (M 4) (M tb) v (M tb (oth (bes v s) v)) = wwS (M 4) (M tb) v best ∧ best ≠ own ∧ M tb (oth (bes v s) v) < best))) → BO own (wwS (M 4) (M tb) v) (candN (M 18) (M tb) v (s + 1)) best := by
      intro hcase
      have new : ∀ k, candN (M 18) (M tb) v (s + 1) k → candN (M 18) (M tb) v s k ∨ (bes v s ≠ 60 ∧ M tb (oth (bes v s) v) = k ∧ M 18 k.toNat = 0) := by
        intro k ⟨s1, h1, h2, h3, h4⟩
        rcases Nat.lt_or_ge s1 s with q | q
        · exact Or.inl ⟨s1, q, h2, h3, h4⟩
        · have e : s1 = s := by omega
          subst e
          exact Or.inr ⟨h2, h3, h4⟩
      rcases hB with ⟨e1, n1⟩ | ⟨⟨s1, c1⟩, l1, m1⟩
      · refine Or.inl ⟨e1, fun k hk => ?_⟩
        rcases new k hk with q | ⟨q1, q2, q3⟩
        · exact n1 k q
        · subst q2
          rw [← e1]
          intro hlt
          rcases hcase with q | q | q
          · exact q1 q
          · exact q q3
          · exact q (Or.inl hlt)
      · refine Or.inr ⟨⟨s1, by omega, c1.2⟩, l1, fun k hk => ?_⟩
        rcases new k hk with q | ⟨q1, q2, q3⟩
        · exact m1 k q
        · subst q2
          rcases hcase with q | q | q
          · exact absurd q q1
          · exact absurd q3 q
          · have hne : best ≠ own := fun e => by rw [e] at l1; omega
            by_cases a : wwS (M 4) (M tb) v (M tb (oth (bes v s) v)) < wwS (M 4) (M tb) v best
            · exact absurd (Or.inl a) q
            · by_cases b : wwS (M 4) (M tb) v (M tb (oth (bes v s) v)) = wwS (M 4) (M tb) v best
              · by_cases d : M tb (oth (bes v s) v) < best
                · exact absurd (Or.inr ⟨b, hne, d⟩) q
                · omega
              · omega
    by_cases c : bes v s = 60
    · obtain ⟨r, h1, h2⟩ := step best hb (hkeep (Or.inl c))
      refine ⟨r, ?_, h2⟩
      rw [fX1_bestOwner_L22]
      refine w_gdR (by omega) (by omega) (w_f (by omega) (w_bind (gr_beside hg hv hs) ?_))
      rw [if_pos c]
      exact w_gdR (by omega) (by omega) (w_bind (w_t rfl rfl) h1)
    · have he : bes v s < 60 := by omega
      have ho2 := oth_lt (v := v) he
      have hk := ht.2.2 _ ho2
      have hwk := ww_bd (b := M tb) hp hv (M tb (oth (bes v s) v))
      have hh2 := hh (M tb (oth (bes v s) v)).toNat (by omega)
      have go : ∀ (best2 : Int), (0 ≤ best2 ∧ best2 < 8 ∧ BO own (wwS (M 4) (M tb) v) (candN (M 18) (M tb) v (s + 1)) best2) →
          (∀ r, fX1_bestOwner_L22 n M tb (v : Int) own best2 (wwS (M 4) (M tb) v best2) ((s : Int) + 1) = some r → fX1_bestOwner_L22 (n + 1) M tb (v : Int) own best (wwS (M 4) (M tb) v best) (s : Int) = some r) →
          ∃ r, fX1_bestOwner_L22 (n + 1) M tb (v : Int) own best (wwS (M 4) (M tb) v best) (s : Int) = some r ∧ 0 ≤ r ∧ r < 8 ∧ BO own (wwS (M 4) (M tb) v) (candS (M 18) (M tb) v) r := by
        intro best2 h1 h2
        obtain ⟨r, h3, h4⟩ := step best2 ⟨h1.1, h1.2.1⟩ h1.2.2
        exact ⟨r, h2 r h3, h4⟩
      by_cases lower : wwS (M 4) (M tb) v (M tb (oth (bes v s) v)) < wwS (M 4) (M tb) v best ∨ (wwS (M 4) (M tb) v (M tb (oth (bes v s) v)) = wwS (M 4) (M tb) v best ∧ best ≠ own ∧ M tb (oth (bes v s) v) < best)
      · by_cases hz : M 18 (M tb (oth (bes v s) v)).toNat = 0
        · refine go (M tb (oth (bes v s) v)) ⟨hk.1, hk.2, Or.inr ⟨⟨s, by omega, c, rfl, hz⟩, ?_, ?_⟩⟩ ?_
          · rcases hB with ⟨e1, n1⟩ | ⟨c1, l1, m1⟩
            · rw [← e1]
              rcases lower with q | q
              · exact q
              · exact absurd e1 q.2.1
            · omega
          · intro k ⟨s1, h1, h2, h3, h4⟩
            rcases Nat.lt_or_ge s1 s with q | q
            · rcases hB with ⟨e1, n1⟩ | ⟨c1, l1, m1⟩
              · have := n1 k ⟨s1, q, h2, h3, h4⟩
                rw [e1] at lower
                rcases lower with q | q
                · omega
                · exact absurd rfl q.2.1
              · have := m1 k ⟨s1, q, h2, h3, h4⟩
                omega
            · have e : s1 = s := by omega
              subst e
              rw [h3]
              exact Or.inr ⟨rfl, Int.le_refl _⟩
          · intro r hr
            rw [fX1_bestOwner_L22]
            refine w_gdR (by omega) (by omega) (w_f (by omega) (w_bind (gr_beside hg hv hs) ?_))
            rw [if_neg c]
            refine w_gdR (by omega) (by omega) (w_bind (t := ((M tb (oth (bes v s) v)), wwS (M 4) (M tb) v (M tb (oth (bes v s) v)))) (w_f (by omega) (w_bind (gr_other hg he hv) (w_gd ht.1 (w_gdB (by omega) (by rw [ht.2.1]; omega) ?_)))) hr)
            simp only [Int.toNat_natCast]
            refine w_bind (wwC hg ht hv hk) (w_gdR (by omega) (by omega) (w_gdR (by omega) (by omega) (w_bind (t := 1) ?_ (w_gdR (by omega) (by omega) (w_f (by omega) (w_gdB (by omega) (by omega) (w_gdR (by omega) (by omega) (w_t hz rfl))))))))
            rcases lower with q | q
            · exact w_t q rfl
            · exact w_f (by omega) (w_t q.1 (w_gdR (by omega) (by omega) (w_gdR (by omega) (by omega) (w_f q.2.1 (w_gdR (by omega) (by omega) (w_f (by omega) rfl))))))
        · refine go best ⟨hb.1, hb.2, hkeep (Or.inr (Or.inl hz))⟩ ?_
          intro r hr
          rw [fX1_bestOwner_L22]
          refine w_gdR (by omega) (by omega) (w_f (by omega) (w_bind (gr_beside hg hv hs) ?_))
          rw [if_neg c]
          refine w_gdR (by omega) (by omega) (w_bind (t := (best, wwS (M 4) (M tb) v best)) (w_f (by omega) (w_bind (gr_other hg he hv) (w_gd ht.1 (w_gdB (by omega) (by rw [ht.2.1]; omega) ?_)))) hr)
          simp only [Int.toNat_natCast]
          refine w_bind (wwC hg ht hv hk) (w_gdR (by omega) (by omega) (w_gdR (by omega) (by omega) (w_bind (t := 1) ?_ (w_gdR (by omega) (by omega) (w_f (by omega) (w_gdB (by omega) (by omega) (w_gdR (by omega) (by omega) (w_f hz rfl))))))))
          rcases lower with q | q
          · exact w_t q rfl
          · exact w_f (by omega) (w_t q.1 (w_gdR (by omega) (by omega) (w_gdR (by omega) (by omega) (w_f q.2.1 (w_gdR (by omega) (by omega) (w_f (by omega) rfl))))))
      · refine go best ⟨hb.1, hb.2, hkeep (Or.inr (Or.inr lower))⟩ ?_
        intro r hr
        rw [fX1_bestOwner_L22]
        refine w_gdR (by omega) (by omega) (w_f (by omega) (w_bind (gr_beside hg hv hs) ?_))
        rw [if_neg c]
        refine w_gdR (by omega) (by omega) (w_bind (t := (best, wwS (M 4) (M tb) v best)) (w_f (by omega) (w_bind (gr_other hg he hv) (w_gd ht.1 (w_gdB (by omega) (by rw [ht.2.1]; omega) ?_)))) hr)
        simp only [Int.toNat_natCast]
        refine w_bind (wwC hg ht hv hk) (w_gdR (by omega) (by omega) (w_gdR (by omega) (by omega) (w_bind (t := 0) ?_ (w_gdR (by omega) (by omega) (w_t rfl rfl)))))
        refine w_f (fun q => lower (Or.inl q)) ?_
        by_cases d : wwS (M 4) (M tb) v (M tb (oth (bes v s) v)) = wwS (M 4) (M tb) v best
        · refine w_t d (w_gdR (by omega) (by omega) (w_gdR (by omega) (by omega) ?_))
          by_cases d2 : best = own
          · exact w_t d2 rfl
          · exact w_f d2 (w_gdR (by omega) (by omega) (w_t (by
              by_cases d3 : M tb (oth (bes v s) v) < best
              · exact absurd (Or.inr ⟨d, d2, d3⟩) lower
              · omega) rfl))
        · exact w_f d rfl
