/-! a node's breath, and a whole one, on both sides -/
def candK (held b : Nat → Int) (v k0 : Nat) (k : Int) : Prop := 0 ≤ k ∧ k < (k0 : Int) ∧ held k.toNat = 0 ∧ ∃ s, s < 4 ∧ bes v s ≠ 60 ∧ b (oth (bes v s) v) = k
theorem bfM_L {M : Mem} (hb : BR M) (hm : MR M) (hh : ∀ k, k < 8 → M 5 k = 0 ∨ M 5 k = 1) {v : Nat} (hv : v < 36) {own : Int} (ho : 0 ≤ own ∧ own < 8) (hz : M 5 own.toNat = 0) : ∀ (m k n : Nat) (best : Int), k + m = 8 → m < n → 0 ≤ best ∧ best < 8 → BO own (wwS (coM M) (M 4) v) (candK (M 5) (M 4) v k) best →
    ∃ r, fX6_bestFor_L20 n M (v : Int) own best (wwS (coM M) (M 4) v best) (k : Int) = some r ∧ 0 ≤ r ∧ r < 8 ∧ BO own (wwS (coM M) (M 4) v) (candK (M 5) (M 4) v 8) r
  | _, _, 0, _, _, h, _, _ => absurd h (by omega)
  | 0, k, n + 1, best, h, _, hr, hB => by
    have e0 : k = 8 := by omega
    subst e0
    refine ⟨best, ?_, hr.1, hr.2, hB⟩
    rw [fX6_bestFor_L20]
    exact w_gdR (by omega) (by omega) (w_t (by omega) rfl)
  | m + 1, k, n + 1, best, h, hn, hr, hB => by
    have hk : k < 8 := by omega
    have hp : ∀ e, e < 60 → 1 ≤ coM M e ∧ coM M e ≤ 59 := fun e he => coM_bd hm he
    have hwb := ww_bd (b := M 4) hp hv best
    have hwk := ww_bd (b := M 4) hp hv (k : Int)
    have hhk := hh k hk
    obtain ⟨y, y1, y2, y3⟩ := beM hb hv (k := (k : Int)) ⟨by omega, by omega⟩
    rw [cand_iff hv] at y3
    -- the step, given what is found of k
    have step : ∀ (may : Int) (walls best2 : Int), (may = 0 ∨ may = 1) → (if M 5 k = 0 then (Option.bind (fX6_isBeside M (v : Int) (k : Int)) (fun t12 => gd (inR (t12)) (if t12 = 0 then (some (0)) else (some (1))))) else (some (0))) = some may → (may = 0 → walls = 1000000000) → (may = 1 → walls = wwS (coM M) (M 4) v (k : Int)) → (best2 = if wwS (coM M) (M 4) v best ≤ walls then best else (k : Int)) → (¬ wwS (coM M) (M 4) v best ≤ walls → may = 1) → 0 ≤ best2 ∧ best2 < 8 → BO own (wwS (coM M) (M 4) v) (candK (M 5) (M 4) v (k + 1)) best2 →
        ∃ r, fX6_bestFor_L20 (n + 1) M (v : Int) own best (wwS (coM M) (M 4) v best) (k : Int) = some r ∧ 0 ≤ r ∧ r < 8 ∧ BO own (wwS (coM M) (M 4) v) (candK (M 5) (M 4) v 8) r := by
      intro may walls best2 hmay h1 h2 h3 h4 h5 h6 h7
      obtain ⟨r, q1, q2⟩ := bfM_L hb hm hh hv ho hz m (k + 1) n best2 (by omega) (by omega) h6 h7
      refine ⟨r, ?_, q2⟩
      clear y3 hB h7
      rw [fX6_bestFor_L20]
      refine w_gdR (by omega) (by omega) (w_f (by omega) (w_gdB (by omega) (by omega) ?_))
      refine w_gdR (by omega) (by omega) (w_t hz (w_gdB (by omega) (by omega) ?_))
      simp only [Int.toNat_natCast]
      refine w_gdR (by omega) (by omega) (w_bind h1 (w_gdR (by omega) (by omega) (w_bind (t := walls) ?_ ?_)))
      · rcases hmay with rfl | rfl
        · exact w_t rfl (congrArg some (h2 rfl).symm)
        · refine w_f (by decide) ?_
          rw [h3 rfl]
          exact w_bind (wwM hb hv ⟨by omega, by omega⟩) rfl
      · have hw : inR walls := by
          rcases hmay with rfl | rfl
          · rw [h2 rfl]; exact ⟨by decide, by decide⟩
          · rw [h3 rfl]; exact ⟨by omega, by omega⟩
        refine w_gd hw (w_gdR (by omega) (by omega) (w_bind (t := best2) ?_ (w_bind (t := wwS (coM M) (M 4) v best2) ?_ ?_)))
        · rw [h4]
          by_cases c : wwS (coM M) (M 4) v best ≤ walls
          · rw [if_pos c, if_pos c]
          · rw [if_neg c, if_neg c]
        · rw [h4]
          by_cases c : wwS (coM M) (M 4) v best ≤ walls
          · rw [if_pos c, if_pos c]
          · rw [if_neg c, if_neg c, h3 (h5 c)]
        · rw [show (k : Int) + 1 = ((k + 1 : Nat) : Int) by omega]
          exact q1
    have keep : (candK (M 5) (M 4) v (k + 1) (k : Int) → wwS (coM M) (M 4) v best ≤ wwS (coM M) (M 4) v (k : Int)) → BO own (wwS (coM M) (M 4) v) (candK (M 5) (M 4) v (k + 1)) best := by
      intro hc
      have new : ∀ j, candK (M 5) (M 4) v (k + 1) j → candK (M 5) (M 4) v k j ∨ j = (k : Int) := by
        intro j ⟨a, b, c⟩
        by_cases q : j < (k : Int)
        · exact Or.inl ⟨a, q, c⟩
        · exact Or.inr (by omega)
      rcases hB with ⟨e1, n1⟩ | ⟨c1, l1, m1⟩
      · refine Or.inl ⟨e1, fun j hj => ?_⟩
        rcases new j hj with q | q
        · exact n1 j q
        · subst q
          have := hc hj
          rw [e1] at this
          omega
      · refine Or.inr ⟨⟨c1.1, by have := c1.2.1; omega, c1.2.2⟩, l1, fun j hj => ?_⟩
        rcases new j hj with q | q
        · exact m1 j q
        · subst q
          have := hc hj
          have := c1.2.1
          omega
    by_cases hz2 : M 5 k = 0
    · rcases y2 with rfl | rfl
      · refine step 0 1000000000 best (Or.inl rfl) (w_t hz2 (w_bind y1 (w_gdR (by omega) (by omega) (w_t rfl rfl)))) (fun _ => rfl) (fun q => absurd q (by decide)) (by rw [if_pos (by omega)]) (fun q => absurd (by omega) q) hr (keep ?_)
        intro ⟨_, _, _, q⟩
        exact absurd (y3.mpr q) (by decide)
      · have hcand := y3.mp rfl
        by_cases c : wwS (coM M) (M 4) v best ≤ wwS (coM M) (M 4) v (k : Int)
        · exact step 1 _ best (Or.inr rfl) (w_t hz2 (w_bind y1 (w_gdR (by omega) (by omega) (w_f (by decide) rfl)))) (fun q => absurd q (by decide)) (fun _ => rfl) (by rw [if_pos c]) (fun _ => rfl) hr (keep (fun _ => c))
        · refine step 1 _ (k : Int) (Or.inr rfl) (w_t hz2 (w_bind y1 (w_gdR (by omega) (by omega) (w_f (by decide) rfl)))) (fun q => absurd q (by decide)) (fun _ => rfl) (by rw [if_neg c]) (fun _ => rfl) ⟨by omega, by omega⟩ (Or.inr ⟨⟨by omega, by omega, by rw [Int.toNat_natCast]; exact hz2, hcand⟩, ?_, ?_⟩)
          · rcases hB with ⟨e1, n1⟩ | ⟨c1, l1, m1⟩
            · rw [← e1]; omega
            · omega
          · intro j ⟨a, b, d⟩
            by_cases q : j < (k : Int)
            · rcases hB with ⟨e1, n1⟩ | ⟨c1, l1, m1⟩
              · have := n1 j ⟨a, q, d⟩
                rw [e1] at c
                omega
              · have := m1 j ⟨a, q, d⟩
                omega
            · have e2 : j = (k : Int) := by omega
              rw [e2]
              exact Or.inr ⟨rfl, Int.le_refl _⟩
    · refine step 0 1000000000 best (Or.inl rfl) (w_f hz2 rfl) (fun _ => rfl) (fun q => absurd q (by decide)) (by rw [if_pos (by omega)]) (fun q => absurd (by omega) q) hr (keep ?_)
      intro ⟨_, _, q, _⟩
      rw [Int.toNat_natCast] at q
      exact absurd q hz2
theorem cand_KS {held b : Nat → Int} {v : Nat} (hv : v < 36) (hb : ∀ v, v < 36 → 0 ≤ b v ∧ b v < 8) (k : Int) : candK held b v 8 k ↔ candS held b v k := by
  constructor
  · intro ⟨_, _, h3, s, h4, h5, h6⟩
    exact ⟨s, h4, h5, h6, h3⟩
  · intro ⟨s, h4, h5, h6, h3⟩
    rcases bes_inc v hv s h4 with q | ⟨q, _⟩
    · exact absurd q h5
    · have := hb _ (oth_lt (v := v) q)
      rw [h6] at this
      exact ⟨this.1, by omega, h3, s, h4, h5, h6⟩
theorem BO.cand {own : Int} {w : Int → Int} {c d : Int → Prop} {r : Int} (h : BO own w c r) (e : ∀ k, c k ↔ d k) : BO own w d r := by
  rcases h with ⟨h1, h2⟩ | ⟨h1, h2, h3⟩
  · exact Or.inl ⟨h1, fun k hk => h2 k ((e k).mpr hk)⟩
  · exact Or.inr ⟨(e r).mp h1, h2, fun k hk => h3 k ((e k).mpr hk)⟩
theorem bfM {M : Mem} (hb : BR M) (hm : MR M) (hh : ∀ k, k < 8 → M 5 k = 0 ∨ M 5 k = 1) {v : Nat} (hv : v < 36) : ∃ r, fX6_bestFor M (v : Int) = some r ∧ 0 ≤ r ∧ r < 8 ∧ (M 5 (M 4 v).toNat ≠ 0 → r = M 4 v) ∧ (M 5 (M 4 v).toNat = 0 → BO (M 4 v) (wwS (coM M) (M 4) v) (candS (M 5) (M 4) v) r) := by
  have ho := hb v hv
  have hhv := hh (M 4 v).toNat (by omega)
  by_cases hz : M 5 (M 4 v).toNat = 0
  · obtain ⟨r, h1, h2, h3, h4⟩ := bfM_L hb hm hh hv ho hz 8 0 FU (M 4 v) (by omega) (by have := FU_big; omega) ho (Or.inl ⟨rfl, fun k hk => absurd hk.2.1 (by have := hk.1; omega)⟩)
    refine ⟨r, ?_, h2, h3, fun q => absurd hz q, fun _ => h4.cand (cand_KS hv hb)⟩
    unfold fX6_bestFor
    refine w_gdB (by omega) (by omega) ?_
    simp only [Int.toNat_natCast]
    exact w_bind (wwM hb hv ho) (w_bind h1 rfl)
  · refine ⟨M 4 v, ?_, ho.1, ho.2, fun _ => rfl, fun q => absurd q hz⟩
    have hp : ∀ e, e < 60 → 1 ≤ coM M e ∧ coM M e ≤ 59 := fun e he => coM_bd hm he
    have hwb := ww_bd (b := M 4) hp hv (M 4 v)
    obtain ⟨n, hn⟩ : ∃ n, FU = n + 1 := ⟨FU - 1, by have := FU_big; omega⟩
    unfold fX6_bestFor
    refine w_gdB (by omega) (by omega) ?_
    simp only [Int.toNat_natCast]
    refine w_bind (wwM hb hv ho) (w_bind (t := M 4 v) ?_ rfl)
    rw [hn, fX6_bestFor_L20]
    exact w_gdR (by decide) (by decide) (w_f (by decide) (w_gdB (by omega) (by omega) (w_gdR (by omega) (by omega) (w_f hz rfl))))
theorem boC {M : Mem} {tb v : Nat} (hg : GR M) (ht : TB M tb) (hh : ∀ k, k < 8 → M 18 k = 0 ∨ M 18 k = 1) (hv : v < 36) : ∃ r, fX1_bestOwner M tb (v : Int) = some r ∧ 0 ≤ r ∧ r < 8 ∧ BO (M tb v) (wwS (M 4) (M tb) v) (candS (M 18) (M tb) v) r := by
  have ho := ht.2.2 v hv
  obtain ⟨r, h1, h2⟩ := boC_L hg ht hh hv ho 4 0 FU (M tb v) (by omega) (by have := FU_big; omega) ho (Or.inl ⟨rfl, fun k ⟨s, h, _⟩ => absurd h (by omega)⟩)
  refine ⟨r, ?_, h2⟩
  unfold fX1_bestOwner
  refine w_gd ht.1 (w_gdB (by omega) (by rw [ht.2.1]; omega) ?_)
  simp only [Int.toNat_natCast]
  exact w_bind (wwC hg ht hv ho) (w_bind h1 rfl)
