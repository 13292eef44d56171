/-! the class's greatest flow -/
theorem neC_L {M : Mem} {F : Nat} (hq : ∀ i, i < F → ∃ w : Nat, w < 36 ∧ M 15 i = (w : Int) ∧ M 14 w ≠ -1) (hF : F ≤ 36) (hp : ∀ v, v < 36 → inR (M 12 v)) : ∀ (m j n : Nat), j + m = 36 → m < n → (∀ i, i < j → i < F → ∀ w : Nat, M 15 i = (w : Int) → M 12 w ≠ 2) →
    (∃ u : Nat, u < 36 ∧ M 14 u ≠ -1 ∧ M 12 u = 2 ∧ fX0_nearestOutside_L2 n M (F : Int) (j : Int) = some (.inl (u : Int))) ∨ ((∀ i, i < F → ∀ w : Nat, M 15 i = (w : Int) → M 12 w ≠ 2) ∧ fX0_nearestOutside_L2 n M (F : Int) (j : Int) = some (.inr ())) := by
  intro m
  induction m with
  | zero =>
    intro j n h hn hj
    obtain ⟨n, rfl⟩ : ∃ k, n = k + 1 := ⟨n - 1, by omega⟩
    refine Or.inr ⟨fun i hi => hj i (by omega) hi, ?_⟩
    rw [fX0_nearestOutside_L2]
    exact w_gdR (by omega) (by omega) (w_t (by omega) rfl)
  | succ m ih =>
    intro j n h hn hj
    obtain ⟨n, rfl⟩ : ∃ k, n = k + 1 := ⟨n - 1, by omega⟩
    by_cases c : F ≤ j
    · refine Or.inr ⟨fun i hi => hj i (by omega) hi, ?_⟩
      rw [fX0_nearestOutside_L2]
      exact w_gdR (by omega) (by omega) (w_f (by omega) (w_gdR (by omega) (by omega) (w_t (by omega) rfl)))
    · obtain ⟨w, w1, w2, w3⟩ := hq j (by omega)
      have front : ∀ r : (Int) ⊕ (Unit), (if M 12 w = 2 then some (.inl (w : Int)) else fX0_nearestOutside_L2 n M (F : Int) ((j : Int) + 1)) = some r → fX0_nearestOutside_L2 (n + 1) M (F : Int) (j : Int) = some r := by
        intro r hr
        rw [fX0_nearestOutside_L2]
        refine w_gdR (by omega) (by omega) (w_f (by omega) (w_gdR (by omega) (by omega) (w_f (by omega) (w_gdB (by omega) (by omega) ?_))))
        rw [Int.toNat_natCast, w2]
        refine w_gdB (by omega) (by omega) ?_
        rw [Int.toNat_natCast]
        refine w_gd (hp w w1) ?_
        by_cases q : M 12 w = 2
        · rw [if_pos q] at hr ⊢
          exact w_gdB (by omega) (by omega) hr
        · rw [if_neg q] at hr ⊢
          exact hr
      by_cases q : M 12 w = 2
      · exact Or.inl ⟨w, w1, w3, q, front _ (w_t q rfl)⟩
      · have step := ih (j + 1) n (by omega) (by omega) (fun i hi hiF x hx => by
          by_cases y : i = j
          · have e : (x : Int) = (w : Int) := by rw [← hx, y, w2]
            have e2 : x = w := by omega
            rw [e2]; exact q
          · exact hj i (by omega) hiF x hx)
        rw [show ((j + 1 : Nat) : Int) = (j : Int) + 1 by omega] at step
        rcases step with ⟨u, u1, u2, u3, u4⟩ | ⟨u1, u2⟩
        · exact Or.inl ⟨u, u1, u2, u3, front _ (w_f q u4)⟩
        · exact Or.inr ⟨u1, front _ (w_f q u2)⟩
theorem rkDown {c f0 pn sn : Nat → Int} {ed : Nat → Nat} {rt : Nat → Prop} {rk : Nat → Nat} {F en : Nat} (hR : RkI c f0 pn sn ed rt rk F) (h1 : en < 36) (h2 : sn en = 1) : ∀ j, (∀ i, i < j → ¬ rt (itN ed i en)) → itN ed j en < 36 ∧ sn (itN ed j en) = 1 ∧ rk (itN ed j en) + j ≤ rk en
  | 0, _ => ⟨h1, h2, Nat.le_refl _⟩
  | j + 1, h => by
    obtain ⟨a1, a2, a3⟩ := rkDown hR h1 h2 j (fun i hi => h i (by omega))
    obtain ⟨b0, b1⟩ := hR _ a1 a2
    obtain ⟨_, c1, c2, c3, c4, c5⟩ := b1.resolve_left (fun z => h j (by omega) z.1)
    rw [itN]
    exact ⟨oth_lt c1, c3, by omega⟩
theorem maC_L {M : Mem} (hg : GR M) (hfb : ∀ e, e < 60 → -(M 4 e) ≤ M 13 e ∧ M 13 e ≤ M 4 e) {rk : Nat → Nat} {F en : Nat} (hF : F ≤ 36) (hr : ∀ v, v < 36 → -2 ≤ M 14 v ∧ M 14 v < 60) (hR : RkI (M 4) (M 13) (M 12) (sn14 M) (ed14 M) (rt14 M) rk F) (h1 : en < 36) (h2 : sn14 M en = 1) : ∀ (m j n : Nat) (x : Int), j + m = 36 → m < n → (∀ i, i < j → ¬ rt14 M (itN (ed14 M) i en)) → 1 ≤ x ∧ x ≤ 1000000 → (∀ i, i < j → x ≤ lft (M 4) (M 13) (ed14 M (itN (ed14 M) i en)) (itN (ed14 M) (i + 1) en)) →
    ∃ a, fX0_mostAlong_L9 n M x (itN (ed14 M) j en : Int) (j : Int) = some a ∧ (1 ≤ a ∧ a ≤ 1000000) ∧ ∀ j, (∀ i, i ≤ j → ¬ rt14 M (itN (ed14 M) i en)) → a ≤ lft (M 4) (M 13) (ed14 M (itN (ed14 M) j en)) (itN (ed14 M) (j + 1) en) := by
  intro m
  induction m with
  | zero =>
    intro j n x h hn hj hx hl
    exfalso
    obtain ⟨a1, a2, a3⟩ := rkDown hR h1 h2 j hj
    have := (hR en h1 h2).1
    omega
  | succ m ih =>
    intro j n x h hn hj hx hl
    obtain ⟨n, rfl⟩ : ∃ k, n = k + 1 := ⟨n - 1, by omega⟩
    obtain ⟨a1, a2, a3⟩ := rkDown hR h1 h2 j hj
    obtain ⟨v, hv⟩ : ∃ v, v = itN (ed14 M) j en := ⟨_, rfl⟩
    rw [← hv] at a1 a2 a3 ⊢
    have b := hr v a1
    by_cases c : M 14 v < 0
    · refine ⟨x, ?_, hx, fun j2 h3 => ?_⟩
      · rw [fX0_mostAlong_L9]
        refine w_gdR (by omega) (by omega) (w_f (by omega) (w_gdB (by omega) (by omega) ?_))
        rw [Int.toNat_natCast]
        exact w_gdR (by omega) (by omega) (w_t c rfl)
      · by_cases q : j2 < j
        · exact hl j2 q
        · have := h3 j (by omega)
          rw [← hv] at this
          exact absurd c this
    · obtain ⟨b0, b1⟩ := hR v a1 a2
      obtain ⟨_, c1, c2, c3, c4, c5⟩ := b1.resolve_left (fun z => c z.1)
      have ee : M 14 v = (ed14 M v : Int) := by unfold ed14; omega
      have ho := oth_lt (v := v) c1
      have lb := lft_bd (hfb _ c1) ⟨(hg.1 _ c1).2.2.1, (hg.1 _ c1).2.2.2⟩ (oth (ed14 M v) v)
      have hnext : itN (ed14 M) (j + 1) en = oth (ed14 M v) v := by rw [itN, ← hv]
      obtain ⟨y, hy⟩ : ∃ y, y = if lft (M 4) (M 13) (ed14 M v) (oth (ed14 M v) v) < x then lft (M 4) (M 13) (ed14 M v) (oth (ed14 M v) v) else x := ⟨_, rfl⟩
      have yb : 1 ≤ y ∧ y ≤ x ∧ y ≤ lft (M 4) (M 13) (ed14 M v) (oth (ed14 M v) v) := by rw [hy]; split <;> omega
      obtain ⟨a, g1, g2⟩ := ih (j + 1) n y (by omega) (by omega) (fun i hi => by
        by_cases q : i = j
        · rw [q, ← hv]; exact c
        · exact hj i (by omega)) (by omega) (fun i hi => by
        by_cases q : i = j
        · rw [q, hnext, ← hv]; exact yb.2.2
        · have := hl i (by omega); omega)
      refine ⟨a, ?_, g2⟩
      rw [hnext] at g1
      rw [fX0_mostAlong_L9]
      refine w_gdR (by omega) (by omega) (w_f (by omega) (w_gdB (by omega) (by omega) ?_))
      rw [Int.toNat_natCast]
      refine w_gdR (by omega) (by omega) (w_f c (w_gdB (by omega) (by omega) ?_))
      rw [ee]
      refine w_bind (gr_other hg c1 a1) (w_bind (lfC hg c1 ho) (w_gdR (by omega) (by omega) (w_gdR (by omega) (by omega) ?_)))
      rw [← hy, show (j : Int) + 1 = ((j + 1 : Nat) : Int) by omega]
      exact g1
theorem puC_L {M0 : Mem} (hg : GR M0) {rk : Nat → Nat} {F en : Nat} {a : Int} (hF : F ≤ 36) (ha : 1 ≤ a ∧ a ≤ 1000000) (hr : ∀ v, v < 36 → -2 ≤ M0 14 v ∧ M0 14 v < 60) (hR : RkI (M0 4) (M0 13) (M0 12) (sn14 M0) (ed14 M0) (rt14 M0) rk F) (h1 : en < 36) (h2 : sn14 M0 en = 1) (hl : ∀ j, (∀ i, i ≤ j → ¬ rt14 M0 (itN (ed14 M0) i en)) → a ≤ lft (M0 4) (M0 13) (ed14 M0 (itN (ed14 M0) j en)) (itN (ed14 M0) (j + 1) en)) : ∀ (m j n : Nat) (M : Mem), j + m = 36 → m < n → (∀ b, b ≠ 13 → M b = M0 b) → (∀ i, i < j → ¬ rt14 M0 (itN (ed14 M0) i en)) → PuI (M0 4) (M0 13) (sn14 M0) (ed14 M0) (rt14 M0) rk a en (itN (ed14 M0) j en) (M 13) →
    ∃ (cur : Nat) (M' : Mem), fX0_push_L6 n M a (itN (ed14 M0) j en : Int) (j : Int) = some M' ∧ (∀ b, b ≠ 13 → M' b = M0 b) ∧ M0 12 cur = 1 ∧ PuI (M0 4) (M0 13) (sn14 M0) (ed14 M0) (rt14 M0) rk a en cur (M' 13) := by
  intro m
  induction m with
  | zero =>
    intro j n M h hn hb hj hP
    exfalso
    obtain ⟨a1, a2, a3⟩ := rkDown hR h1 h2 j hj
    have := (hR en h1 h2).1
    omega
  | succ m ih =>
    intro j n M h hn hb hj hP
    obtain ⟨n, rfl⟩ : ∃ k, n = k + 1 := ⟨n - 1, by omega⟩
    obtain ⟨a1, a2, a3⟩ := rkDown hR h1 h2 j hj
    obtain ⟨v, hv⟩ : ∃ v, v = itN (ed14 M0) j en := ⟨_, rfl⟩
    rw [← hv] at a1 a2 a3 hP ⊢
    have b := hr v a1
    have e14 : M 14 = M0 14 := hb 14 (by decide)
    have hgM : GR M := by
      unfold GR
      rw [hb 0 (by decide), hb 1 (by decide), hb 2 (by decide), hb 4 (by decide)]
      exact hg
    obtain ⟨b0, b1⟩ := hR v a1 a2
    by_cases c : M0 14 v < 0
    · refine ⟨v, M, ?_, hb, ?_, hP⟩
      · rw [fX0_push_L6]
        refine w_gdR (by omega) (by omega) (w_f (by omega) (w_gdB (by omega) (by omega) ?_))
        rw [Int.toNat_natCast, e14]
        exact w_gdR (by omega) (by omega) (w_t c rfl)
      · rcases b1 with z | z
        · exact z.2
        · exact absurd c z.1
    · obtain ⟨_, c1, c2, c3, c4, c5⟩ := b1.resolve_left (fun z => c z.1)
      have ee : M0 14 v = (ed14 M0 v : Int) := by unfold ed14; omega
      have ho := oth_lt (v := v) c1
      have hlo := lo_lt c1
      have hnext : itN (ed14 M0) (j + 1) en = oth (ed14 M0 v) v := by rw [itN, ← hv]
      have hlj := hl j (fun i hi => by
        by_cases q : i = j
        · rw [q, ← hv]; exact c
        · exact hj i (by omega))
      rw [hnext, ← hv] at hlj
      have hP2 := hP.step hR (by omega) c hlj (f2 := wr M 13 (ed14 M0 v) (M 13 (ed14 M0 v) + (if oth (ed14 M0 v) v = lo (ed14 M0 v) then a else -a)) 13) (fun e _ => by rw [wr_put])
      obtain ⟨cur, M', g1, g2⟩ := ih (j + 1) n _ (by omega) (by omega) (fun b hb1 => (wr_row M _ hb1).trans (hb b hb1)) (fun i hi => by
        by_cases q : i = j
        · rw [q, ← hv]; exact c
        · exact hj i (by omega)) (by rw [hnext]; exact hP2)
      refine ⟨cur, M', ?_, g2⟩
      rw [hnext] at g1
      rw [fX0_push_L6]
      refine w_gdR (by omega) (by omega) (w_f (by omega) (w_gdB (by omega) (by omega) ?_))
      rw [Int.toNat_natCast, e14]
      refine w_gdR (by omega) (by omega) (w_f c (w_gdB (by omega) (by omega) ?_))
      rw [ee]
      refine w_bind (gr_other hgM c1 a1) (w_gdB (by omega) (by omega) (w_bind (gr_low hgM c1) (w_gdR (by omega) (by omega) (w_gdR (by omega) (by omega) (w_bind (t := if oth (ed14 M0 v) v = lo (ed14 M0 v) then a else -a) ?_ (w_gdB (by omega) (by omega) ?_))))))
      · by_cases q : oth (ed14 M0 v) v = lo (ed14 M0 v)
        · rw [if_pos q]; exact w_t (by omega) rfl
        · rw [if_neg q]; exact w_f (by omega) rfl
      · rw [Int.toNat_natCast, show (j : Int) + 1 = ((j + 1 : Nat) : Int) by omega]
        exact g1
/-- the set of the pins inside is a film: no flow proves more than 3540 -/
theorem va_ub {pn c f : Nat → Int} (hpn : pinR pn) (hc : ∀ e, e < 60 → 1 ≤ c e ∧ c e ≤ 59) (hf : Fld pn c f) : vaF pn f ≤ 3540 := by
  have a := weak (b := fun v => if pn v = 1 then 1 else 0) hpn hf (fun v hv => by
    show ((if pn v = 1 then (1 : Int) else 0) = 0 ∨ (if pn v = 1 then (1 : Int) else 0) = 1) ∧ (pn v = 1 → (if pn v = 1 then (1 : Int) else 0) = 1) ∧ (pn v = 2 → (if pn v = 1 then (1 : Int) else 0) = 0)
    by_cases q : pn v = 1
    · rw [if_pos q]; exact ⟨Or.inr rfl, fun _ => rfl, fun z => by omega⟩
    · rw [if_neg q]; exact ⟨Or.inl rfl, fun z => absurd z q, fun _ => rfl⟩)
  have b := (en_nn (pc := c) (b := fun v => if pn v = 1 then 1 else 0) hc).2
  omega
def FlI (M0 M : Mem) : Prop := (∀ a, a ≠ 13 → a ≠ 14 → a ≠ 15 → M a = M0 a) ∧ Fld (M0 12) (M0 4) (M 13)
theorem FlI.gr {M0 M : Mem} (h : FlI M0 M) (hg : GR M0) : GR M := by
  unfold GR
  rw [h.1 0 (by decide) (by decide) (by decide), h.1 1 (by decide) (by decide) (by decide), h.1 2 (by decide) (by decide) (by decide), h.1 4 (by decide) (by decide) (by decide)]
  exact hg
theorem FlI.sc {M0 M M1 : Mem} (h : FlI M0 M) {k : Int} {F : Nat} (s : ScI k M M1 F) : FlI M0 M1 := by
  refine ⟨fun a h1 h2 h3 => by rw [s.1 a h2 h3, h.1 a h1 h2 h3], ?_⟩
  rw [s.1 13 (by decide) (by decide)]
  exact h.2
theorem fiC_L {M0 : Mem} (hg : GR M0) (hpn : pinR (M0 12)) : ∀ (m j n : Nat) (M : Mem) (x2 : Int), j + m = 3600 → m < n → FlI M0 M → ((x2 = 1 ∧ (j : Int) ≤ vaF (M0 12) (M 13)) ∨ (x2 = 0 ∧ MxF (M0 12) (M0 4) (M 13))) →
    ∃ M', fX0_fillField_L25 n M x2 (j : Int) = some M' ∧ FlI M0 M' ∧ MxF (M0 12) (M0 4) (M' 13) := by
  intro m
  have hc : ∀ e, e < 60 → 1 ≤ M0 4 e ∧ M0 4 e ≤ 59 := fun e he => (hg.1 e he).2.2
  induction m with
  | zero =>
    intro j n M x2 h hn hI hx
    obtain ⟨n, rfl⟩ : ∃ k, n = k + 1 := ⟨n - 1, by omega⟩
    rcases hx with ⟨x1, x3⟩ | ⟨x1, x3⟩
    · have := va_ub hpn hc hI.2
      omega
    · refine ⟨M, ?_, hI, x3⟩
      rw [fX0_fillField_L25]
      exact w_gdR (by omega) (by omega) (w_f (by omega) (w_gdR (by omega) (by omega) (w_t x1 rfl)))
  | succ m ih =>
    intro j n M x2 h hn hI hx
    obtain ⟨n, rfl⟩ : ∃ k, n = k + 1 := ⟨n - 1, by omega⟩
    rcases hx with ⟨x1, x3⟩ | ⟨x1, x3⟩
    · have hgM := hI.gr hg
      have e12 : M 12 = M0 12 := hI.1 12 (by decide) (by decide) (by decide)
      have e4 : M 4 = M0 4 := hI.1 4 (by decide) (by decide) (by decide)
      have hp : ∀ v, v < 36 → inR (M 12 v) := fun v hv => by
        rw [e12]
        have := hpn v hv
        exact ⟨by omega, by omega⟩
      obtain ⟨F, M1, s1, s2, s3⟩ := scC (k := 1) (Or.inl rfl) hgM hp (by rw [e4]; exact hI.2.1)
      have hF := s2.2.2.2.2.le
      have hI1 := hI.sc s2
      have e12b : M1 12 = M 12 := s2.1 12 (by decide) (by decide)
      have e4b : M1 4 = M 4 := s2.1 4 (by decide) (by decide)
      have e13b : M1 13 = M 13 := s2.1 13 (by decide) (by decide)
      rcases neC_L (M := M1) (F := F) s2.2.1 hF (by rw [e12b]; exact hp) 36 0 FU (by omega) (by have := FU_big; omega) (fun i hi => absurd hi (by omega)) with ⟨u, u1, u2, u3, u4⟩ | ⟨u1, u2⟩
      · -- a push
        obtain ⟨rk, hR0⟩ := s2.2.2.2.2.rkI
        have hR : RkI (M1 4) (M1 13) (M1 12) (sn14 M1) (ed14 M1) (rt14 M1) rk F := by rw [e4b, e13b, e12b]; exact hR0
        have hg1 := hI1.gr hg
        have hfb : ∀ e, e < 60 → -(M1 4 e) ≤ M1 13 e ∧ M1 13 e ≤ M1 4 e := by rw [e4b, e4]; exact hI1.2.1
        obtain ⟨a, m1, m2, m3⟩ := maC_L hg1 hfb hF s2.2.2.2.1 hR u1 (sn14_1.mpr u2) 36 0 FU 1000000 (by omega) (by have := FU_big; omega) (fun i hi => absurd hi (by omega)) ⟨by omega, by omega⟩ (fun i hi => absurd hi (by omega))
        obtain ⟨cur, M2, p1, p2, p3, p4⟩ := puC_L hg1 hF m2 s2.2.2.2.1 hR u1 (sn14_1.mpr u2) m3 36 0 FU M1 (by omega) (by have := FU_big; omega) (fun _ _ => rfl) (fun i hi => absurd hi (by omega)) (PuI.start hfb u1 (sn14_1.mpr u2))
        have hf1 : Fld (M1 12) (M1 4) (M1 13) := by rw [e12b, e12, e4b, e4]; exact hI1.2
        obtain ⟨d1, d2⟩ := p4.done hf1 u1 u3 p3
        rw [e12b, e12, e13b] at d2
        rw [e12b, e12, e4b, e4] at d1
        have hI2 : FlI M0 M2 := ⟨fun b h1 h2 h3 => by rw [p2 b h1, hI1.1 b h1 h2 h3], d1⟩
        obtain ⟨M', g1, g2⟩ := ih (j + 1) n M2 1 (by omega) (by omega) hI2 (Or.inl ⟨rfl, by rw [d2]; omega⟩)
        refine ⟨M', ?_, g2⟩
        rw [fX0_fillField_L25]
        refine w_gdR (by omega) (by omega) (w_f (by omega) (w_gdR (by omega) (by omega) (w_f (by omega) (w_bind s1 (w_bind (t := (u : Int)) ?_ (w_gdR (by omega) (by omega) (w_bind (w_f (by omega) rfl) (w_gdR (by omega) (by omega) (w_bind (t := M2) (w_f (by decide) (w_bind (t := a) ?_ (w_bind (t := M2) ?_ rfl))) ?_)))))))))
        · unfold fX0_nearestOutside
          exact w_bind u4 rfl
        · unfold fX0_mostAlong
          exact w_bind m1 rfl
        · unfold fX0_push
          exact w_bind p1 rfl
        · rw [show (j : Int) + 1 = ((j + 1 : Nat) : Int) by omega]
          exact g1
      · have hmx : MxF (M0 12) (M0 4) (M1 13) := by
          have hnone : ∀ v, v < 36 → M0 12 v = 2 → ¬ sn14 M1 v = 1 := fun v hv q z => by
            obtain ⟨i, i1, i2⟩ := s2.2.2.1 v hv (sn14_1.mp z)
            have := u1 i i1 v i2
            rw [e12b, e12] at this
            exact this q
          rw [e12, e4, ← e13b] at s3
          refine ⟨hI1.2, sn14 M1, fun v hv => ⟨?_, fun q => s3.1 v hv q, fun q => ?_⟩, ?_⟩
          · unfold sn14; split <;> omega
          · have := hnone v hv q
            unfold sn14 at this ⊢
            split <;> simp_all
          · refine val_of hpn hI1.2 (fun v hv => ⟨?_, fun q => s3.1 v hv q, fun q => ?_⟩) (Or.inl s3.2.1)
            · unfold sn14; split <;> omega
            · have := hnone v hv q
              unfold sn14 at this ⊢
              split <;> simp_all
        obtain ⟨M', g1, g2⟩ := ih (j + 1) n M1 0 (by omega) (by omega) hI1 (Or.inr ⟨rfl, hmx⟩)
        refine ⟨M', ?_, g2⟩
        rw [fX0_fillField_L25]
        refine w_gdR (by omega) (by omega) (w_f (by omega) (w_gdR (by omega) (by omega) (w_f (by omega) (w_bind s1 (w_bind (t := -1) ?_ (w_gdR (by omega) (by omega) (w_bind (w_t rfl rfl) (w_gdR (by omega) (by omega) (w_bind (w_t rfl rfl) ?_)))))))))
        · unfold fX0_nearestOutside
          exact w_bind u2 rfl
        · rw [show (j : Int) + 1 = ((j + 1 : Nat) : Int) by omega]
          exact g1
    · refine ⟨M, ?_, hI, x3⟩
      rw [fX0_fillField_L25]
      exact w_gdR (by omega) (by omega) (w_f (by omega) (w_gdR (by omega) (by omega) (w_t x1 rfl)))
theorem fiZ_L {M0 : Mem} : ∀ (m e n : Nat) (M : Mem), e + m = 60 → m < n → (∀ a, a ≠ 13 → M a = M0 a) → (∀ i, i < e → M 13 i = 0) →
    ∃ M', fX0_fillField_L2 n M (e : Int) = some M' ∧ (∀ a, a ≠ 13 → M' a = M0 a) ∧ ∀ i, i < 60 → M' 13 i = 0 := by
  intro m
  induction m with
  | zero =>
    intro e n M h hn ha hz
    obtain ⟨n, rfl⟩ : ∃ k, n = k + 1 := ⟨n - 1, by omega⟩
    refine ⟨M, ?_, ha, fun i hi => hz i (by omega)⟩
    rw [fX0_fillField_L2]
    exact w_gdR (by omega) (by omega) (w_t (by omega) rfl)
  | succ m ih =>
    intro e n M h hn ha hz
    obtain ⟨n, rfl⟩ : ∃ k, n = k + 1 := ⟨n - 1, by omega⟩
    obtain ⟨M', g1, g2⟩ := ih (e + 1) n (wr M 13 e 0) (by omega) (by omega) (fun a h1 => (wr_row M _ h1).trans (ha a h1)) (fun i hi => by
      rw [wr_put]
      by_cases q : i = e
      · rw [q, put_at]
      · rw [put_ne q]; exact hz i (by omega))
    refine ⟨M', ?_, g2⟩
    rw [fX0_fillField_L2]
    refine w_gdR (by omega) (by omega) (w_f (by omega) (w_gdB (by omega) (by omega) ?_))
    rw [show (e : Int) + 1 = ((e + 1 : Nat) : Int) by omega, Int.toNat_natCast]
    exact g1
theorem fld0 {pn c f : Nat → Int} (hc : ∀ e, e < 60 → 1 ≤ c e ∧ c e ≤ 59) (h : ∀ e, e < 60 → f e = 0) : Fld pn c f ∧ vaF pn f = 0 := by
  have o : ∀ v, outF f v = 0 := fun v => ss_zero 60 0 (fun e _ he => by
    have := h e (by omega)
    rw [this]
    split
    · rfl
    · split
      · rfl
      · rfl)
  refine ⟨⟨fun e he => by rw [h e he]; have := hc e he; omega, fun v _ _ => o v⟩, ss_zero 36 0 (fun v _ _ => ?_)⟩
  rw [o v, Int.mul_zero]
theorem fiC {M0 : Mem} (hg : GR M0) (hpn : pinR (M0 12)) : ∃ M', fX0_fillField M0 = some M' ∧ FlI M0 M' ∧ MxF (M0 12) (M0 4) (M' 13) := by
  have hc : ∀ e, e < 60 → 1 ≤ M0 4 e ∧ M0 4 e ≤ 59 := fun e he => (hg.1 e he).2.2
  obtain ⟨M1, z1, z2, z3⟩ := fiZ_L (M0 := M0) 60 0 FU M0 (by omega) (by have := FU_big; omega) (fun _ _ => rfl) (fun i hi => absurd hi (by omega))
  obtain ⟨f1, f2⟩ := fld0 (pn := M0 12) hc z3
  obtain ⟨M', g1, g2⟩ := fiC_L hg hpn 3600 0 FU M1 1 (by omega) (by have := FU_big; omega) ⟨fun a h1 _ _ => z2 a h1, f1⟩ (Or.inl ⟨rfl, by rw [f2]; omega⟩)
  refine ⟨M', ?_, g2⟩
  unfold fX0_fillField
  exact w_bind z1 (w_bind g1 rfl)
theorem pvC_L {M : Mem} (hg : GR M) (hpn : pinR (M 12)) : ∀ (m e n : Nat) (s : Int), e + m = 60 → m < n → fX0_proved_L9 n M s (e : Int) = some (s + ss (fun e => M 13 e * ((if M 12 (lo e) = 1 then 1 else 0) - (if M 12 (hi e) = 1 then 1 else 0))) e m) := by
  intro m
  induction m with
  | zero =>
    intro e n s h hn
    obtain ⟨n, rfl⟩ : ∃ k, n = k + 1 := ⟨n - 1, by omega⟩
    rw [fX0_proved_L9, ss, Int.add_zero]
    exact w_gdR (by omega) (by omega) (w_t (by omega) rfl)
  | succ m ih =>
    intro e n s h hn
    obtain ⟨n, rfl⟩ : ∃ k, n = k + 1 := ⟨n - 1, by omega⟩
    have he : e < 60 := by omega
    have hl := lo_lt he
    have hh := hi_lt he
    have p1 := hpn _ hl
    have p2 := hpn _ hh
    rw [fX0_proved_L9]
    refine w_gdR (by omega) (by omega) (w_f (by omega) (w_bind (gr_low hg he) (w_gdB (by omega) (by omega) ?_)))
    rw [Int.toNat_natCast, Int.toNat_natCast]
    refine w_gdR (by omega) (by omega) (w_bind (t := s + (if M 12 (lo e) = 1 then M 13 e else 0)) ?_ (w_bind (gr_high hg he) (w_gdB (by omega) (by omega) ?_)))
    · by_cases q : M 12 (lo e) = 1
      · exact Eq.trans (w_t q (w_gdB (by omega) (by omega) rfl)) (congrArg some (by rw [if_pos q]))
      · exact Eq.trans (w_f q rfl) (congrArg some (by rw [if_neg q, Int.add_zero]))
    · rw [Int.toNat_natCast]
      refine w_gdR (by omega) (by omega) (w_bind (t := s + M 13 e * ((if M 12 (lo e) = 1 then 1 else 0) - (if M 12 (hi e) = 1 then 1 else 0))) ?_ ?_)
      · by_cases q : M 12 (lo e) = 1
        · by_cases q2 : M 12 (hi e) = 1
          · rw [if_pos q, if_pos q]; exact Eq.trans (w_t q2 (w_gdB (by omega) (by omega) rfl)) (congrArg some (by rw [if_pos q2]; omega))
          · rw [if_pos q, if_pos q]; exact Eq.trans (w_f q2 rfl) (congrArg some (by rw [if_neg q2]; omega))
        · by_cases q2 : M 12 (hi e) = 1
          · rw [if_neg q, if_neg q]; exact Eq.trans (w_t q2 (w_gdB (by omega) (by omega) rfl)) (congrArg some (by rw [if_pos q2]; omega))
          · rw [if_neg q, if_neg q]; exact Eq.trans (w_f q2 rfl) (congrArg some (by rw [if_neg q2]; omega))
      · rw [show (e : Int) + 1 = ((e + 1 : Nat) : Int) by omega, ih (e + 1) n _ (by omega) (by omega), ss, Int.add_assoc]
theorem pvC {M0 : Mem} (hg : GR M0) (hpn : pinR (M0 12)) : ∃ (f : Nat → Int) (M' : Mem), fX0_proved M0 = some (vaF (M0 12) f, M') ∧ FlI M0 M' ∧ MxF (M0 12) (M0 4) f := by
  obtain ⟨M', g1, g2, g3⟩ := fiC hg hpn
  have e12 : M' 12 = M0 12 := g2.1 12 (by decide) (by decide) (by decide)
  have h := pvC_L (g2.gr hg) (by rw [e12]; exact hpn) 60 0 FU 0 (by omega) (by have := FU_big; omega)
  rw [Int.zero_add, e12] at h
  refine ⟨M' 13, M', ?_, g2, g3⟩
  unfold fX0_proved
  refine w_bind g1 (w_bind h ?_)
  unfold vaF
  rw [dsum (fun v => if M0 12 v = 1 then 1 else 0)]
