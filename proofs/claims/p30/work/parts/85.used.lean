/-! is an edge in some least net? -/
theorem Cn_in {F : Nat → Prop} {u v : Nat} (h : Cn F u v) : Cn (fun x => F x ∧ Cn F u (lo x)) u v := fun J hJ hu => (h (fun x => J x ∧ Cn F u x) (fun x hx hFx => by
  have s := Cn.step (u := u) hx hFx
  constructor
  · rintro ⟨a, b⟩; exact ⟨(hJ x hx ⟨hFx, b⟩).mp a, s.mp b⟩
  · rintro ⟨a, b⟩; exact ⟨(hJ x hx ⟨hFx, s.mpr b⟩).mpr a, s.mpr b⟩) ⟨hu, Cn.refl _ _⟩).1
theorem Cn_split {F : Nat → Prop} {e u : Nat} (h : Cn F (lo e) u) : Cn (fun x => F x ∧ x ≠ e) (lo e) u ∨ Cn (fun x => F x ∧ x ≠ e) (hi e) u := h (fun x => Cn (fun x => F x ∧ x ≠ e) (lo e) x ∨ Cn (fun x => F x ∧ x ≠ e) (hi e) x) (fun x hx hFx => by
  by_cases c : x = e
  · rw [c]; exact ⟨fun _ => Or.inr (Cn.refl _ _), fun _ => Or.inl (Cn.refl _ _)⟩
  · exact or_congr (Cn.step (F := fun x => F x ∧ x ≠ e) hx ⟨hFx, c⟩) (Cn.step (F := fun x => F x ∧ x ≠ e) hx ⟨hFx, c⟩)) (Or.inl (Cn.refl _ _))
/-- some least net has the edge -/
def Used (p : Nat → Int) (k : Nat) (tw : Nat → Nat) (L : Int) (e : Nat) : Prop := ∃ F : Nat → Prop, F e ∧ Conn F k tw (2 ^ k - 1) (tw 0) ∧ eC p F ≤ L
theorem used_near {p : Nat → Int} (hp : ∀ e, e < 60 → 1 ≤ p e) {k : Nat} {tw : Nat → Nat} {L : Int} (hL : ∀ F : Nat → Prop, Conn F k tw (2 ^ k - 1) (tw 0) → L ≤ eC p F) {e : Nat} (he : e < 60) {F : Nat → Prop} (hFe : F e) (hC : Conn F k tw (2 ^ k - 1) (tw 0)) (hc : eC p F ≤ L) : Cn F (tw 0) (lo e) := by
  refine Classical.byContradiction fun h => ?_
  have d := eC_del (p := p) he hFe
  have := hL (fun x => F x ∧ x ≠ e) (fun i hi q J hJ h0 => (hC i hi q (fun x => J x ∧ Cn F (tw 0) x) (fun x hx hFx => by
    have s := Cn.step (u := tw 0) hx hFx
    by_cases c : x = e
    · rw [c] at s ⊢
      exact ⟨fun z => absurd z.2 h, fun z => absurd (s.mpr z.2) h⟩
    · constructor
      · rintro ⟨a, b⟩; exact ⟨(hJ x hx ⟨hFx, c⟩).mp a, s.mp b⟩
      · rintro ⟨a, b⟩; exact ⟨(hJ x hx ⟨hFx, c⟩).mpr a, s.mpr b⟩) ⟨h0, Cn.refl _ _⟩).1)
  have := hp e he
  omega
theorem used_ge {p : Nat → Int} (hp : PR p) {k : Nat} (hk : k ≤ 6) (h2k : 2 ≤ k) {tw : Nat → Nat} (htw : ∀ i, i < k → tw i < 36) {T : Nat → Nat → Int} (h : STt p k tw T) {e : Nat} (he : e < 60) {P : Nat} (p1 : 0 < P) (p2 : P < 2 ^ k - 1) : ∃ F : Nat → Prop, F e ∧ Conn F k tw (2 ^ k - 1) (tw 0) ∧ eC p F ≤ T P (lo e) + T (2 ^ k - 1 - P) (hi e) + p e := by
  have hnn : pNN p := fun e he => (hp e he).1
  have p7 := (pow7 k (by omega)).1
  have pS : P &&& (2 ^ k - 1) = P := by
    refine Nat.eq_of_testBit_eq fun i => ?_
    rw [Nat.testBit_and, Nat.testBit_two_pow_sub_one]
    by_cases c : i < k
    · simp [c]
    · have : P.testBit i = false := Nat.testBit_lt_two_pow (Nat.lt_of_lt_of_le (show P < 2 ^ k by omega) (Nat.pow_le_pow_right (by decide) (by omega)))
      simp [c, this]
  obtain ⟨F1, a1, a2⟩ := netUp hnn (by omega) htw h p1 (by omega) (lo_lt he)
  obtain ⟨F2, b1, b2⟩ := netUp hnn (by omega) htw h (S := 2 ^ k - 1 - P) (by omega) (by omega) (hi_lt he)
  have c1 := eC_or hnn (fun x => F1 x ∨ F2 x) (fun x => x = e)
  have c2 := eC_or hnn F1 F2
  rw [eC_one he] at c1
  have join : ∀ i, i < k → Cn (fun x => (F1 x ∨ F2 x) ∨ x = e) (lo e) (tw i) := fun i hi => by
    by_cases q : P.testBit i = true
    · exact (a1 i hi q).mono (fun x _ y => Or.inl (Or.inl y))
    · refine (Cn.edge (F := fun x => (F1 x ∨ F2 x) ∨ x = e) he (Or.inr rfl)).trans ((b1 i hi ?_).mono (fun x _ y => Or.inl (Or.inr y)))
      rw [pa6 _ (by omega) P (by omega) pS i (by omega), allB.mpr hi]
      simpa using q
  refine ⟨fun x => (F1 x ∨ F2 x) ∨ x = e, Or.inr rfl, fun i hi _ => (join 0 (by omega)).symm.trans (join i hi), by omega⟩
theorem used_part {p : Nat → Int} (hp : PR p) (hp1 : ∀ e, e < 60 → 1 ≤ p e) {k : Nat} (hk : k ≤ 6) (h2k : 2 ≤ k) {tw : Nat → Nat} (htw : ∀ i, i < k → tw i < 36) {T : Nat → Nat → Int} (h : STt p k tw T) {e : Nat} (he : e < 60) : Used p k tw (T (2 ^ k - 1) (tw 0)) e ↔ ∃ P : Nat, 0 < P ∧ P < 2 ^ k - 1 ∧ T P (lo e) + T (2 ^ k - 1 - P) (hi e) + p e = T (2 ^ k - 1) (tw 0) := by
  have hnn : pNN p := fun e he => (hp e he).1
  have q1 := pow_mono (i := 0) (k := k) (by omega)
  rw [Nat.pow_zero] at q1
  have p7 := (pow7 k (by omega)).1
  have hL : ∀ F : Nat → Prop, Conn F k tw (2 ^ k - 1) (tw 0) → T (2 ^ k - 1) (tw 0) ≤ eC p F := fun F hF => netLow' hnn (by omega) h.1 (by omega) (by omega) (htw 0 (by omega)) hF
  constructor
  · rintro ⟨F, f1, f2, f3⟩
    have d := eC_del (p := p) he f1
    have pe := hp1 e he
    have near := used_near hp1 hL he f1 f2 f3
    have split : ∀ i, i < k → Cn (fun x => F x ∧ x ≠ e) (lo e) (tw i) ∨ Cn (fun x => F x ∧ x ≠ e) (hi e) (tw i) := fun i hi => Cn_split (near.symm.trans (f2 i hi (allB.mpr hi)))
    obtain ⟨P, m1, m2⟩ := mask_ex (fun i => Cn (fun x => F x ∧ x ≠ e) (lo e) (tw i)) k
    have no : ∀ u, (∀ i, i < k → Cn (fun x => F x ∧ x ≠ e) u (tw i)) → False := fun u hu => by
      have := hL (fun x => F x ∧ x ≠ e) (fun i hi _ => (hu 0 (by omega)).symm.trans (hu i hi))
      omega
    have n0 : P ≠ 0 := fun z => no (hi e) (fun i hi0 => (split i hi0).resolve_left (fun y => by
      have := (m2 i).mpr ⟨hi0, y⟩
      rw [z, Nat.zero_testBit] at this
      exact absurd this (by decide)))
    have nA : P ≠ 2 ^ k - 1 := fun z => no (lo e) (fun i hi0 => ((m2 i).mp (by rw [z]; exact allB.mpr hi0)).2)
    have dis : ¬ Cn (fun x => F x ∧ x ≠ e) (lo e) (hi e) := fun z => no (lo e) (fun i hi0 => (split i hi0).elim id (fun y => z.trans y))
    have pS : P &&& (2 ^ k - 1) = P := sub_and (fun i q => allB.mpr ((m2 i).mp q).1)
    have ple : P ≤ 2 ^ k - 1 := by rw [← pS]; exact Nat.and_le_right
    have sum := eC_two hnn (F := fun x => F x ∧ x ≠ e) (F1 := fun x => (F x ∧ x ≠ e) ∧ Cn (fun x => F x ∧ x ≠ e) (lo e) (lo x)) (F2 := fun x => (F x ∧ x ≠ e) ∧ Cn (fun x => F x ∧ x ≠ e) (hi e) (lo x)) (fun x _ q => q.1) (fun x _ q => q.1) (fun x _ a b => dis (a.2.trans b.2.symm))
    have a := netLow' hnn (by omega) h.1 (S := P) (v := lo e) (by omega) m1 (lo_lt he) (F := fun x => (F x ∧ x ≠ e) ∧ Cn (fun x => F x ∧ x ≠ e) (lo e) (lo x)) (fun i hi0 q => Cn_in ((m2 i).mp q).2)
    have b := netLow' hnn (by omega) h.1 (S := 2 ^ k - 1 - P) (v := hi e) (by omega) (by omega) (hi_lt he) (F := fun x => (F x ∧ x ≠ e) ∧ Cn (fun x => F x ∧ x ≠ e) (hi e) (lo x)) (fun i hi0 q => Cn_in ((split i hi0).resolve_left (fun y => by
      have := (m2 i).mpr ⟨hi0, y⟩
      rw [pa6 _ (by omega) P (by omega) pS i (by omega), this] at q
      simp at q)))
    obtain ⟨G, g1, g2, g3⟩ := used_ge hp hk h2k htw h he (P := P) (by omega) (by omega)
    have := hL G g2
    exact ⟨P, by omega, by omega, by omega⟩
  · rintro ⟨P, r1, r2, r3⟩
    obtain ⟨G, g1, g2, g3⟩ := used_ge hp hk h2k htw h he r1 r2
    exact ⟨G, g1, g2, by omega⟩
/-- the same, told by a table where the edge is free and its node a town more -/
theorem used_free {p p0 : Nat → Int} (hp : PR p) (hp1 : ∀ e, e < 60 → 1 ≤ p e) {k : Nat} (hk : k ≤ 6) (h2k : 2 ≤ k) {tw tw2 : Nat → Nat} (htw : ∀ i, i < k → tw i < 36) {T T2 : Nat → Nat → Int} (h : STt p k tw T) {e : Nat} (he : e < 60) (hp0 : ∀ x, x < 60 → p0 x = if x = e then 0 else p x) (ht2 : ∀ i, i < k → tw2 i = tw i) (htk : tw2 k = lo e) (h2 : STt p0 (k + 1) tw2 T2) : Used p k tw (T (2 ^ k - 1) (tw 0)) e ↔ T2 (2 ^ (k + 1) - 1) (tw 0) + p e = T (2 ^ k - 1) (tw 0) := by
  have hnn : pNN p := fun e he => (hp e he).1
  have hn0 : pNN p0 := fun x hx => by
    rw [hp0 x hx]
    have := (hp x hx).1
    split <;> omega
  have q1 := pow_mono (i := 0) (k := k) (by omega)
  rw [Nat.pow_zero] at q1
  have q2 := pow_mono (i := k) (k := k + 1) (by omega)
  have p7 := (pow7 k (by omega)).1
  have tw36 : ∀ i, i < k + 1 → tw2 i < 36 := fun i hi => by
    by_cases c : i = k
    · rw [c, htk]; exact lo_lt he
    · rw [ht2 i (by omega)]; exact htw i (by omega)
  have hL : ∀ F : Nat → Prop, Conn F k tw (2 ^ k - 1) (tw 0) → T (2 ^ k - 1) (tw 0) ≤ eC p F := fun F hF => netLow' hnn (by omega) h.1 (by omega) (by omega) (htw 0 (by omega)) hF
  obtain ⟨F, f1, f2⟩ := netUp hn0 (by omega) tw36 h2 (S := 2 ^ (k + 1) - 1) (by omega) (by omega) (htw 0 (by omega))
  have up : eC p (fun x => F x ∨ x = e) ≤ eC p0 F + p e := by
    rw [← eC_one (p := p) he]
    unfold eC
    rw [← ss_add]
    refine ss_le 60 0 (fun x _ hx => ?_)
    have hx : x < 60 := by omega
    have a := hnn x hx
    have b := eT_nn (F := F) (hn0 x hx)
    show eT p (fun x => F x ∨ x = e) x ≤ eT p0 F x + eT p (fun x => x = e) x
    by_cases c : x = e
    · rw [eT_t (F := fun x => F x ∨ x = e) (Or.inr c), eT_t (F := fun x => x = e) c]; omega
    · rw [eT_f (F := fun x => x = e) c]
      by_cases g : F x
      · rw [eT_t (F := fun x => F x ∨ x = e) (Or.inl g), eT_t g, hp0 x hx, if_neg c]; omega
      · rw [eT_f (F := fun x => F x ∨ x = e) (fun z => z.elim g c)]; omega
  have cG : Conn (fun x => F x ∨ x = e) k tw (2 ^ k - 1) (tw 0) := fun i hi _ => by
    have := f1 i (by omega) (allB.mpr (by omega))
    rw [ht2 i hi] at this
    exact this.mono (fun x _ y => Or.inl y)
  have low := hL _ cG
  constructor
  · rintro ⟨G, g1, g2, g3⟩
    have near := used_near hp1 hL he g1 g2 g3
    have a := netLow' hn0 (by omega) h2.1 (S := 2 ^ (k + 1) - 1) (by omega) (by omega) (htw 0 (by omega)) (F := G) (fun i hi _ => by
      by_cases c : i = k
      · rw [c, htk]; exact near
      · rw [ht2 i (by omega)]; exact g2 i (by omega) (allB.mpr (by omega)))
    have e0 : eC p0 G = eC p (fun x => G x ∧ x ≠ e) := by
      unfold eC
      refine ss_congr 60 0 (fun x _ hx => ?_)
      have hx : x < 60 := by omega
      by_cases c : G x
      · rw [eT_t c, hp0 x hx]
        by_cases d : x = e
        · rw [if_pos d, eT_f (F := fun x => G x ∧ x ≠ e) (fun z => z.2 d)]
        · rw [if_neg d, eT_t (F := fun x => G x ∧ x ≠ e) ⟨c, d⟩]
      · rw [eT_f c, eT_f (F := fun x => G x ∧ x ≠ e) (fun z => c z.1)]
    have d := eC_del (p := p) he g1
    omega
  · intro q
    exact ⟨fun x => F x ∨ x = e, Or.inr rfl, cG, by omega⟩
theorem iu55 {M : Mem} (hg : GR M) {e : Nat} (he : e < 60) {k : Nat} (hk : k ≤ 6) {L : Int} (hL : inR L) (hb : ∀ S, 0 < S → S < 2 ^ k → ∀ v, v < 36 → 0 ≤ M 8 (36 * S + v) ∧ M 8 (36 * S + v) ≤ 1000000) : ∀ (m q n : Nat), q + m = 2 ^ k - 1 → m < n → 0 < q → (∀ P, 0 < P → P < q → M 8 (36 * P + lo e) + M 8 (36 * (2 ^ k - 1 - P) + hi e) + M 4 e ≠ L) →
    ((∃ P : Nat, 0 < P ∧ P < 2 ^ k - 1 ∧ M 8 (36 * P + lo e) + M 8 (36 * (2 ^ k - 1 - P) + hi e) + M 4 e = L) ∧ fX3_isInCheapest_L55 n M (e : Int) (((2 ^ k : Nat) : Int) - 1) L (lo e : Int) (hi e : Int) (q : Int) = some (.inl (1, M))) ∨ ((¬ ∃ P : Nat, 0 < P ∧ P < 2 ^ k - 1 ∧ M 8 (36 * P + lo e) + M 8 (36 * (2 ^ k - 1 - P) + hi e) + M 4 e = L) ∧ fX3_isInCheapest_L55 n M (e : Int) (((2 ^ k : Nat) : Int) - 1) L (lo e : Int) (hi e : Int) (q : Int) = some (.inr ())) := by
  have p6 : 2 ^ k ≤ 2 ^ 6 := Nat.pow_le_pow_right (by decide) hk
  have e64 : (2 : Nat) ^ 6 = 64 := by decide
  have hl := lo_lt he
  have hh := hi_lt he
  have pr := (hg.1 e he).2.2
  have p1 := Nat.one_le_two_pow (n := k)
  obtain ⟨A, hA⟩ : ∃ A : Nat, A = 2 ^ k - 1 := ⟨_, rfl⟩
  have eA : ((2 ^ k : Nat) : Int) - 1 = (A : Int) := by omega
  rw [eA, ← hA]
  intro m
  induction m with
  | zero =>
    intro q n h hn h0 hq
    obtain ⟨n, rfl⟩ : ∃ k, n = k + 1 := ⟨n - 1, by omega⟩
    refine Or.inr ⟨fun ⟨P, r1, r2, r3⟩ => hq P r1 (by omega) r3, ?_⟩
    rw [fX3_isInCheapest_L55]
    exact w_gdR (by omega) (by omega) (w_gdR (by omega) (by omega) (w_t (by omega) rfl))
  | succ m ih =>
    intro q n h hn h0 hq
    obtain ⟨n, rfl⟩ : ∃ k, n = k + 1 := ⟨n - 1, by omega⟩
    have b1 := hb q h0 (by omega) _ hl
    have b2 := hb (A - q) (by omega) (by omega) _ hh
    have front : ∀ r : (Int × Mem) ⊕ Unit, (if M 8 (36 * q + lo e) + M 8 (36 * (A - q) + hi e) + M 4 e = L then some (.inl (1, M)) else fX3_isInCheapest_L55 n M (e : Int) (A : Int) L (lo e : Int) (hi e : Int) ((q : Int) + 1)) = some r → fX3_isInCheapest_L55 (n + 1) M (e : Int) (A : Int) L (lo e : Int) (hi e : Int) (q : Int) = some r := by
      intro r hr
      rw [fX3_isInCheapest_L55]
      refine w_gdR (by omega) (by omega) (w_gdR (by omega) (by omega) (w_f (by omega) (w_gdB (by omega) (by omega) (w_gdB (by omega) (by omega) (w_bind (gr_price he) ?_)))))
      rw [show ((q : Int) * 36 + (lo e : Int)).toNat = 36 * q + lo e by omega, show (((A : Int) - (q : Int)) * 36 + (hi e : Int)).toNat = 36 * (A - q) + hi e by omega]
      exact w_gdR (by omega) (by omega) (w_gd hL hr)
    by_cases c : M 8 (36 * q + lo e) + M 8 (36 * (A - q) + hi e) + M 4 e = L
    · exact Or.inl ⟨⟨q, h0, by omega, by rw [← hA] at *; exact c⟩, front _ (w_t c rfl)⟩
    · have r := ih (q + 1) n (by omega) (by omega) (by omega) (fun P r1 r2 => by
        by_cases d : P = q
        · rw [d]; exact c
        · exact hq P r1 (by omega))
      rw [show ((q + 1 : Nat) : Int) = (q : Int) + 1 by omega] at r
      rcases r with ⟨r1, r2⟩ | ⟨r1, r2⟩
      · exact Or.inl ⟨r1, front _ (w_f c r2)⟩
      · exact Or.inr ⟨r1, front _ (w_f c r2)⟩
theorem F_isUsed : Fc_isUsed Rl := by
  intro Mc Mm y0 hR hy
  by_cases c : 0 ≤ y0 ∧ y0 < 60
  · obtain ⟨e, rfl⟩ : ∃ e : Nat, y0 = e := ⟨y0.toNat, by omega⟩
    have he : e < 60 := by omega
    have h0 := hR.thr 0
    obtain ⟨w1, w2, w3, w4⟩ := hR.2.2.2.2.1
    obtain ⟨k, hk⟩ : ∃ k : Nat, Mc 102 0 = (k : Int) := ⟨(Mc 102 0).toNat, by omega⟩
    have e101 : wr Mm 100 0 0 101 0 = (k : Int) := by rw [← hk]; exact w1
    by_cases c2 : k < 2
    · refine ⟨(0, 0, Mc), (0, wr Mm 100 0 0), ?_, ?_, Or.inl rfl, rfl, fun _ => ⟨rfl, Or.inl rfl⟩, h0⟩
      · unfold fX5_isUsed
        refine w_bind (chE_y Mc he) (w_t rfl (w_bind (t := (0, Mc)) ?_ (w_gd (Or.inl rfl) rfl)))
        unfold fX3_isInCheapest
        exact w_gdR (by omega) (by omega) (w_f (by omega) rfl)
      · unfold fX6_isUsed
        refine w_bind (isEdge_y Mm he) (w_gd R1 (w_bind (t := 0) (w_f N1 rfl) (w_bind (ref0 Mm) (w_gd R0 (w_t rfl ?_)))))
        show gd (inR (wr Mm 100 0 0 101 0)) (if 2 ≤ wr Mm 100 0 0 101 0 then _ else _) = _
        rw [e101]
        exact w_gdR (by omega) (by omega) (w_f (by omega) rfl)
    · have htwM : ∀ i, i < k → 0 ≤ Mm 2 i ∧ Mm 2 i < 36 := fun i hi => by
        have := w3 i (by omega)
        rw [this.1]; exact this.2
      obtain ⟨r, M, a1, a2, a3, a4, a5⟩ := lnM (M0 := wr Mm 100 0 0) h0.2.1 hR.2.2.2.2.2.2.2.2.2.2.2 (by omega) e101 htwM
      obtain ⟨s1, s2⟩ := a5 (by omega)
      have hRM : Rl Mc M := h0.keep (fun _ _ => rfl) (fun a ha => a2 a (by intro q; subst q; revert ha; decide) (by intro q; subst q; revert ha; decide))
      obtain ⟨C, j1, j2, j3, j4⟩ := hRM.join
      have htw36 : ∀ i, i < k → (Mm 2 i).toNat < 36 := fun i hi => by have := htwM i hi; omega
      have e102 : C 102 0 = (k : Int) := by rw [j2 102 (by decide) (by decide)]; exact hk
      have e7 : ∀ i, i < k → C 7 i = Mm 2 i := fun i hi => by rw [j2 7 (by decide) (by decide)]; exact (w3 i (by omega)).1.symm
      unfold JT at j3
      rw [e102, Int.toNat_natCast] at j3
      have cC : ∀ x, x < 60 → C 4 x = coM Mm x := fun x hx => by rw [j2 4 (by decide) (by decide)]; exact (hR.2.2.2.1 x hx).2
      have hT : STt (coM Mm) k (fun i => (Mm 2 i).toNat) (fun S v => C 8 (36 * S + v)) := j3.congr cC (fun i hi => by rw [e7 i hi])
      have hP := hR.2.1.PR
      have hp1 : ∀ x, x < 60 → 1 ≤ coM Mm x := fun x hx => (coM_bd hR.2.1 hx).1
      have q1 := pow_mono (i := 0) (k := k) (by omega)
      rw [Nat.pow_zero] at q1
      have p6 : 2 ^ k ≤ 2 ^ 6 := Nat.pow_le_pow_right (by decide) (by omega)
      have e64 : (2 : Nat) ^ 6 = 64 := by decide
      have t0 := htwM 0 (by omega)
      have Leq : C 8 (36 * (2 ^ k - 1) + (Mm 2 0).toNat) = r := by
        have := STt_one hT s1 (2 ^ k - 1) (by omega) (by omega) (Mm 2 0).toNat (htw36 0 (by omega))
        rw [s2]; exact this
      have bd : ∀ S, 0 < S → S < 2 ^ k → ∀ v, v < 36 → 0 ≤ C 8 (36 * S + v) ∧ C 8 (36 * S + v) ≤ 1000000 := fun S x1 x2 v hv => by
        have z : 0 ≤ C 8 (36 * S + v) ∧ C 8 (36 * S + v) ≤ 590 * (S : Int) := hT.bd hP (by omega) htw36 S x1 x2 v hv
        omega
      have rb := bd (2 ^ k - 1) (by omega) (by omega) (Mm 2 0).toNat (htw36 0 (by omega))
      rw [Leq] at rb
      have part := used_part hP hp1 (by omega) (by omega) htw36 hT he
      -- the reference's second table
      have e101M : M 101 0 = (k : Int) := by rw [a2 101 (by decide) (by decide)]; exact e101
      obtain ⟨N, hN⟩ : ∃ N, N = wr (wr M 7 k (lo e : Int)) 104 0 (e : Int) := ⟨_, rfl⟩
      have n7 : N 7 = put (M 7) k (lo e : Int) := by rw [hN, wr_row _ _ (by decide), wr_put]
      have nr : ∀ a, a ≠ 7 → a ≠ 104 → N a = M a := fun a x1 x2 => by rw [hN, wr_row _ _ x2, wr_row _ _ x1]
      have n104 : N 104 0 = (e : Int) := by rw [hN]; exact wr_at _ _ _ _
      have hl := lo_lt he
      have hmN : MR N := by
        have := hRM.2.1
        unfold MR at this ⊢
        rw [nr 0 (by decide) (by decide), nr 1 (by decide) (by decide)]
        exact this
      have cN : coM N = coM Mm := by
        rw [coM_of (nr 0 (by decide) (by decide)) (nr 1 (by decide) (by decide)), coM_of (a2 0 (by decide) (by decide)) (a2 1 (by decide) (by decide))]
        rfl
      obtain ⟨M2, b1, b2, b3⟩ := loM (M0 := N) (k := k + 1) hmN (by rw [n104]; exact ⟨by omega, by omega⟩) (by omega) (by omega) (fun i hi => by
        rw [n7]
        by_cases z : i = k
        · rw [z, put_at]; omega
        · rw [put_ne z, a3 i (by omega)]; exact htwM i (by omega))
      have tw0 : (N 7 0).toNat = (Mm 2 0).toNat := by rw [n7, put_ne (by omega), a3 0 (by omega)]; rfl
      have free := used_free hP hp1 (by omega) (by omega) htw36 hT he (p0 := prF N) (fun x hx => by
        unfold prF
        rw [n104, cN]
        by_cases z : x = e
        · rw [if_pos z, if_pos (by omega)]
        · rw [if_neg z, if_neg (by omega)]) (tw2 := fun i => (N 7 i).toNat) (fun i hi => by
        show (N 7 i).toNat = (Mm 2 i).toNat
        rw [n7, put_ne (by omega), a3 i hi]
        rfl) (by
        show (N 7 k).toNat = lo e
        rw [n7, put_at, Int.toNat_natCast]) b3
      have free : Used (coM Mm) k (fun i => (Mm 2 i).toNat) (C 8 (36 * (2 ^ k - 1) + (Mm 2 0).toNat)) e ↔ M2 8 (36 * (2 ^ (k + 1) - 1) + (Mm 2 0).toNat) + coM Mm e = C 8 (36 * (2 ^ k - 1) + (Mm 2 0).toNat) := free
      have part : Used (coM Mm) k (fun i => (Mm 2 i).toNat) (C 8 (36 * (2 ^ k - 1) + (Mm 2 0).toNat)) e ↔ ∃ P : Nat, 0 < P ∧ P < 2 ^ k - 1 ∧ C 8 (36 * P + lo e) + C 8 (36 * (2 ^ k - 1 - P) + hi e) + coM Mm e = C 8 (36 * (2 ^ k - 1) + (Mm 2 0).toNat) := part
      rw [Leq] at free part
      have b3bd : 0 ≤ M2 8 (36 * (2 ^ (k + 1) - 1) + (Mm 2 0).toNat) ∧ M2 8 (36 * (2 ^ (k + 1) - 1) + (Mm 2 0).toNat) ≤ 590 * ((2 ^ (k + 1) - 1 : Nat) : Int) := by
        have q2 := pow_mono (i := k) (k := k + 1) (by omega)
        exact b3.bd (prF_PR hmN) (by omega) (fun i hi => by
          show (N 7 i).toNat < 36
          rw [n7]
          by_cases z : i = k
          · rw [z, put_at]; omega
          · rw [put_ne z, a3 i (by omega)]; have := htwM i (by omega); show (Mm 2 i).toNat < 36; omega) (2 ^ (k + 1) - 1) (by omega) (by omega) (Mm 2 0).toNat (htw36 0 (by omega))
      have p8 := (pow7 (k + 1) (by omega)).1
      have cb := coM_bd hR.2.1 he
      have hgC := j4.1
      have idx : ((((2 ^ k : Nat) : Int) - 1) * 36 + Mm 2 0).toNat = 36 * (2 ^ k - 1) + (Mm 2 0).toNat := by clear part free; omega
      have ek : (M 101 0).toNat = k := by rw [e101M]; exact Int.toNat_natCast k
      have rR : inR r := by clear part free; exact ⟨by omega, by omega⟩
      have loop := iu55 hgC he (k := k) (by clear part free; omega) (L := r) rR bd (2 ^ k - 1 - 1) 1 FU (by clear part free; omega) (by clear part free; have := FU_big; omega) (by clear part free; omega) (fun P x1 x2 => absurd x2 (by clear part free; omega))
      rw [cC e he] at loop
      have cls : ∀ x : Int, ((x = 1 ∧ ∃ P : Nat, 0 < P ∧ P < 2 ^ k - 1 ∧ C 8 (36 * P + lo e) + C 8 (36 * (2 ^ k - 1 - P) + hi e) + coM Mm e = r) ∨ (x = 0 ∧ ¬ ∃ P : Nat, 0 < P ∧ P < 2 ^ k - 1 ∧ C 8 (36 * P + lo e) + C 8 (36 * (2 ^ k - 1 - P) + hi e) + coM Mm e = r)) → fX3_isInCheapest Mc (e : Int) = some (x, C) := by
        intro x hx
        unfold fX3_isInCheapest
        refine w_gdR (by omega) (by omega) (w_t (by omega) (w_bind j1 (w_bind (allC (by omega) e102) ?_)))
        show gd (inB ((((2 ^ k : Nat) : Int) - 1) * 36 + C 7 0) 2304) _ = _
        rw [e7 0 (by omega)]
        refine w_gdB (by omega) (by omega) (w_bind (gr_low hgC he) (w_bind (gr_high hgC he) ?_))
        have ez : C 7 (0 : Int).toNat = Mm 2 0 := e7 0 (by omega)
        rw [ez, idx, Leq]
        rcases loop with ⟨l1, l2⟩ | ⟨l1, l2⟩
        · rcases hx with ⟨z1, _⟩ | ⟨_, z2⟩
          · rw [z1]
            exact w_bind l2 rfl
          · exact absurd l1 z2
        · rcases hx with ⟨_, z2⟩ | ⟨z1, _⟩
          · exact absurd z2 l1
          · rw [z1]
            exact w_bind l2 rfl
      have frame : ∀ a ∈ kpM, wr M2 104 0 (-1) a = wr Mm 100 0 0 a := fun a ha => by
        have n7' : a ≠ 7 := by intro q; subst q; revert ha; decide
        have n8' : a ≠ 8 := by intro q; subst q; revert ha; decide
        by_cases z : a = 104
        · rw [z]
          funext j
          have h104 : Mm 104 0 = -1 := hR.2.2.2.2.2.2.2.2.2.2.2
          by_cases zj : j = 0
          · rw [zj, wr_at]
            show (-1 : Int) = Mm 104 0
            rw [h104]
          · have e1 : wr M2 104 0 (-1) 104 j = M2 104 j := by unfold wr; exact if_neg (fun q => zj q.2)
            have e2 : N 104 j = M 104 j := by rw [hN]; unfold wr; rw [if_neg (fun q => zj q.2)]; exact if_neg (fun q => absurd q.1 (by decide))
            rw [e1, b2 104 (by decide), e2, a2 104 (by decide) (by decide)]
        · rw [wr_row _ _ z, b2 a n8', nr a n7' z, a2 a n7' n8']
      have hRl : Rl C (wr M2 104 0 (-1)) := j4.keep (fun _ _ => rfl) (fun a ha => by
        have n7' : a ≠ 7 := by intro q; subst q; revert ha; decide
        have n8' : a ≠ 8 := by intro q; subst q; revert ha; decide
        rw [frame a ha, a2 a n7' n8'])
      have mdl : ∀ x : Int, ((x = 1 ∧ M2 8 (36 * (2 ^ (k + 1) - 1) + (Mm 2 0).toNat) + coM Mm e = r) ∨ (x = 0 ∧ ¬ M2 8 (36 * (2 ^ (k + 1) - 1) + (Mm 2 0).toNat) + coM Mm e = r)) → fX6_isUsed Mm (e : Int) = some (x, wr M2 104 0 (-1)) := by
        intro x hx
        unfold fX6_isUsed
        refine w_bind (isEdge_y Mm he) (w_gd R1 (w_bind (t := 0) (w_f N1 rfl) (w_bind (ref0 Mm) (w_gd R0 (w_t rfl ?_)))))
        show gd (inR (wr Mm 100 0 0 101 0)) (if 2 ≤ wr Mm 100 0 0 101 0 then _ else _) = _
        rw [e101]
        refine w_gdR (by omega) (by omega) (w_t (by omega) (w_bind a1 (w_bind (m_first M he) ?_)))
        show gd (inB (M 101 0) 7) _ = _
        rw [e101M]
        refine w_gdB (by omega) (by omega) ?_
        show Option.bind (fX6_leastOf (wr (wr M 7 (M 101 0).toNat (lo e : Int)) 104 0 (e : Int)) (wr (wr M 7 (M 101 0).toNat (lo e : Int)) 104 0 (e : Int) 101 0 + 1)) _ = _
        rw [ek, ← hN, nr 101 (by decide) (by decide), e101M, show (k : Int) + 1 = ((k + 1 : Nat) : Int) by omega]
        have cM2 : coM M2 = coM Mm := by rw [coM_of (b2 0 (by decide)) (b2 1 (by decide)), cN]
        rw [tw0] at b1
        refine w_bind b1 (w_bind (m_cost M2 he) ?_)
        rw [cM2]
        refine w_gdR (by omega) (by omega) (w_gdR (by omega) (by omega) (w_bind (t := x) ?_ (w_gd ?_ rfl)))
        · rcases hx with ⟨z1, z2⟩ | ⟨z1, z2⟩
          · rw [z1]; exact w_t z2 rfl
          · rw [z1]; exact w_f z2 rfl
        · rcases hx with ⟨z1, _⟩ | ⟨z1, _⟩
          · exact Or.inr z1
          · exact Or.inl z1
      have th : wr M2 104 0 (-1) 100 0 = 0 := by
        rw [wr_row _ _ (by decide), b2 100 (by decide), nr 100 (by decide) (by decide), a2 100 (by decide) (by decide)]
        rfl
      by_cases u : Used (coM Mm) k (fun i => (Mm 2 i).toNat) r e
      · refine ⟨(0, 1, C), (1, wr M2 104 0 (-1)), ?_, mdl 1 (Or.inl ⟨rfl, free.mp u⟩), Or.inl rfl, th, fun _ => ⟨rfl, Or.inr rfl⟩, hRl⟩
        unfold fX5_isUsed
        exact w_bind (chE_y Mc he) (w_t rfl (w_bind (cls 1 (Or.inl ⟨rfl, part.mp u⟩)) (w_gd (Or.inr rfl) rfl)))
      · refine ⟨(0, 0, C), (0, wr M2 104 0 (-1)), ?_, mdl 0 (Or.inr ⟨rfl, fun z => u (free.mpr z)⟩), Or.inl rfl, th, fun _ => ⟨rfl, Or.inl rfl⟩, hRl⟩
        unfold fX5_isUsed
        exact w_bind (chE_y Mc he) (w_t rfl (w_bind (cls 0 (Or.inr ⟨rfl, fun z => u (part.mpr z)⟩)) (w_gd (Or.inl rfl) rfl)))
  · refine ⟨(1, 0, Mc), (0, wr Mm 100 0 1), ?_, ?_, Or.inr rfl, rfl, fun q => absurd (show (1 : Nat) = 0 from q) (by decide), hR.thr 1⟩
    · unfold fX5_isUsed
      exact w_bind (chE_n Mc hy (by omega)) (w_f N1n rfl)
    · unfold fX6_isUsed
      exact w_bind (isEdge_n Mm hy (by omega)) (w_gd R0 (w_bind (t := 1) (w_t rfl rfl) (w_bind (refk Mm (Or.inl rfl)) (w_gd R1 (w_f N1 rfl)))))
