/-! what holds between the class's memory and the reference's, from answer to answer -/
/-- a table of nets: k towns tw, for every set S of them (as bits) and every node what a net costs that joins S and the node -/
def STf (p : Nat → Int) (k : Nat) (tw : Nat → Nat) (g : Nat → Nat → Int) : Prop :=
  (∀ S, 0 < S → S < 2 ^ k → CLo p (g S)) ∧ (∀ i, i < k → g (2 ^ i) (tw i) ≤ 0) ∧ ∀ W, W < 2 ^ k → ∀ S, 0 < S → S < W → S &&& W = S → ∀ v, v < 36 → g W v ≤ g S v + g (W - S) v
def STt (p : Nat → Int) (k : Nat) (tw : Nat → Nat) (T : Nat → Nat → Int) : Prop :=
  STf p k tw T ∧ ∀ g, STf p k tw g → ∀ S, 0 < S → S < 2 ^ k → ∀ v, v < 36 → g S v ≤ T S v
theorem STt_one {p : Nat → Int} {k : Nat} {tw : Nat → Nat} {T U : Nat → Nat → Int} (h : STt p k tw T) (j : STt p k tw U) : ∀ S, 0 < S → S < 2 ^ k → ∀ v, v < 36 → T S v = U S v := fun S h1 h2 v hv =>
  Int.le_antisymm (j.2 T h.1 S h1 h2 v hv) (h.2 U j.1 S h1 h2 v hv)
def JT (M : Mem) : Prop := STt (M 4) (M 102 0).toNat (fun i => (M 7 i).toNat) (fun S v => M 8 (36 * S + v))
def TWr (Mc Mm : Mem) : Prop := Mm 101 0 = Mc 102 0 ∧ (0 ≤ Mc 102 0 ∧ Mc 102 0 ≤ 6) ∧ (∀ i : Nat, (i : Int) < Mc 102 0 → Mm 2 i = Mc 7 i ∧ 0 ≤ Mc 7 i ∧ Mc 7 i < 36) ∧ ∀ i j : Nat, (i : Int) < Mc 102 0 → (j : Int) < Mc 102 0 → Mc 7 i = Mc 7 j → i = j
def Rl (Mc Mm : Mem) : Prop := GR Mc ∧ MR Mm ∧ (Mc 100 0 = Mm 0 0 ∧ Mc 101 0 = Mm 0 1) ∧ (∀ e, e < 60 → Mc 3 e = Mm 1 e ∧ Mc 4 e = coM Mm e) ∧ TWr Mc Mm ∧ (Mc 103 0 = 0 ∨ (Mc 103 0 = 1 ∧ JT Mc)) ∧ (∀ v, v < 36 → Mc 12 v = Mm 3 v ∧ 0 ≤ Mm 3 v ∧ Mm 3 v ≤ 2) ∧ (∀ v, v < 36 → Mc 16 v = Mm 4 v ∧ 0 ≤ Mm 4 v ∧ Mm 4 v < 8) ∧ (∀ k, k < 8 → Mc 18 k = Mm 5 k ∧ (Mm 5 k = 0 ∨ Mm 5 k = 1)) ∧ Mc 104 0 = Mm 102 0 ∧ Mc 105 0 = Mm 103 0 ∧ Mm 104 0 = -1
def kpC : List Nat := [0, 1, 2, 3, 4, 7, 8, 12, 16, 18, 100, 101, 102, 103, 104, 105]
def kpM : List Nat := [0, 1, 2, 3, 4, 5, 101, 102, 103, 104]
theorem Rl.keep {Mc Mm Mc' Mm' : Mem} (h : Rl Mc Mm) (hc : ∀ a ∈ kpC, Mc' a = Mc a) (hm : ∀ a ∈ kpM, Mm' a = Mm a) : Rl Mc' Mm' := by
  have c := fun a ha => hc a ha
  have m := fun a ha => hm a ha
  have e : coM Mm' = coM Mm := by
    funext i
    unfold coM
    rw [m 0 (by decide), m 1 (by decide)]
  unfold Rl GR MR TWr JT at h ⊢
  rw [e, c 0 (by decide), c 1 (by decide), c 2 (by decide), c 3 (by decide), c 4 (by decide), c 7 (by decide), c 8 (by decide), c 12 (by decide), c 16 (by decide), c 18 (by decide), c 100 (by decide), c 101 (by decide), c 102 (by decide), c 103 (by decide), c 104 (by decide), c 105 (by decide), m 0 (by decide), m 1 (by decide), m 2 (by decide), m 3 (by decide), m 4 (by decide), m 5 (by decide), m 101 (by decide), m 102 (by decide), m 103 (by decide), m 104 (by decide)]
  exact h
theorem Rl.thr {Mc Mm : Mem} (h : Rl Mc Mm) (k : Int) : Rl Mc (wr Mm 100 0 k) := h.keep (fun _ _ => rfl) (fun a ha => wr_row Mm k (by intro q; subst q; revert ha; decide))
theorem in_yes (M : Mem) {x a b : Int} (hx : inR x) (ha : inR a) (hb : inR b) (h : a ≤ x ∧ x ≤ b) : fX6_in M x a b = some 1 := by
  unfold fX6_in
  exact w_gd hx (w_gd ha (w_bind (w_f (by omega) (w_gd hb (w_f (by omega) rfl))) (w_gd (Or.inr rfl) rfl)))
theorem in_no (M : Mem) {x a b : Int} (hx : inR x) (ha : inR a) (hb : inR b) (h : x < a ∨ b < x) : fX6_in M x a b = some 0 := by
  unfold fX6_in
  refine w_gd hx (w_gd ha (w_bind (t := 0) ?_ (w_gd (Or.inl rfl) rfl)))
  by_cases c : x < a
  · exact w_t c rfl
  · exact w_f c (w_gd hb (w_t (by omega) rfl))
theorem ref0 (M : Mem) : fX6_refused M 0 = some (0, wr M 100 0 0) := by
  unfold fX6_refused
  exact w_gd ⟨by decide, by decide⟩ (w_bind (w_t rfl rfl) (w_gd (Or.inl rfl) rfl))
theorem refk (M : Mem) {k : Int} (hk : k = 1 ∨ k = 2) : fX6_refused M k = some (1, wr M 100 0 k) := by
  unfold fX6_refused
  exact w_gd ⟨by omega, by omega⟩ (w_bind (w_f (by omega) rfl) (w_gd (Or.inr rfl) rfl))
theorem isNode_y (M : Mem) {v : Nat} (hv : v < 36) : fX6_isNode M (v : Int) = some 1 := by
  unfold fX6_isNode
  exact w_bind (in_yes M ⟨by omega, by omega⟩ ⟨by decide, by decide⟩ ⟨by decide, by decide⟩ ⟨by omega, by omega⟩) (w_gd (Or.inr rfl) rfl)
theorem isNode_n (M : Mem) {x : Int} (hx : inR x) (h : x < 0 ∨ 36 ≤ x) : fX6_isNode M x = some 0 := by
  unfold fX6_isNode
  exact w_bind (in_no M hx ⟨by decide, by decide⟩ ⟨by decide, by decide⟩ (by omega)) (w_gd (Or.inl rfl) rfl)
theorem isEdge_y (M : Mem) {v : Nat} (hv : v < 60) : fX6_isEdge M (v : Int) = some 1 := by
  unfold fX6_isEdge
  exact w_bind (in_yes M ⟨by omega, by omega⟩ ⟨by decide, by decide⟩ ⟨by decide, by decide⟩ ⟨by omega, by omega⟩) (w_gd (Or.inr rfl) rfl)
theorem isEdge_n (M : Mem) {x : Int} (hx : inR x) (h : x < 0 ∨ 60 ≤ x) : fX6_isEdge M x = some 0 := by
  unfold fX6_isEdge
  exact w_bind (in_no M hx ⟨by decide, by decide⟩ ⟨by decide, by decide⟩ (by omega)) (w_gd (Or.inl rfl) rfl)
theorem isBub_y (M : Mem) {v : Nat} (hv : v < 8) : fX6_isBubble M (v : Int) = some 1 := by
  unfold fX6_isBubble
  exact w_bind (in_yes M ⟨by omega, by omega⟩ ⟨by decide, by decide⟩ ⟨by decide, by decide⟩ ⟨by omega, by omega⟩) (w_gd (Or.inr rfl) rfl)
theorem isBub_n (M : Mem) {x : Int} (hx : inR x) (h : x < 0 ∨ 8 ≤ x) : fX6_isBubble M x = some 0 := by
  unfold fX6_isBubble
  exact w_bind (in_no M hx ⟨by decide, by decide⟩ ⟨by decide, by decide⟩ (by omega)) (w_gd (Or.inl rfl) rfl)
theorem chN_y (M : Mem) {v : Nat} (hv : v < 36) : fX5_checkNode M (v : Int) = some (0, 0, M) := by
  unfold fX5_checkNode
  exact w_gdR (by omega) (by omega) (w_f (by omega) (w_t (by omega) rfl))
theorem chN_n (M : Mem) {x : Int} (hx : inR x) (h : x < 0 ∨ 36 ≤ x) : fX5_checkNode M x = some (1, 0, M) := by
  unfold fX5_checkNode
  refine w_gd hx ?_
  by_cases c : x < 0
  · exact w_t c rfl
  · exact w_f c (w_f (by omega) rfl)
theorem chE_y (M : Mem) {v : Nat} (hv : v < 60) : fX5_checkEdge M (v : Int) = some (0, 0, M) := by
  unfold fX5_checkEdge
  exact w_gdR (by omega) (by omega) (w_f (by omega) (w_t (by omega) rfl))
theorem chE_n (M : Mem) {x : Int} (hx : inR x) (h : x < 0 ∨ 60 ≤ x) : fX5_checkEdge M x = some (1, 0, M) := by
  unfold fX5_checkEdge
  refine w_gd hx ?_
  by_cases c : x < 0
  · exact w_t c rfl
  · exact w_f c (w_f (by omega) rfl)
theorem R0 : inR 0 := ⟨by decide, by decide⟩
theorem R1 : inR 1 := ⟨by decide, by decide⟩
theorem N1 : ¬ (1 : Int) = 0 := by decide
theorem N1n : ¬ (1 : Nat) = 0 := by decide
theorem F_edge : Fc_edge Rl := by
  intro Mc Mm y0 hR hy
  by_cases c : 0 ≤ y0 ∧ y0 < 60
  · obtain ⟨e, rfl⟩ : ∃ e : Nat, y0 = e := ⟨y0.toNat, by omega⟩
    have he : e < 60 := by omega
    refine ⟨(0, Mc 4 e, Mc), (coM Mm e, wr Mm 100 0 0), ?_, ?_, Or.inl rfl, rfl, fun _ => (hR.2.2.2.1 e he).2, hR.thr 0⟩
    · unfold fX5_edge
      exact w_bind (chE_y Mc he) (w_t rfl (w_bind (gr_price he) rfl))
    · unfold fX6_edge
      exact w_bind (isEdge_y Mm he) (w_gd ⟨by decide, by decide⟩ (w_bind (t := 0) (w_f (by decide) rfl) (w_bind (ref0 Mm) (w_gd R0 (w_bind (t := coM Mm e) (w_t rfl (w_bind (m_cost _ he) rfl)) rfl)))))
  · refine ⟨(1, 0, Mc), (0, wr Mm 100 0 1), ?_, ?_, Or.inr rfl, rfl, fun q => absurd (show (1 : Nat) = 0 from q) (by decide), hR.thr 1⟩
    · unfold fX5_edge
      exact w_bind (chE_n Mc hy (by omega)) (w_f N1n rfl)
    · unfold fX6_edge
      exact w_bind (isEdge_n Mm hy (by omega)) (w_gd ⟨by decide, by decide⟩ (w_bind (t := 1) (w_t rfl rfl) (w_bind (refk Mm (Or.inl rfl)) (w_gd R1 (w_bind (t := 0) (w_f N1 rfl) rfl)))))
theorem F_bubbleAt : Fc_bubbleAt Rl := by
  intro Mc Mm y0 hR hy
  by_cases c : 0 ≤ y0 ∧ y0 < 36
  · obtain ⟨e, rfl⟩ : ∃ e : Nat, y0 = e := ⟨y0.toNat, by omega⟩
    have he : e < 36 := by omega
    refine ⟨(0, Mc 16 e, Mc), (Mm 4 e, wr Mm 100 0 0), ?_, ?_, Or.inl rfl, rfl, fun _ => (hR.2.2.2.2.2.2.2.1 e he).1, hR.thr 0⟩
    · unfold fX5_bubbleAt
      exact w_bind (chN_y Mc he) (w_t rfl (w_bind (t := Mc 16 e) (by unfold fX1_ownerOf; exact w_gdB (by omega) (by omega) (by rw [Int.toNat_natCast])) rfl))
    · unfold fX6_bubbleAt
      exact w_bind (isNode_y Mm he) (w_gd ⟨by decide, by decide⟩ (w_bind (t := 0) (w_f (by decide) rfl) (w_bind (ref0 Mm) (w_gd R0 (w_bind (t := Mm 4 e) (w_t rfl (w_gdB (by omega) (by omega) (by rw [Int.toNat_natCast]; rfl))) rfl)))))
  · refine ⟨(1, 0, Mc), (0, wr Mm 100 0 1), ?_, ?_, Or.inr rfl, rfl, fun q => absurd (show (1 : Nat) = 0 from q) (by decide), hR.thr 1⟩
    · unfold fX5_bubbleAt
      exact w_bind (chN_n Mc hy (by omega)) (w_f N1n rfl)
    · unfold fX6_bubbleAt
      exact w_bind (isNode_n Mm hy (by omega)) (w_gd ⟨by decide, by decide⟩ (w_bind (t := 1) (w_t rfl rfl) (w_bind (refk Mm (Or.inl rfl)) (w_gd R1 (w_bind (t := 0) (w_f N1 rfl) rfl)))))
theorem F_apart : Fc_apart Rl := by
  intro Mc Mm y0 y1 hR hy hz
  by_cases c : 0 ≤ y0 ∧ y0 < 36
  · obtain ⟨u, rfl⟩ : ∃ e : Nat, y0 = e := ⟨y0.toNat, by omega⟩
    have hu : u < 36 := by omega
    by_cases d : 0 ≤ y1 ∧ y1 < 36
    · obtain ⟨v, rfl⟩ : ∃ e : Nat, y1 = e := ⟨y1.toNat, by omega⟩
      have hv : v < 36 := by omega
      have hm := hR.2.1
      obtain ⟨t, hD, ht⟩ := Dst_ex hm.PR hu
      have hG := hD.gc hm.PR hu (B := 1000000) (by decide)
      have hG2 : GC (Mc 4) (stR u 1000000) t := by
        have e4 : ∀ e, e < 60 → Mc 4 e = coM Mm e := fun e he => (hR.2.2.2.1 e he).2
        refine ⟨fun e he => by rw [e4 e he]; exact hG.1 e he, hG.2.1, fun g h1 h2 => hG.2.2 g (fun e he => by rw [← e4 e he]; exact h1 e he) h2⟩
      obtain ⟨M1, a1, a2, a3⟩ := meaC (M := Mc) (tb := 5) (b := 0) ⟨⟨by decide, by decide⟩, by decide, by decide, by decide, by decide, by decide⟩ hR.1 hu hG2
      have hm0 : MR (wr Mm 100 0 0) := (hR.thr 0).2.1
      obtain ⟨M2, b1, b2, b3⟩ := farM hm0 hu (t := t) (by
        have e : coM (wr Mm 100 0 0) = coM Mm := rfl
        rw [e]; exact hD)
      refine ⟨(0, t v, M1), (t v, M2), ?_, ?_, Or.inl rfl, ?_, fun _ => rfl, ?_⟩
      · unfold fX5_apart
        refine w_bind (chN_y Mc hu) (w_t rfl (w_bind (chN_y Mc hv) (w_t rfl (w_bind (t := (t v, M1)) ?_ rfl))))
        unfold fX4_cheapest
        refine w_bind a1 (w_gdB (by omega) (by omega) ?_)
        have := a3 v hv
        unfold rowOf at this
        rw [Nat.zero_add] at this
        rw [Int.toNat_natCast, this]
      · unfold fX6_apart
        refine w_bind (isNode_y Mm hu) (w_gd ⟨by decide, by decide⟩ (w_bind (t := 0) (w_f (by decide) (w_bind (isNode_y Mm hv) (w_gd ⟨by decide, by decide⟩ (w_f (by decide) rfl)))) (w_bind (ref0 Mm) (w_gd R0 (w_bind (t := (t v, M2)) (w_t rfl (w_bind (t := (t v, M2)) ?_ rfl)) rfl)))))
        unfold fX6_apartFrom
        refine w_bind b1 (w_gdB (by omega) (by omega) ?_)
        rw [Int.toNat_natCast, b3 v hv]
      · show M2 100 0 = 0
        rw [b2.arr (by decide)]
        exact wr_at _ _ _ _
      · refine hR.keep (fun a ha => a2.arr (by intro q; subst q; revert ha; decide)) (fun a ha => ?_)
        have n6 : a ≠ 6 := by intro q; subst q; revert ha; decide
        exact (b2.arr n6).trans (wr_row Mm 0 (by intro q; subst q; revert ha; decide))
    · refine ⟨(1, 0, Mc), (0, wr Mm 100 0 1), ?_, ?_, Or.inr rfl, rfl, fun q => absurd (show (1 : Nat) = 0 from q) (by decide), hR.thr 1⟩
      · unfold fX5_apart
        exact w_bind (chN_y Mc hu) (w_t rfl (w_bind (chN_n Mc hz (by omega)) (w_f N1n rfl)))
      · unfold fX6_apart
        exact w_bind (isNode_y Mm hu) (w_gd ⟨by decide, by decide⟩ (w_bind (t := 1) (w_f (by decide) (w_bind (isNode_n Mm hz (by omega)) (w_gd ⟨by decide, by decide⟩ (w_t rfl rfl)))) (w_bind (refk Mm (Or.inl rfl)) (w_gd R1 (w_bind (t := (0, wr Mm 100 0 1)) (w_f N1 rfl) rfl)))))
  · refine ⟨(1, 0, Mc), (0, wr Mm 100 0 1), ?_, ?_, Or.inr rfl, rfl, fun q => absurd (show (1 : Nat) = 0 from q) (by decide), hR.thr 1⟩
    · unfold fX5_apart
      exact w_bind (chN_n Mc hy (by omega)) (w_f N1n rfl)
    · unfold fX6_apart
      exact w_bind (isNode_n Mm hy (by omega)) (w_gd ⟨by decide, by decide⟩ (w_bind (t := 1) (w_t rfl rfl) (w_bind (refk Mm (Or.inl rfl)) (w_gd R1 (w_bind (t := (0, wr Mm 100 0 1)) (w_f N1 rfl) rfl)))))
