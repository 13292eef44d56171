/-! tables of nets, row by row -/
theorem pa1 : ∀ W : Nat, W < 128 → ∀ S : Nat, S < W → S &&& W = S → (W - S) &&& W = W - S := by decide +kernel
theorem pa2 : ∀ i : Nat, i < 7 → ∀ S : Nat, S < 2 ^ i → S &&& 2 ^ i = S → S = 0 := by decide +kernel
theorem pa3 : ∀ W : Nat, W < 128 → 0 < W → (∃ i : Nat, i < 7 ∧ W = 2 ^ i) ∨ ∃ S : Nat, S < W ∧ 0 < S ∧ S &&& W = S := by decide +kernel
theorem pa4 : ∀ W : Nat, W < 64 → 0 < W → (pcn 8 W ≤ 1 ↔ ∃ i : Nat, i < 6 ∧ W = 2 ^ i) := by decide +kernel
theorem zshlP : ∀ i : Nat, i < 31 → zshl 1 (i : Int) = ((2 ^ i : Nat) : Int) := by decide +kernel
theorem pow7 : ∀ i : Nat, i < 8 → 2 ^ i ≤ 128 ∧ 1 ≤ 2 ^ i := by decide
theorem pow_mono {i k : Nat} (h : i < k) : 2 ^ i < 2 ^ k := Nat.pow_lt_pow_right (by decide) h
theorem pow_lt {i k : Nat} (h : 2 ^ i < 2 ^ k) : i < k := (Nat.pow_lt_pow_iff_right (by decide)).mp h
theorem pow_inj {i j : Nat} (h : 2 ^ i = 2 ^ j) : i = j := by
  rcases Nat.lt_trichotomy i j with q | q | q
  · have := pow_mono q; omega
  · exact q
  · have := pow_mono q; omega
theorem CLo_zero {p : Nat → Int} (hp : PR p) : CLo p (fun _ => (0 : Int)) := fun e he => by
  have := hp e he
  show (0 : Int) ≤ 0 + p e ∧ (0 : Int) ≤ 0 + p e
  omega
def STn (p : Nat → Int) (k : Nat) (tw : Nat → Nat) (n : Nat) (T : Nat → Nat → Int) : Prop :=
  (∀ S, 0 < S → S < n → CLo p (T S)) ∧ (∀ i, i < k → 2 ^ i < n → T (2 ^ i) (tw i) ≤ 0) ∧ (∀ W, W < n → ∀ S, 0 < S → S < W → S &&& W = S → ∀ v, v < 36 → T W v ≤ T S v + T (W - S) v) ∧ (∀ S, 0 < S → S < n → ∀ v, v < 36 → 0 ≤ T S v ∧ T S v ≤ 590 * (S : Int)) ∧ ∀ g, STf p k tw g → ∀ S, 0 < S → S < n → ∀ v, v < 36 → g S v ≤ T S v
def MinF (T : Nat → Nat → Int) (W : Nat) (f : Nat → Int) : Prop := (∀ S, 0 < S → S < W → S &&& W = S → ∀ v, v < 36 → f v ≤ T S v + T (W - S) v) ∧ ∀ v, v < 36 → ∀ x, x ≤ 1000000 → (∀ S, 0 < S → S < W → S &&& W = S → x ≤ T S v + T (W - S) v) → x ≤ f v
theorem STn.start (p : Nat → Int) (k : Nat) (tw : Nat → Nat) (T : Nat → Nat → Int) : STn p k tw 1 T :=
  ⟨fun S h1 h2 => absurd h2 (by omega), fun i _ h2 => absurd h2 (by have := Nat.one_le_two_pow (n := i); omega), fun W h1 S h2 h3 => absurd h3 (by omega), fun S h1 h2 => absurd h2 (by omega), fun _ _ S h1 h2 => absurd h2 (by omega)⟩
theorem CLo.congr {p g g2 : Nat → Int} (h : ∀ v, v < 36 → g v = g2 v) (c : CLo p g) : CLo p g2 := fun e he => by
  rw [← h _ (lo_lt he), ← h _ (hi_lt he)]
  exact c e he
theorem STn.same {p : Nat → Int} {k : Nat} {tw : Nat → Nat} {n : Nat} {T T2 : Nat → Nat → Int} (h : STn p k tw n T) (htw : ∀ i, i < k → tw i < 36) (e : ∀ S, S < n → ∀ v, v < 36 → T2 S v = T S v) : STn p k tw n T2 := by
  obtain ⟨a1, a2, a3, a4, a5⟩ := h
  refine ⟨fun S h1 h2 => (a1 S h1 h2).congr (fun v hv => (e S h2 v hv).symm), fun i h1 h2 => by rw [e _ h2 _ (htw i h1)]; exact a2 i h1 h2, fun W h1 S h2 h3 h4 v hv => ?_, fun S h1 h2 v hv => by rw [e S h2 v hv]; exact a4 S h1 h2 v hv, fun g hg S h1 h2 v hv => by rw [e S h2 v hv]; exact a5 g hg S h1 h2 v hv⟩
  rw [e W h1 v hv, e S (by omega) v hv, e (W - S) (by omega) v hv]
  exact a3 W h1 S h2 h3 h4 v hv
theorem STn.single {p : Nat → Int} {k : Nat} {tw : Nat → Nat} {i : Nat} {T : Nat → Nat → Int} (hp : PR p) (hk : k ≤ 7) (hi : i < k) (htw : ∀ i, i < k → tw i < 36) (h : STn p k tw (2 ^ i) T) (hD : Dst p (tw i) (T (2 ^ i))) : STn p k tw (2 ^ i + 1) T := by
  obtain ⟨a1, a2, a3, a4, a5⟩ := h
  have new : ∀ S, S < 2 ^ i + 1 → S < 2 ^ i ∨ S = 2 ^ i := fun S h => by omega
  have hz : CLo p (fun _ => (0 : Int)) := CLo_zero hp
  refine ⟨fun S h1 h2 => ?_, fun j h1 h2 => ?_, fun W h1 S h2 h3 h4 v hv => ?_, fun S h1 h2 v hv => ?_, fun g hg S h1 h2 v hv => ?_⟩
  · rcases new S h2 with q | q
    · exact a1 S h1 q
    · rw [q]; exact hD.1
  · rcases new _ h2 with q | q
    · exact a2 j h1 q
    · rw [q, pow_inj q]; exact hD.2.1
  · rcases new W h1 with q | q
    · exact a3 W q S h2 h3 h4 v hv
    · rw [q] at h3 h4
      have := pa2 i (by omega) S h3 h4
      omega
  · rcases new S h2 with q | q
    · exact a4 S h1 q v hv
    · rw [q]
      have n1 := near hp hD.1 (htw i hi) hv
      have n2 := hD.2.2 _ hz (Int.le_refl 0) v hv
      have n3 := hD.2.1
      have n4 := Nat.one_le_two_pow (n := i)
      exact ⟨n2, by omega⟩
  · rcases new S h2 with q | q
    · exact a5 g hg S h1 q v hv
    · rw [q]
      exact hD.2.2 _ (hg.1 _ (Nat.two_pow_pos i) (pow_mono hi)) (hg.2.1 i hi) v hv
theorem STn.join {p : Nat → Int} {k : Nat} {tw : Nat → Nat} {W : Nat} {T : Nat → Nat → Int} {f : Nat → Int} (hp : PR p) (hk : k ≤ 7) (hW0 : 0 < W) (hWk : W < 2 ^ k) (hns : ¬ ∃ i : Nat, i < 7 ∧ W = 2 ^ i) (h : STn p k tw W T) (hm : MinF T W f) (hG : GC p f (T W)) : STn p k tw (W + 1) T := by
  obtain ⟨a1, a2, a3, a4, a5⟩ := h
  have hW : W < 128 := by have := (pow7 k (by omega)).1; omega
  have new : ∀ S, S < W + 1 → S < W ∨ S = W := fun S h => by omega
  have hz : CLo p (fun _ => (0 : Int)) := CLo_zero hp
  obtain ⟨S0, s1, s2, s3⟩ := (pa3 W hW hW0).resolve_left hns
  have ub : ∀ S, 0 < S → S < W → ∀ v, v < 36 → T S v + T (W - S) v ≤ 590 * (W : Int) := fun S h1 h2 v hv => by
    have b1 := (a4 S h1 h2 v hv).2
    have b2 := (a4 (W - S) (by omega) (by omega) v hv).2
    omega
  refine ⟨fun S h1 h2 => ?_, fun j h1 h2 => ?_, fun V h1 S h2 h3 h4 v hv => ?_, fun S h1 h2 v hv => ?_, fun g hg S h1 h2 v hv => ?_⟩
  · rcases new S h2 with q | q
    · exact a1 S h1 q
    · rw [q]; exact hG.1
  · rcases new _ h2 with q | q
    · exact a2 j h1 q
    · exact absurd ⟨j, by omega, q.symm⟩ hns
  · rcases new V h1 with q | q
    · exact a3 V q S h2 h3 h4 v hv
    · rw [q] at h3 h4 ⊢
      exact Int.le_trans (hG.2.1 v hv) (hm.1 S h2 h3 h4 v hv)
  · rcases new S h2 with q | q
    · exact a4 S h1 q v hv
    · rw [q]
      have lo0 := hG.2.2 (fun _ => 0) hz (fun u hu => hm.2 u hu 0 (by decide) (fun S x1 x2 x3 => by
        have b1 := (a4 S x1 x2 u hu).1
        have b2 := (a4 (W - S) (by omega) (by omega) u hu).1
        omega)) v hv
      have up := hG.2.1 v hv
      have up2 := hm.1 S0 s2 s1 s3 v hv
      have up3 := ub S0 s2 s1 v hv
      exact ⟨lo0, by omega⟩
  · rcases new S h2 with q | q
    · exact a5 g hg S h1 q v hv
    · rw [q]
      have le : ∀ u, u < 36 → ∀ S, 0 < S → S < W → S &&& W = S → g W u ≤ T S u + T (W - S) u := fun u hu S x1 x2 x3 => by
        have c1 := hg.2.2 W hWk S x1 x2 x3 u hu
        have c2 := a5 g hg S x1 x2 u hu
        have c3 := a5 g hg (W - S) (by omega) (by omega) u hu
        omega
      refine hG.2.2 (g W) (hg.1 W hW0 hWk) (fun u hu => hm.2 u hu _ ?_ (le u hu)) v hv
      have c1 := le u hu S0 s2 s1 s3
      have c2 := ub S0 s2 s1 u hu
      omega
theorem STn.done {p : Nat → Int} {k : Nat} {tw : Nat → Nat} {T : Nat → Nat → Int} (h : STn p k tw (2 ^ k) T) : STt p k tw T :=
  ⟨⟨h.1, fun i hi => h.2.1 i hi (pow_mono hi), h.2.2.1⟩, h.2.2.2.2⟩
theorem STt.bd {p : Nat → Int} {k : Nat} {tw : Nat → Nat} {T : Nat → Nat → Int} (hp : PR p) (hk : k ≤ 7) (htw : ∀ i, i < k → tw i < 36) (h : STt p k tw T) : ∀ S, 0 < S → S < 2 ^ k → ∀ v, v < 36 → 0 ≤ T S v ∧ T S v ≤ 590 * (S : Int) := by
  intro S
  have hz : CLo p (fun _ => (0 : Int)) := CLo_zero hp
  have g0 : STf p k tw (fun _ _ => 0) := ⟨fun _ _ _ => hz, fun _ _ => Int.le_refl _, fun _ _ _ _ _ _ _ _ => Int.le_refl 0⟩
  induction S using Nat.strongRecOn with
  | ind S ih =>
    intro h1 h2 v hv
    refine ⟨h.2 _ g0 S h1 h2 v hv, ?_⟩
    have hS : S < 128 := by have := (pow7 k (by omega)).1; omega
    rcases pa3 S hS h1 with ⟨i, i1, i2⟩ | ⟨R, r1, r2, r3⟩
    · have hik : i < k := pow_lt (by rw [← i2]; exact h2)
      have a := h.1.2.1 i hik
      have b := near hp (h.1.1 S h1 h2) (htw i hik) hv
      rw [← i2] at a
      omega
    · have a := h.1.2.2 S h2 R r2 r1 r3 v hv
      have b := (ih R r1 r2 (by omega) v hv).2
      have c := (ih (S - R) (by omega) (by omega) (by omega) v hv).2
      omega
theorem STf.congr {p p2 : Nat → Int} {k : Nat} {tw tw2 : Nat → Nat} {g : Nat → Nat → Int} (hp : ∀ e, e < 60 → p e = p2 e) (ht : ∀ i, i < k → tw i = tw2 i) (h : STf p k tw g) : STf p2 k tw2 g :=
  ⟨fun S h1 h2 e he => by rw [← hp e he]; exact h.1 S h1 h2 e he, fun i hi => by rw [← ht i hi]; exact h.2.1 i hi, h.2.2⟩
theorem STt.congr {p p2 : Nat → Int} {k : Nat} {tw tw2 : Nat → Nat} {T : Nat → Nat → Int} (hp : ∀ e, e < 60 → p e = p2 e) (ht : ∀ i, i < k → tw i = tw2 i) (h : STt p k tw T) : STt p2 k tw2 T :=
  ⟨h.1.congr hp ht, fun g hg => h.2 g (hg.congr (fun e he => (hp e he).symm) (fun i hi => (ht i hi).symm))⟩
