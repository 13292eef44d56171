/-! the class joins its towns -/
theorem pa5 : ∀ W : Nat, W < 128 → ∀ S : Nat, S < W → 0 < S → S &&& W = S → S ≠ W - S := by decide +kernel
theorem zandW : ∀ a : Nat, a < 64 → ∀ b : Nat, b < 64 → zand (a : Int) (b : Int) = ((a &&& b : Nat) : Int) := by decide +kernel
theorem rowOf_at (M : Mem) (tb b v : Nat) : rowOf M tb b v = M tb (b + v) := rfl
theorem row_other {M M' : Mem} {W S v : Nat} (h : onlyRow M M' 8 (36 * W)) (hS : S ≠ W) (hv : v < 36) : M' 8 (36 * S + v) = M 8 (36 * S + v) := h 8 _ (fun q => by omega)
theorem jp7_L {W : Nat} (hW : W < 64) {Ms : Mem} (x1 : Int) : ∀ (m j n : Nat) (M : Mem), j + m = 36 → m < n → onlyRow Ms M 8 (36 * W) → (∀ v, v < j → M 8 (36 * W + v) = 1000000) →
    ∃ M', fX3_joinParts_L7 n M x1 ((W : Int) * 36) (j : Int) = some M' ∧ onlyRow Ms M' 8 (36 * W) ∧ ∀ v, v < 36 → M' 8 (36 * W + v) = 1000000 := by
  intro m
  induction m with
  | zero =>
    intro j n M h hn ho hv
    obtain ⟨n, rfl⟩ : ∃ k, n = k + 1 := ⟨n - 1, by omega⟩
    refine ⟨M, ?_, ho, fun v h36 => hv v (by omega)⟩
    rw [fX3_joinParts_L7]
    exact w_gdR (by omega) (by omega) (w_t (by omega) rfl)
  | succ m ih =>
    intro j n M h hn ho hv
    obtain ⟨n, rfl⟩ : ∃ k, n = k + 1 := ⟨n - 1, by omega⟩
    obtain ⟨M', g1, g2⟩ := ih (j + 1) n (wr M 8 (36 * W + j) 1000000) (by omega) (by omega) (ho.trans (only_wr M 8 (36 * W) _ (by omega))) (fun v h1 => by
      rw [wr_put]
      by_cases q : v = j
      · rw [q, put_at]
      · rw [put_ne (by omega)]; exact hv v (by omega))
    refine ⟨M', ?_, g2⟩
    rw [fX3_joinParts_L7]
    refine w_gdR (by omega) (by omega) (w_f (by omega) (w_gdB (by omega) (by omega) ?_))
    rw [show ((W : Int) * 36 + (j : Int)).toNat = 36 * W + j by omega, show (j : Int) + 1 = ((j + 1 : Nat) : Int) by omega]
    exact g1
def mn (a b : Int) : Int := if a < b then a else b
theorem mn_le (a b : Int) : mn a b ≤ a ∧ mn a b ≤ b ∧ (mn a b = a ∨ mn a b = b) := by
  unfold mn
  split <;> omega
theorem jp57_L {W S : Nat} (hW : W < 64) (h0 : 0 < S) (hS : S < W) {Ms : Mem} (hb : ∀ v, v < 36 → (0 ≤ Ms 8 (36 * W + v) ∧ Ms 8 (36 * W + v) ≤ 1000000) ∧ (0 ≤ Ms 8 (36 * S + v) ∧ Ms 8 (36 * S + v) ≤ 1000000) ∧ (0 ≤ Ms 8 (36 * (W - S) + v) ∧ Ms 8 (36 * (W - S) + v) ≤ 1000000)) (x1 : Int) : ∀ (m j n : Nat) (M : Mem), j + m = 36 → m < n → onlyRow Ms M 8 (36 * W) → (∀ v, v < 36 → M 8 (36 * W + v) = if v < j then mn (Ms 8 (36 * S + v) + Ms 8 (36 * (W - S) + v)) (Ms 8 (36 * W + v)) else Ms 8 (36 * W + v)) →
    ∃ M', fX3_joinParts_L57 n M x1 ((W : Int) * 36) (S : Int) ((W : Int) - (S : Int)) (j : Int) = some M' ∧ onlyRow Ms M' 8 (36 * W) ∧ ∀ v, v < 36 → M' 8 (36 * W + v) = mn (Ms 8 (36 * S + v) + Ms 8 (36 * (W - S) + v)) (Ms 8 (36 * W + v)) := by
  intro m
  induction m with
  | zero =>
    intro j n M h hn ho hv
    obtain ⟨n, rfl⟩ : ∃ k, n = k + 1 := ⟨n - 1, by omega⟩
    refine ⟨M, ?_, ho, fun v h36 => by rw [hv v h36, if_pos (by omega)]⟩
    rw [fX3_joinParts_L57]
    exact w_gdR (by omega) (by omega) (w_t (by omega) rfl)
  | succ m ih =>
    intro j n M h hn ho hv
    obtain ⟨n, rfl⟩ : ∃ k, n = k + 1 := ⟨n - 1, by omega⟩
    have hj : j < 36 := by omega
    have b := hb j hj
    have e1 : M 8 (36 * S + j) = Ms 8 (36 * S + j) := row_other ho (by omega) hj
    have e2 : M 8 (36 * (W - S) + j) = Ms 8 (36 * (W - S) + j) := row_other ho (by omega) hj
    have e3 : M 8 (36 * W + j) = Ms 8 (36 * W + j) := by rw [hv j hj, if_neg (by omega)]
    obtain ⟨M', g1, g2⟩ := ih (j + 1) n (wr M 8 (36 * W + j) (mn (Ms 8 (36 * S + j) + Ms 8 (36 * (W - S) + j)) (Ms 8 (36 * W + j)))) (by omega) (by omega) (ho.trans (only_wr M 8 (36 * W) _ hj)) (fun v h1 => by
      rw [wr_put]
      by_cases q : v = j
      · rw [q, put_at, if_pos (by omega)]
      · rw [put_ne (by omega), hv v h1]
        by_cases q2 : v < j
        · rw [if_pos q2, if_pos (by omega)]
        · rw [if_neg q2, if_neg (by omega)])
    refine ⟨M', ?_, g2⟩
    rw [fX3_joinParts_L57]
    refine w_gdR (by omega) (by omega) (w_f (by omega) (w_gdB (by omega) (by omega) (w_gdB (by omega) (by omega) (w_gdB (by omega) (by omega) ?_))))
    rw [show ((S : Int) * 36 + (j : Int)).toNat = 36 * S + j by omega, show (((W : Int) - (S : Int)) * 36 + (j : Int)).toNat = 36 * (W - S) + j by omega, show ((W : Int) * 36 + (j : Int)).toNat = 36 * W + j by omega, show (j : Int) + 1 = ((j + 1 : Nat) : Int) by omega, e1, e2, e3]
    exact w_gdR (by omega) (by omega) (w_gdR (by omega) (by omega) (w_gdB (by omega) (by omega) g1))
theorem jp31_L {W : Nat} (hW : W < 64) {Ms : Mem} (hb : ∀ S, 0 < S → S < W → ∀ v, v < 36 → 0 ≤ Ms 8 (36 * S + v) ∧ Ms 8 (36 * S + v) ≤ 1000000) : ∀ (m q n : Nat) (M : Mem), q + m = W → m < n → 0 < q → onlyRow Ms M 8 (36 * W) → (∀ v, v < 36 → 0 ≤ M 8 (36 * W + v) ∧ M 8 (36 * W + v) ≤ 1000000) → (∀ S, 0 < S → S < q → S &&& W = S → S < W - S → ∀ v, v < 36 → M 8 (36 * W + v) ≤ Ms 8 (36 * S + v) + Ms 8 (36 * (W - S) + v)) → (∀ v, v < 36 → ∀ x, x ≤ 1000000 → (∀ S, 0 < S → S < W → S &&& W = S → x ≤ Ms 8 (36 * S + v) + Ms 8 (36 * (W - S) + v)) → x ≤ M 8 (36 * W + v)) →
    ∃ M', fX3_joinParts_L31 n M (W : Int) ((W : Int) * 36) (q : Int) = some M' ∧ onlyRow Ms M' 8 (36 * W) ∧ (∀ v, v < 36 → 0 ≤ M' 8 (36 * W + v) ∧ M' 8 (36 * W + v) ≤ 1000000) ∧ MinF (fun S v => Ms 8 (36 * S + v)) W (fun v => M' 8 (36 * W + v)) := by
  intro m
  induction m with
  | zero =>
    intro q n M h hn hq ho hr h1 h2
    obtain ⟨n, rfl⟩ : ∃ k, n = k + 1 := ⟨n - 1, by omega⟩
    refine ⟨M, ?_, ho, hr, fun S s1 s2 s3 v hv => ?_, h2⟩
    · rw [fX3_joinParts_L31]
      exact w_gdR (by omega) (by omega) (w_gdR (by omega) (by omega) (w_t (by omega) rfl))
    · show M 8 (36 * W + v) ≤ Ms 8 (36 * S + v) + Ms 8 (36 * (W - S) + v)
      have ne := pa5 W (by omega) S s2 s1 s3
      by_cases c : S < W - S
      · exact h1 S s1 (by omega) s3 c v hv
      · have := h1 (W - S) (by omega) (by omega) (pa1 W (by omega) S s2 s3) (by omega) v hv
        rw [show W - (W - S) = S by omega] at this
        omega
  | succ m ih =>
    intro q n M h hn hq ho hr h1 h2
    obtain ⟨n, rfl⟩ : ∃ k, n = k + 1 := ⟨n - 1, by omega⟩
    have hqW : q < W := by omega
    have front : ∀ M1, (if q &&& W = q then (if (W : Int) - (q : Int) ≤ (q : Int) then some M else fX3_joinParts_L57 FU M (W : Int) ((W : Int) * 36) (q : Int) ((W : Int) - (q : Int)) 0) else some M) = some M1 → ∀ r, fX3_joinParts_L31 n M1 (W : Int) ((W : Int) * 36) ((q : Int) + 1) = some r → fX3_joinParts_L31 (n + 1) M (W : Int) ((W : Int) * 36) (q : Int) = some r := by
      intro M1 k1 r k2
      have an : q &&& W ≤ q := Nat.and_le_left
      rw [fX3_joinParts_L31, zandW q (by omega) W hW]
      refine w_gdR (by omega) (by omega) (w_gdR (by omega) (by omega) (w_f (by omega) (w_gdR (by omega) (by omega) (w_bind (t := M1) ?_ k2))))
      by_cases c : q &&& W = q
      · rw [if_pos c] at k1
        refine w_t (by omega) (w_gdR (by omega) (by omega) ?_)
        by_cases d : (W : Int) - (q : Int) ≤ (q : Int)
        · rw [if_pos d] at k1 ⊢; exact k1
        · rw [if_neg d] at k1 ⊢; exact w_bind k1 rfl
      · rw [if_neg c] at k1
        exact w_f (by omega) k1
    have skip : ¬ (q &&& W = q ∧ q < W - q) → (if q &&& W = q then (if (W : Int) - (q : Int) ≤ (q : Int) then some M else fX3_joinParts_L57 FU M (W : Int) ((W : Int) * 36) (q : Int) ((W : Int) - (q : Int)) 0) else some M) = some M → ∃ M', fX3_joinParts_L31 (n + 1) M (W : Int) ((W : Int) * 36) (q : Int) = some M' ∧ onlyRow Ms M' 8 (36 * W) ∧ (∀ v, v < 36 → 0 ≤ M' 8 (36 * W + v) ∧ M' 8 (36 * W + v) ≤ 1000000) ∧ MinF (fun S v => Ms 8 (36 * S + v)) W (fun v => M' 8 (36 * W + v)) := by
      intro z k1
      obtain ⟨M', g1, g2⟩ := ih (q + 1) n M (by omega) (by omega) (by omega) ho hr (fun S s1 s2 s3 s4 v hv => by
        by_cases e : S = q
        · rw [e] at s3 s4; exact absurd ⟨s3, s4⟩ z
        · exact h1 S s1 (by omega) s3 s4 v hv) h2
      rw [show ((q + 1 : Nat) : Int) = (q : Int) + 1 by omega] at g1
      exact ⟨M', front M k1 _ g1, g2⟩
    by_cases c : q &&& W = q
    · by_cases d : (W : Int) - (q : Int) ≤ (q : Int)
      · exact skip (fun z => by omega) (by rw [if_pos c, if_pos d])
      · have bM : ∀ S, 0 < S → S < W → ∀ v, v < 36 → M 8 (36 * S + v) = Ms 8 (36 * S + v) := fun S _ s2 v hv => row_other ho (by omega) hv
        obtain ⟨M1, p1, p2, p3⟩ := jp57_L hW hq hqW (Ms := M) (fun v hv => ⟨hr v hv, by rw [bM q hq hqW v hv]; exact hb q hq hqW v hv, by rw [bM (W - q) (by omega) (by omega) v hv]; exact hb (W - q) (by omega) (by omega) v hv⟩) (W : Int) 36 0 FU M (by omega) (by have := FU_big; omega) (onlyRow.refl _ _ _) (fun v hv => by rw [if_neg (by omega)])
        have r1 : ∀ v, v < 36 → M1 8 (36 * W + v) = mn (Ms 8 (36 * q + v) + Ms 8 (36 * (W - q) + v)) (M 8 (36 * W + v)) := fun v hv => by rw [p3 v hv, bM q hq hqW v hv, bM (W - q) (by omega) (by omega) v hv]
        obtain ⟨M', g1, g2⟩ := ih (q + 1) n M1 (by omega) (by omega) (by omega) (ho.trans p2) (fun v hv => by
          have z := mn_le (Ms 8 (36 * q + v) + Ms 8 (36 * (W - q) + v)) (M 8 (36 * W + v))
          have y1 := hr v hv
          have y2 := hb q hq hqW v hv
          have y3 := hb (W - q) (by omega) (by omega) v hv
          rw [r1 v hv]
          omega) (fun S s1 s2 s3 s4 v hv => by
          have z := mn_le (Ms 8 (36 * q + v) + Ms 8 (36 * (W - q) + v)) (M 8 (36 * W + v))
          rw [r1 v hv]
          by_cases e : S = q
          · rw [e]; exact z.1
          · have := h1 S s1 (by omega) s3 s4 v hv
            omega) (fun v hv x x1 x2 => by
          have z := mn_le (Ms 8 (36 * q + v) + Ms 8 (36 * (W - q) + v)) (M 8 (36 * W + v))
          have y1 := h2 v hv x x1 x2
          have y2 := x2 q hq hqW c
          rw [r1 v hv]
          omega)
        rw [show ((q + 1 : Nat) : Int) = (q : Int) + 1 by omega] at g1
        exact ⟨M', front M1 (by rw [if_pos c, if_neg d]; exact p1) _ g1, g2⟩
    · exact skip (fun z => c z.1) (by rw [if_neg c])
theorem MinF.congr {T T2 : Nat → Nat → Int} {W : Nat} {f f2 : Nat → Int} (hT : ∀ S, S < W → ∀ v, v < 36 → T S v = T2 S v) (hf : ∀ v, v < 36 → f v = f2 v) (h : MinF T W f) : MinF T2 W f2 := by
  refine ⟨fun S s1 s2 s3 v hv => ?_, fun v hv x x1 x2 => ?_⟩
  · rw [← hf v hv, ← hT S s2 v hv, ← hT (W - S) (by omega) v hv]
    exact h.1 S s1 s2 s3 v hv
  · rw [← hf v hv]
    refine h.2 v hv x x1 (fun S s1 s2 s3 => ?_)
    rw [hT S s2 v hv, hT (W - S) (by omega) v hv]
    exact x2 S s1 s2 s3
def JC (M0 M : Mem) (k W : Nat) : Prop := (∀ a, a ≠ 8 → M a = M0 a) ∧ (∀ i, i < k → W ≤ 2 ^ i → Dst (M0 4) (M0 7 i).toNat (rowOf M 8 (36 * 2 ^ i))) ∧ STn (M0 4) k (fun i => (M0 7 i).toNat) W (fun S v => M 8 (36 * S + v))
theorem GR.PR {M : Mem} (h : GR M) : PR (M 4) := fun e he => by have := (h.1 e he).2.2; omega
theorem Dst.congr {p t s : Nat → Int} {u : Nat} (hu : u < 36) (h : Dst p u t) (e : ∀ v, v < 36 → t v = s v) : Dst p u s :=
  ⟨h.1.congr e, by rw [← e u hu]; exact h.2.1, fun g h1 h2 v hv => by rw [← e v hv]; exact h.2.2 g h1 h2 v hv⟩
/-- one set more -/
theorem jcC_step {M0 M : Mem} {k W : Nat} (hg : GR M0) (hk : k ≤ 6) (htw : ∀ i, i < k → 0 ≤ M0 7 i ∧ M0 7 i < 36) (h : JC M0 M k W) (h0 : 0 < W) (hW : W < 2 ^ k) :
    ∃ M', (if pcn 8 W ≤ 1 then (some M) else (Option.bind (fX3_joinParts M (W : Int)) (fun t22 => Option.bind (fX2_settle t22 8 ((W : Int) * 36)) (fun t24 => some (t24))))) = some M' ∧ JC M0 M' k (W + 1) := by
  obtain ⟨a1, a2, a3⟩ := h
  have tw36 : ∀ i, i < k → (M0 7 i).toNat < 36 := fun i hi => by have := htw i hi; omega
  have h64 : W < 64 := by
    have : 2 ^ k ≤ 2 ^ 6 := Nat.pow_le_pow_right (by decide) hk
    omega
  have e4 : M 4 = M0 4 := a1 4 (by decide)
  have hgM : GR M := by
    unfold GR
    rw [a1 0 (by decide), a1 1 (by decide), a1 2 (by decide), e4]
    exact hg
  by_cases c : pcn 8 W ≤ 1
  · obtain ⟨i, i1, i2⟩ := (pa4 W h64 h0).mp c
    have hik : i < k := pow_lt (by rw [← i2]; exact hW)
    refine ⟨M, if_pos c, a1, fun j hj hle => a2 j hj (by omega), ?_⟩
    subst i2
    exact a3.single hg.PR (by omega) hik tw36 (a2 i hik (Nat.le_refl _))
  · have hns : ¬ ∃ i : Nat, i < 7 ∧ W = 2 ^ i := fun ⟨i, i1, i2⟩ => by
      refine c ((pa4 W h64 h0).mpr ⟨i, ?_, i2⟩)
      have : i < k := pow_lt (by rw [← i2]; exact hW)
      omega
    have bd : ∀ S, 0 < S → S < W → ∀ v, v < 36 → 0 ≤ M 8 (36 * S + v) ∧ M 8 (36 * S + v) ≤ 1000000 := fun S s1 s2 v hv => by
      have z : 0 ≤ M 8 (36 * S + v) ∧ M 8 (36 * S + v) ≤ 590 * (S : Int) := a3.2.2.2.1 S s1 s2 v hv
      omega
    obtain ⟨M1, p1, p2, p3⟩ := jp7_L h64 (Ms := M) (W : Int) 36 0 FU M (by omega) (by have := FU_big; omega) (onlyRow.refl _ _ _) (fun v hv => absurd hv (by omega))
    have same1 : ∀ S, S ≠ W → ∀ v, v < 36 → M1 8 (36 * S + v) = M 8 (36 * S + v) := fun S s1 v hv => row_other p2 s1 hv
    obtain ⟨M2, q1, q2, q3, q4⟩ := jp31_L h64 (Ms := M1) (fun S s1 s2 v hv => by rw [same1 S (by omega) v hv]; exact bd S s1 s2 v hv) (W - 1) 1 FU M1 (by omega) (by have := FU_big; omega) (by omega) (onlyRow.refl _ _ _) (fun v hv => by rw [p3 v hv]; omega) (fun S s1 s2 => absurd s2 (by omega)) (fun v hv x x1 _ => by rw [p3 v hv]; exact x1)
    have o12 := p2.trans q2
    have ok : okT 8 (36 * W) := by
      refine ⟨⟨by decide, by decide⟩, ?_, by decide, by decide, by decide, by decide⟩
      show 36 * W + 36 ≤ 2304
      omega
    have hg2 := o12.grid ok hgM
    have e42 : M2 4 = M0 4 := (o12.arr (by decide)).trans e4
    have hb2 : bdd (rowOf M2 8 (36 * W)) := fun v hv => by
      have := q3 v hv
      unfold rowOf
      omega
    obtain ⟨t, hG, _⟩ := GC_ex (p := M2 4) (f := rowOf M2 8 (36 * W)) (fun e he => by have := (hg2.1 e he).2.2; omega) (fun v hv => (hb2 v hv).1)
    obtain ⟨M3, r1, r2, r3⟩ := setC ok hg2 hb2 hG
    have o13 := o12.trans r2
    have same3 : ∀ S, S ≠ W → ∀ v, v < 36 → M3 8 (36 * S + v) = M 8 (36 * S + v) := fun S s1 v hv => row_other o13 s1 hv
    refine ⟨M3, ?_, fun a ha => by rw [o13.arr ha, a1 a ha], fun j hj hle => ?_, ?_⟩
    · rw [if_neg c]
      refine w_bind (t := M2) ?_ ?_
      · unfold fX3_joinParts
        exact w_bind p1 (w_bind q1 rfl)
      · rw [show (W : Int) * 36 = ((36 * W : Nat) : Int) by omega]
        exact w_bind r1 rfl
    · exact (a2 j hj (by omega)).congr (tw36 j hj) (fun v hv => (same3 (2 ^ j) (by omega) v hv).symm)
    · refine STn.join (f := fun v => M2 8 (36 * W + v)) hg.PR (by omega) h0 hW hns (a3.same tw36 (fun S s v hv => same3 S (by omega) v hv)) (q4.congr (fun S s v hv => by
        show M1 8 (36 * S + v) = M3 8 (36 * S + v)
        rw [same1 S (by omega) v hv, same3 S (by omega) v hv]) (fun _ _ => rfl)) ?_
      rw [e42] at hG
      refine ⟨hG.1.congr (fun v hv => (r3 v hv).symm), fun v hv => ?_, fun g g1 g2 v hv => ?_⟩
      · have := hG.2.1 v hv
        show M3 8 (36 * W + v) ≤ M2 8 (36 * W + v)
        have e := r3 v hv
        unfold rowOf at e this
        rw [e]; exact this
      · have := hG.2.2 g g1 g2 v hv
        show g v ≤ M3 8 (36 * W + v)
        have e := r3 v hv
        unfold rowOf at e
        rw [e]; exact this
theorem jcL_L {M0 : Mem} {k : Nat} (hg : GR M0) (hk : k ≤ 6) (htw : ∀ i, i < k → 0 ≤ M0 7 i ∧ M0 7 i < 36) : ∀ (m W n : Nat) (M : Mem), W + m = 2 ^ k → m < n → 0 < W → JC M0 M k W →
    ∃ M', fX3_joinAll_L51 n M (((2 ^ k : Nat) : Int) - 1) (W : Int) = some M' ∧ JC M0 M' k (2 ^ k) := by
  have h64 : 2 ^ k ≤ 2 ^ 6 := Nat.pow_le_pow_right (by decide) hk
  have e64 : (2 : Nat) ^ 6 = 64 := by decide
  intro m
  induction m with
  | zero =>
    intro W n M h hn h0 hJ
    obtain ⟨n, rfl⟩ : ∃ k, n = k + 1 := ⟨n - 1, by omega⟩
    have e : W = 2 ^ k := by omega
    rw [e] at hJ
    refine ⟨M, ?_, hJ⟩
    rw [fX3_joinAll_L51]
    exact w_gdR (by omega) (by omega) (w_gdR (by omega) (by omega) (w_t (by omega) rfl))
  | succ m ih =>
    intro W n M h hn h0 hJ
    obtain ⟨n, rfl⟩ : ∃ k, n = k + 1 := ⟨n - 1, by omega⟩
    obtain ⟨M1, s1, s2⟩ := jcC_step hg hk htw hJ h0 (by omega)
    obtain ⟨M', g1, g2⟩ := ih (W + 1) n M1 (by omega) (by omega) (by omega) s2
    refine ⟨M', ?_, g2⟩
    have pb := pcn_bd 8 W
    rw [fX3_joinAll_L51]
    refine w_gdR (by omega) (by omega) (w_gdR (by omega) (by omega) (w_f (by omega) (w_bind (pcCM M (by omega)) (w_gdR (by omega) (by omega) (w_bind s1 ?_)))))
    rw [show (W : Int) + 1 = ((W + 1 : Nat) : Int) by omega]
    exact g1
theorem jcT_L {M0 : Mem} {k : Nat} (hg : GR M0) (hk : k ≤ 6) (hc : M0 102 0 = (k : Int)) (htw : ∀ i, i < k → 0 ≤ M0 7 i ∧ M0 7 i < 36) : ∀ (m i n : Nat) (M : Mem), i + m = k → m < n → (∀ a, a ≠ 8 → M a = M0 a) → (∀ j, j < i → Dst (M0 4) (M0 7 j).toNat (rowOf M 8 (36 * 2 ^ j))) →
    ∃ M', fX3_joinAll_L10 n M (i : Int) = some M' ∧ (∀ a, a ≠ 8 → M' a = M0 a) ∧ ∀ j, j < k → Dst (M0 4) (M0 7 j).toNat (rowOf M' 8 (36 * 2 ^ j)) := by
  intro m
  induction m with
  | zero =>
    intro i n M h hn ha hd
    obtain ⟨n, rfl⟩ : ∃ k, n = k + 1 := ⟨n - 1, by omega⟩
    refine ⟨M, ?_, ha, fun j hj => hd j (by omega)⟩
    rw [fX3_joinAll_L10, ha 102 (by decide)]
    exact w_gdR (by omega) (by omega) (w_gdR (by omega) (by omega) (w_t (by omega) rfl))
  | succ m ih =>
    intro i n M h hn ha hd
    obtain ⟨n, rfl⟩ : ∃ k, n = k + 1 := ⟨n - 1, by omega⟩
    have hi : i < k := by omega
    have ht := htw i hi
    have p6 : 2 ^ i < 2 ^ 6 := pow_mono (by omega)
    have e64 : (2 : Nat) ^ 6 = 64 := by decide
    have hgM : GR M := by
      unfold GR
      rw [ha 0 (by decide), ha 1 (by decide), ha 2 (by decide), ha 4 (by decide)]
      exact hg
    have e4 : M 4 = M0 4 := ha 4 (by decide)
    obtain ⟨u, hu⟩ : ∃ u : Nat, M0 7 i = (u : Int) := ⟨(M0 7 i).toNat, by omega⟩
    have hu36 : u < 36 := by omega
    obtain ⟨t, hD, _⟩ := Dst_ex hg.PR hu36
    have ok : okT 8 (36 * 2 ^ i) := by
      refine ⟨⟨by decide, by decide⟩, ?_, by decide, by decide, by decide, by decide⟩
      show 36 * 2 ^ i + 36 ≤ 2304
      omega
    obtain ⟨M1, m1, m2, m3⟩ := meaC ok hgM hu36 (by rw [e4]; exact hD.gc hg.PR hu36 (B := 1000000) (by decide))
    obtain ⟨M', g1, g2⟩ := ih (i + 1) n M1 (by omega) (by omega) (fun a h8 => by rw [m2.arr h8, ha a h8]) (fun j hj => by
      by_cases q : j = i
      · rw [q, hu, Int.toNat_natCast]
        exact hD.congr hu36 (fun v hv => (m3 v hv).symm)
      · have tj : (M0 7 j).toNat < 36 := by have := htw j (by omega); omega
        refine (hd j (by omega)).congr tj (fun v hv => ?_)
        have ne : 2 ^ j ≠ 2 ^ i := fun z => q (pow_inj z)
        exact (row_other m2 ne hv).symm)
    refine ⟨M', ?_, g2⟩
    rw [fX3_joinAll_L10, ha 102 (by decide), ha 7 (by decide), zshlP i (by omega)]
    refine w_gdR (by omega) (by omega) (w_gdR (by omega) (by omega) (w_f (by omega) (w_gdB (by omega) (by omega) ?_)))
    rw [Int.toNat_natCast, hu, show ((2 ^ i : Nat) : Int) * 36 = ((36 * 2 ^ i : Nat) : Int) by omega]
    refine w_bind m1 ?_
    rw [show (i : Int) + 1 = ((i + 1 : Nat) : Int) by omega]
    exact g1
theorem allC {M : Mem} {k : Nat} (hk : k ≤ 6) (hc : M 102 0 = (k : Int)) : fX3_allTowns M = some (((2 ^ k : Nat) : Int) - 1) := by
  unfold fX3_allTowns
  rw [hc, zshlP k (by omega)]
theorem jaC {M0 : Mem} {k : Nat} (hg : GR M0) (hk : k ≤ 6) (hc : M0 102 0 = (k : Int)) (htw : ∀ i, i < k → 0 ≤ M0 7 i ∧ M0 7 i < 36) (h103 : M0 103 0 = 0) : ∃ M, fX3_joinAll M0 = some M ∧ (∀ a, a ≠ 8 → a ≠ 103 → M a = M0 a) ∧ M 103 0 = 1 ∧ JT M := by
  obtain ⟨M1, a1, a2, a3⟩ := jcT_L hg hk hc htw k 0 FU M0 (by omega) (by have := FU_big; omega) (fun _ _ => rfl) (fun j hj => absurd hj (by omega))
  have h64 : 2 ^ k ≤ 2 ^ 6 := Nat.pow_le_pow_right (by decide) hk
  have e64 : (2 : Nat) ^ 6 = 64 := by decide
  have p1 := Nat.one_le_two_pow (n := k)
  obtain ⟨M2, b1, b2⟩ := jcL_L hg hk htw (2 ^ k - 1) 1 FU M1 (by omega) (by have := FU_big; omega) (by omega) ⟨a2, fun i hi _ => a3 i hi, STn.start _ _ _ _⟩
  have frame : ∀ a, a ≠ 8 → a ≠ 103 → wr M2 103 0 1 a = M0 a := fun a h8 h9 => by rw [wr_row _ _ h9, b2.1 a h8]
  refine ⟨wr M2 103 0 1, ?_, frame, rfl, ?_⟩
  · unfold fX3_joinAll
    refine w_gdR (by omega) (by omega) (w_t h103 (w_bind a1 (w_bind (allC hk (by rw [a2 102 (by decide)]; exact hc)) (w_bind b1 rfl))))
  · have e8 : wr M2 103 0 1 8 = M2 8 := wr_row _ _ (by decide)
    unfold JT
    rw [frame 4 (by decide) (by decide), frame 102 (by decide) (by decide), frame 7 (by decide) (by decide), hc, Int.toNat_natCast, e8]
    exact b2.2.2.done
theorem Rl.joined {Mc Mm M : Mem} (h : Rl Mc Mm) (f : ∀ a, a ≠ 8 → a ≠ 103 → M a = Mc a) (h1 : M 103 0 = 1) (hJ : JT M) : Rl M Mm := by
  obtain ⟨a1, a2, a3, a4, a5, a6, a7⟩ := h
  refine ⟨?_, a2, ?_, ?_, ?_, Or.inr ⟨h1, hJ⟩, ?_⟩
  · unfold GR at a1 ⊢
    rw [f 0 (by decide) (by decide), f 1 (by decide) (by decide), f 2 (by decide) (by decide), f 4 (by decide) (by decide)]
    exact a1
  · rw [f 100 (by decide) (by decide), f 101 (by decide) (by decide)]; exact a3
  · rw [f 3 (by decide) (by decide), f 4 (by decide) (by decide)]; exact a4
  · unfold TWr at a5 ⊢
    rw [f 102 (by decide) (by decide), f 7 (by decide) (by decide)]; exact a5
  · rw [f 12 (by decide) (by decide), f 16 (by decide) (by decide), f 18 (by decide) (by decide), f 104 (by decide) (by decide), f 105 (by decide) (by decide)]; exact a7
theorem Rl.join {Mc Mm : Mem} (h : Rl Mc Mm) : ∃ M, fX3_joinAll Mc = some M ∧ (∀ a, a ≠ 8 → a ≠ 103 → M a = Mc a) ∧ JT M ∧ Rl M Mm := by
  obtain ⟨w1, w2, w3, w4⟩ := h.2.2.2.2.1
  rcases h.2.2.2.2.2.1 with q | ⟨q1, q2⟩
  · obtain ⟨k, hk⟩ : ∃ k : Nat, Mc 102 0 = (k : Int) := ⟨(Mc 102 0).toNat, by omega⟩
    obtain ⟨M, a1, a2, a3, a4⟩ := jaC h.1 (by omega) hk (fun i hi => (w3 i (by omega)).2) q
    exact ⟨M, a1, a2, a4, h.joined a2 a3 a4⟩
  · refine ⟨Mc, ?_, fun _ _ _ => rfl, q2, h⟩
    unfold fX3_joinAll
    exact w_gdR (by omega) (by omega) (w_f (by omega) rfl)
