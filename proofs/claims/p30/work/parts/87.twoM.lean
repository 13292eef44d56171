/-! the reference's one more way -/
theorem stM {M : Mem} (hu : uni (M 9)) {j : Nat} (hj : j < 120) : (alA (M 9) j → fX6_stepCost M ((j / 2 : Nat) : Int) (if j % 2 = 0 then 1 else 0) = some (rcL (coM M) (M 9) (j / 2))) ∧ (¬ alA (M 9) j → fX6_stepCost M ((j / 2 : Nat) : Int) (if j % 2 = 0 then 1 else 0) = some 1000000000) := by
  have he : j / 2 < 60 := by omega
  have u := hu _ he
  have fr : ∀ r, (if M 9 (j / 2) = 0 then some (coM M (j / 2)) else (if M 9 (j / 2) = (if j % 2 = 0 then -1 else 1) then some (-(coM M (j / 2))) else some 1000000000)) = some r → fX6_stepCost M ((j / 2 : Nat) : Int) (if j % 2 = 0 then 1 else 0) = some r := by
    intro r hr
    unfold fX6_stepCost
    refine w_gdB (by omega) (by omega) ?_
    rw [Int.toNat_natCast]
    refine w_gdR (by omega) (by omega) ?_
    by_cases c : M 9 (j / 2) = 0
    · rw [if_pos c] at hr
      refine w_t c (w_bind (m_cost M he) hr)
    · rw [if_neg c] at hr
      refine w_f c (w_gdB (by omega) (by omega) (w_gdR (by split <;> omega) (by split <;> omega) (w_bind (t := if j % 2 = 0 then -1 else 1) ?_ (w_gdR (by split <;> omega) (by split <;> omega) (w_bind (t := r) ?_ rfl)))))
      · by_cases q : j % 2 = 0
        · rw [if_pos q, if_pos q]; exact w_f N1 rfl
        · rw [if_neg q, if_neg q]; exact w_t rfl rfl
      · by_cases d : M 9 (j / 2) = (if j % 2 = 0 then -1 else 1)
        · rw [if_pos d] at hr
          exact w_t d (w_bind (m_cost M he) hr)
        · rw [if_neg d] at hr
          exact w_f d hr
  unfold alA rcL
  by_cases q : j % 2 = 0
  · rw [if_pos q] at fr ⊢
    constructor
    · intro a
      by_cases c : M 9 (j / 2) = 0
      · exact fr _ (by rw [if_pos c, if_pos c])
      · exact fr _ (by rw [if_neg c, if_neg c, if_pos (by omega)])
    · intro a
      exact fr _ (by rw [if_neg (by omega), if_neg (by omega)])
  · rw [if_neg q] at fr ⊢
    constructor
    · intro a
      by_cases c : M 9 (j / 2) = 0
      · exact fr _ (by rw [if_pos c, if_pos c])
      · exact fr _ (by rw [if_neg c, if_neg c, if_pos (by omega)])
    · intro a
      exact fr _ (by rw [if_neg (by omega), if_neg (by omega)])
def OwI (p f ρ : Nat → Int) (s : Nat) (M : Mem) (now : Nat) : Prop :=
  LE36 ρ (M 6) ∧ (∀ v, v < 36 → M 6 v ≤ 1000000000) ∧ M 6 s = 0 ∧ ∃ τ : Nat → Nat, (∀ v, v < 36 → τ v < now) ∧ ∀ v, v < 36 → v ≠ s → (M 6 v = 1000000000) ∨ ∃ j : Nat, j < 120 ∧ M 10 v = (j : Int) ∧ v = arT j ∧ alA f j ∧ ((τ (arF j) < τ v ∧ M 6 (arF j) + rcL p f (j / 2) ≤ M 6 v) ∨ M 6 (arF j) + rcL p f (j / 2) + 1 ≤ M 6 v)
theorem OwI.next {p f ρ : Nat → Int} {s : Nat} {M : Mem} {now : Nat} (h : OwI p f ρ s M now) : OwI p f ρ s M (now + 1) := by
  obtain ⟨a1, a2, a3, τ, a4, a5⟩ := h
  exact ⟨a1, a2, a3, τ, fun v hv => by have := a4 v hv; omega, a5⟩
theorem OwI.mark {p f ρ : Nat → Int} {s : Nat} (hs : s < 36) {M : Mem} {now : Nat} (hρ : Dsd p f s ρ) (h0 : 0 ≤ ρ s) (h : OwI p f ρ s M now) {j : Nat} (hj : j < 120) (ha : alA f j) (hlt : M 6 (arF j) + rcL p f (j / 2) < M 6 (arT j)) : OwI p f ρ s (wr (wr M 6 (arT j) (M 6 (arF j) + rcL p f (j / 2))) 10 (arT j) (j : Int)) (now + 1) ∧ arT j ≠ s := by
  obtain ⟨a1, a2, a3, τ, a4, a5⟩ := h
  obtain ⟨f1, f2, f3, _⟩ := ar_lt hj
  have c1 := a1 _ f1
  have c2 := hρ.1 j hj ha
  have ns : arT j ≠ s := fun q => by rw [q, a3] at hlt; rw [q] at c2; omega
  have r6 : wr (wr M 6 (arT j) (M 6 (arF j) + rcL p f (j / 2))) 10 (arT j) (j : Int) 6 = put (M 6) (arT j) (M 6 (arF j) + rcL p f (j / 2)) := by rw [wr_row _ _ (by decide), wr_put]
  have r10 : wr (wr M 6 (arT j) (M 6 (arF j) + rcL p f (j / 2))) 10 (arT j) (j : Int) 10 = put (M 10) (arT j) (j : Int) := by rw [wr_put, wr_row _ _ (by decide)]
  refine ⟨⟨fun v hv => ?_, fun v hv => ?_, ?_, fun v => if v = arT j then now else τ v, fun v hv => ?_, fun v hv hvs => ?_⟩, ns⟩
  · rw [r6]
    by_cases q : v = arT j
    · rw [q, put_at]; omega
    · rw [put_ne q]; exact a1 v hv
  · rw [r6]
    have := a2 _ f2
    by_cases q : v = arT j
    · rw [q, put_at]; omega
    · rw [put_ne q]; exact a2 v hv
  · rw [r6, put_ne (fun q => ns q.symm)]; exact a3
  · show (if v = arT j then now else τ v) < now + 1
    by_cases q : v = arT j
    · rw [if_pos q]; omega
    · rw [if_neg q]; have := a4 v hv; omega
  · rw [r6, r10]
    by_cases q : v = arT j
    · right
      refine ⟨j, hj, by rw [q, put_at], q, ha, Or.inl ⟨?_, ?_⟩⟩
      · show (if arF j = arT j then now else τ (arF j)) < (if v = arT j then now else τ v)
        rw [if_neg f3, if_pos q]; exact a4 _ f1
      · rw [q, put_at, put_ne f3]; exact Int.le_refl _
    · rcases a5 v hv hvs with z | ⟨i, i1, i2, i3, i4, i5⟩
      · left; rw [put_ne q]; exact z
      · right
        refine ⟨i, i1, by rw [put_ne q]; exact i2, i3, i4, ?_⟩
        show ((if arF i = arT j then now else τ (arF i)) < (if v = arT j then now else τ v) ∧ put (M 6) (arT j) (M 6 (arF j) + rcL p f (j / 2)) (arF i) + rcL p f (i / 2) ≤ put (M 6) (arT j) (M 6 (arF j) + rcL p f (j / 2)) v) ∨ put (M 6) (arT j) (M 6 (arF j) + rcL p f (j / 2)) (arF i) + rcL p f (i / 2) + 1 ≤ put (M 6) (arT j) (M 6 (arF j) + rcL p f (j / 2)) v
        rw [put_ne q, if_neg q]
        by_cases y : arF i = arT j
        · right
          rw [y, put_at]
          rw [y] at i5
          rcases i5 with ⟨_, w⟩ | w <;> omega
        · rw [put_ne y, if_neg y]
          exact i5
theorem owP_L {Ms : Mem} (hm : MR Ms) (hu : uni (Ms 9)) {s : Nat} (hs : s < 36) {ρ : Nat → Int} (hρ : Dsd (coM Ms) (Ms 9) s ρ) (hρ0 : ∀ v, v < 36 → 0 ≤ ρ v) (x1 x2 x3 : Int) : ∀ (m j n : Nat) (M : Mem) (now : Nat), j + m = 120 → m < n → (∀ a, a ≠ 6 → a ≠ 10 → M a = Ms a) → (∀ v, v < 36 → Ms 6 v ≤ 1000000000) → OwI (coM Ms) (Ms 9) ρ s M now → DPs (coM Ms) (Ms 9) 1000000000 (fun i => i < j) (Ms 6) (M 6) →
    ∃ M', fX6_oneWay_L49 n M x1 x2 x3 (j : Int) = some M' ∧ (∀ a, a ≠ 6 → a ≠ 10 → M' a = Ms a) ∧ OwI (coM Ms) (Ms 9) ρ s M' (now + m) ∧ DPs (coM Ms) (Ms 9) 1000000000 (fun _ => True) (Ms 6) (M' 6) := by
  have hp : p159 (coM Ms) := fun e he => coM_bd hm he
  intro m
  induction m with
  | zero =>
    intro j n M now h hn ha hB hI hD
    obtain ⟨n, rfl⟩ : ∃ k, n = k + 1 := ⟨n - 1, by omega⟩
    refine ⟨M, ?_, ha, hI, ⟨hD.1, fun i hi _ => hD.2 i hi (show i < j by omega)⟩⟩
    rw [fX6_oneWay_L49]
    exact w_gdR (by omega) (by omega) (w_t (by omega) rfl)
  | succ m ih =>
    intro j n M now h hn ha hB hI hD
    obtain ⟨n, rfl⟩ : ∃ k, n = k + 1 := ⟨n - 1, by omega⟩
    have hj : j < 120 := by omega
    have he : j / 2 < 60 := by omega
    obtain ⟨f1, f2, f3, _⟩ := ar_lt hj
    have ec : coM M = coM Ms := coM_of (ha 0 (by decide) (by decide)) (ha 1 (by decide) (by decide))
    have e9 : M 9 = Ms 9 := ha 9 (by decide) (by decide)
    have b1 := hI.2.1 _ f1
    have b2 := hI.2.1 _ f2
    have l1 := hI.1 _ f1
    have l2 := hI.1 _ f2
    have z1 := hρ0 _ f1
    have z2 := hρ0 _ f2
    have rb := rc_bd (f := Ms 9) hp he
    have sc := stM (M := M) (by rw [e9]; exact hu) hj
    rw [e9, ec] at sc
    have front : ∀ (c : Int) (M1 : Mem) (r : Mem), fX6_stepCost M ((j / 2 : Nat) : Int) (if j % 2 = 0 then 1 else 0) = some c → inR c → (if 1000000000 ≤ M 6 (arF j) then (some M) else (if 1000000000 ≤ c then (some M) else (if M 6 (arT j) ≤ M 6 (arF j) + c then (some M) else (some (wr (wr M 6 (arT j) (M 6 (arF j) + c)) 10 (arT j) (j : Int)))))) = some M1 → (c < 1000000000 → inR (M 6 (arF j) + c)) → fX6_oneWay_L49 n M1 x1 x2 x3 ((j : Int) + 1) = some r → fX6_oneWay_L49 (n + 1) M x1 x2 x3 (j : Int) = some r := by
      intro c M1 r h1 hc h2 h3 h4
      rw [fX6_oneWay_L49]
      have dv : (j : Int) / 2 = ((j / 2 : Nat) : Int) := by omega
      rw [dv]
      refine w_gdR (by omega) (by omega) (w_f (by omega) (w_gd ⟨by omega, by omega⟩ (w_gd ⟨by omega, by omega⟩ (w_gdR (by omega) (by omega) (w_bind (t := (arF j : Int)) ?_ (w_gd ⟨by omega, by omega⟩ (w_bind (t := (arT j : Int)) ?_ (w_gd ⟨by omega, by omega⟩ (w_bind (t := if j % 2 = 0 then 1 else 0) ?_ (w_bind h1 (w_gdB (by omega) (by omega) ?_)))))))))))
      · unfold arF
        by_cases q : j % 2 = 0
        · rw [if_pos q]; exact w_t (by omega) (w_bind (m_first M he) rfl)
        · rw [if_neg q]; exact w_f (by omega) (w_bind (m_second M he) rfl)
      · unfold arT
        by_cases q : j % 2 = 0
        · rw [if_pos q]; exact w_t (by omega) (w_bind (m_second M he) rfl)
        · rw [if_neg q]; exact w_f (by omega) (w_bind (m_first M he) rfl)
      · by_cases q : j % 2 = 0
        · rw [if_pos q]; exact w_t (by omega) rfl
        · rw [if_neg q]; exact w_f (by omega) rfl
      · rw [Int.toNat_natCast, Int.toNat_natCast]
        refine w_gdR (by omega) (by omega) (w_bind (t := M1) ?_ (by exact h4))
        by_cases q1 : 1000000000 ≤ M 6 (arF j)
        · rw [if_pos q1] at h2 ⊢; exact h2
        · rw [if_neg q1] at h2 ⊢
          refine w_gd hc ?_
          by_cases q2 : 1000000000 ≤ c
          · rw [if_pos q2] at h2 ⊢; exact h2
          · rw [if_neg q2] at h2 ⊢
            refine w_gdB (by omega) (by omega) (w_gdB (by omega) (by omega) (w_gd (h3 (by omega)) (w_gdR (by omega) (by omega) ?_)))
            by_cases q3 : M 6 (arT j) ≤ M 6 (arF j) + c
            · rw [if_pos q3] at h2 ⊢; exact h2
            · rw [if_neg q3] at h2 ⊢
              exact w_gdB (by omega) (by omega) (w_gdB (by omega) (by omega) (w_gdB (by omega) (by omega) h2))
    have stay : ∀ c : Int, fX6_stepCost M ((j / 2 : Nat) : Int) (if j % 2 = 0 then 1 else 0) = some c → inR c → (c < 1000000000 → inR (M 6 (arF j) + c)) → (if 1000000000 ≤ M 6 (arF j) then (some M) else (if 1000000000 ≤ c then (some M) else (if M 6 (arT j) ≤ M 6 (arF j) + c then (some M) else (some (wr (wr M 6 (arT j) (M 6 (arF j) + c)) 10 (arT j) (j : Int)))))) = some M → (alA (Ms 9) j → M 6 (arF j) ≠ 1000000000 → M 6 (arT j) ≤ M 6 (arF j) + rcL (coM Ms) (Ms 9) (j / 2)) → ∃ M', fX6_oneWay_L49 (n + 1) M x1 x2 x3 (j : Int) = some M' ∧ (∀ a, a ≠ 6 → a ≠ 10 → M' a = Ms a) ∧ OwI (coM Ms) (Ms 9) ρ s M' (now + (m + 1)) ∧ DPs (coM Ms) (Ms 9) 1000000000 (fun _ => True) (Ms 6) (M' 6) := by
      intro c h1 h2 h3 h4 h5
      obtain ⟨M', g1, g2, g3, g4⟩ := ih (j + 1) n M (now + 1) (by omega) (by omega) ha hB hI.next (hD.step hB hj (fun _ _ => Int.le_refl _) h5 (fun i hi => by omega))
      rw [show ((j + 1 : Nat) : Int) = (j : Int) + 1 by omega] at g1
      exact ⟨M', front c M _ h1 h2 h4 h3 g1, g2, by rw [show now + (m + 1) = now + 1 + m by omega]; exact g3, g4⟩
    by_cases al : alA (Ms 9) j
    · have s1 := sc.1 al
      have inc : inR (rcL (coM Ms) (Ms 9) (j / 2)) := ⟨by omega, by omega⟩
      have ins : rcL (coM Ms) (Ms 9) (j / 2) < 1000000000 → inR (M 6 (arF j) + rcL (coM Ms) (Ms 9) (j / 2)) := fun _ => ⟨by omega, by omega⟩
      by_cases q1 : 1000000000 ≤ M 6 (arF j)
      · exact stay _ s1 inc ins (w_t q1 rfl) (fun _ z => by omega)
      · by_cases q3 : M 6 (arT j) ≤ M 6 (arF j) + rcL (coM Ms) (Ms 9) (j / 2)
        · exact stay _ s1 inc ins (w_f q1 (w_f (by omega) (w_t q3 rfl))) (fun _ _ => q3)
        · obtain ⟨hI2, ns⟩ := hI.mark hs hρ (hρ0 s hs) hj al (by omega)
          have r6 : wr (wr M 6 (arT j) (M 6 (arF j) + rcL (coM Ms) (Ms 9) (j / 2))) 10 (arT j) (j : Int) 6 = put (M 6) (arT j) (M 6 (arF j) + rcL (coM Ms) (Ms 9) (j / 2)) := by rw [wr_row _ _ (by decide), wr_put]
          obtain ⟨M', g1, g2, g3, g4⟩ := ih (j + 1) n _ (now + 1) (by omega) (by omega) (fun a h6 h10 => by rw [wr_row _ _ h10, wr_row _ _ h6, ha a h6 h10]) hB hI2 (hD.step hB hj (fun v hv => by
            rw [r6]
            by_cases y : v = arT j
            · rw [y, put_at]; omega
            · rw [put_ne y]; exact Int.le_refl _) (fun _ _ => by rw [r6, put_at]; exact Int.le_refl _) (fun i hi => by omega))
          rw [show ((j + 1 : Nat) : Int) = (j : Int) + 1 by omega] at g1
          exact ⟨M', front _ _ _ s1 inc (w_f q1 (w_f (by omega) (w_f q3 rfl))) ins g1, g2, by rw [show now + (m + 1) = now + 1 + m by omega]; exact g3, g4⟩
    · refine stay 1000000000 (sc.2 al) ⟨by decide, by decide⟩ (fun z => absurd z (by decide)) ?_ (fun z => absurd z al)
      by_cases q1 : 1000000000 ≤ M 6 (arF j)
      · exact w_t q1 rfl
      · exact w_f q1 (w_t (by decide) rfl)
theorem owR_L {M0 : Mem} (hm : MR M0) (hu : uni (M0 9)) {s : Nat} (hs : s < 36) {ρ : Nat → Int} (hρ : Dsd (coM M0) (M0 9) s ρ) (hρ0 : ∀ v, v < 36 → 0 ≤ ρ v ∧ ρ v ≤ 2124) (x1 x2 : Int) : ∀ (m k n : Nat) (M : Mem), k + m = 36 → m < n → (∀ a, a ≠ 6 → a ≠ 10 → M a = M0 a) → OwI (coM M0) (M0 9) ρ s M (1 + 120 * k) → ((k : Int) ≤ nFin (M 6) ρ ∨ ∀ v, v < 36 → M 6 v = ρ v) →
    ∃ M', fX6_oneWay_L40 n M x1 x2 (k : Int) = some M' ∧ (∀ a, a ≠ 6 → a ≠ 10 → M' a = M0 a) ∧ OwI (coM M0) (M0 9) ρ s M' 4321 ∧ ∀ v, v < 36 → M' 6 v = ρ v := by
  intro m
  induction m with
  | zero =>
    intro k n M h hn ha hI hN
    obtain ⟨n, rfl⟩ : ∃ k, n = k + 1 := ⟨n - 1, by omega⟩
    have e : 1 + 120 * k = 4321 := by omega
    rw [e] at hI
    refine ⟨M, ?_, ha, hI, ?_⟩
    · rw [fX6_oneWay_L40]
      exact w_gdR (by omega) (by omega) (w_t (by omega) rfl)
    · rcases hN with q | q
      · exact nFin_full (by omega)
      · exact q
  | succ m ih =>
    intro k n M h hn ha hI hN
    obtain ⟨n, rfl⟩ : ∃ k, n = k + 1 := ⟨n - 1, by omega⟩
    have ec : coM M = coM M0 := coM_of (ha 0 (by decide) (by decide)) (ha 1 (by decide) (by decide))
    have e9 : M 9 = M0 9 := ha 9 (by decide) (by decide)
    have hmM : MR M := by
      unfold MR at hm ⊢
      rw [ha 0 (by decide) (by decide), ha 1 (by decide) (by decide)]
      exact hm
    obtain ⟨M1, g1, g2, g3, g4⟩ := owP_L (Ms := M) hmM (by rw [e9]; exact hu) hs (ρ := ρ) (by rw [ec, e9]; exact hρ) (fun v hv => (hρ0 v hv).1) x1 x2 (k : Int) 120 0 FU M (1 + 120 * k) (by omega) (by have := FU_big; omega) (fun _ _ _ => rfl) hI.2.1 (by rw [ec, e9]; exact hI) ⟨fun _ _ => Int.le_refl _, fun i _ hi => absurd hi (by omega)⟩
    rw [ec, e9] at g3 g4
    have ρs : ρ s = 0 := by have := hρ.2.1; have := (hρ0 s hs).1; omega
    obtain ⟨M', k1, k2⟩ := ih (k + 1) n M1 (by omega) (by omega) (fun a h6 h10 => by rw [g2 a h6 h10, ha a h6 h10]) (by rw [show 1 + 120 * (k + 1) = 1 + 120 * k + 120 by omega]; exact g3) (by
      by_cases d : ∃ v, v < 36 ∧ M 6 v ≠ ρ v
      · left
        have p1 := dpass_more hs hρ (B := 1000000000) (fun v hv => by have := (hρ0 v hv).2; omega) ρs hI.1 g3.1 hI.2.2.1 g4 d
        rcases hN with q | q
        · omega
        · obtain ⟨v, v1, v2⟩ := d
          exact absurd (q v v1) v2
      · right
        intro v hv
        have e : M 6 v = ρ v := Classical.byContradiction fun q => d ⟨v, hv, q⟩
        have u1 := g4.1 v hv
        have u2 := g3.1 v hv
        omega)
    refine ⟨M', ?_, k2⟩
    rw [fX6_oneWay_L40]
    refine w_gdR (by omega) (by omega) (w_f (by omega) (w_bind g1 ?_))
    rw [show (k : Int) + 1 = ((k + 1 : Nat) : Int) by omega]
    exact k1
theorem owI_L {M0 : Mem} {s : Nat} (hs : s < 36) (x2 : Int) : ∀ (m k n : Nat) (M : Mem), k + m = 36 → m < n → (∀ a, a ≠ 6 → a ≠ 10 → M a = M0 a) → (∀ v, v < k → M 6 v = stR s 1000000000 v) →
    ∃ M', fX6_oneWay_L2 n M (s : Int) x2 (k : Int) = some M' ∧ (∀ a, a ≠ 6 → a ≠ 10 → M' a = M0 a) ∧ ∀ v, v < 36 → M' 6 v = stR s 1000000000 v := by
  intro m
  induction m with
  | zero =>
    intro k n M h hn ha hk
    obtain ⟨n, rfl⟩ : ∃ k, n = k + 1 := ⟨n - 1, by omega⟩
    refine ⟨M, ?_, ha, fun v hv => hk v (by omega)⟩
    rw [fX6_oneWay_L2]
    exact w_gdR (by omega) (by omega) (w_t (by omega) rfl)
  | succ m ih =>
    intro k n M h hn ha hk
    obtain ⟨n, rfl⟩ : ∃ k, n = k + 1 := ⟨n - 1, by omega⟩
    have r6 : wr (wr M 6 k (stR s 1000000000 k)) 10 k (-1) 6 = put (M 6) k (stR s 1000000000 k) := by rw [wr_row _ _ (by decide), wr_put]
    obtain ⟨M', g1, g2⟩ := ih (k + 1) n (wr (wr M 6 k (stR s 1000000000 k)) 10 k (-1)) (by omega) (by omega) (fun a h6 h10 => by rw [wr_row _ _ h10, wr_row _ _ h6, ha a h6 h10]) (fun v hv => by
      rw [r6]
      by_cases q : v = k
      · rw [q, put_at]
      · rw [put_ne q]; exact hk v (by omega))
    refine ⟨M', ?_, g2⟩
    rw [fX6_oneWay_L2]
    refine w_gdR (by omega) (by omega) (w_f (by omega) (w_gdR (by omega) (by omega) (w_bind (t := stR s 1000000000 k) ?_ (w_gdB (by omega) (by omega) (w_gdB (by omega) (by omega) ?_)))))
    · unfold stR
      by_cases q : k = s
      · rw [if_pos q]; exact w_t (by omega) rfl
      · rw [if_neg q]; exact w_f (by omega) rfl
    · rw [Int.toNat_natCast, show (k : Int) + 1 = ((k + 1 : Nat) : Int) by omega]
      exact g1
theorem cst_put (p f : Nat → Int) {e : Nat} (he : e < 60) (x : Int) : cst p (put f e x) = cst p f + (p e * ab x - p e * ab (f e)) := by
  unfold cst
  rw [ss_upd (f := fun i => p i * ab (put f e x i)) (g := fun i => p i * ab (f i)) (k := e) 60 0 (Nat.zero_le _) (by omega) (fun i hi0 => by rw [put_ne hi0]), put_at]
theorem cst_congr {p p2 f f2 : Nat → Int} (hp : ∀ e, e < 60 → p e = p2 e) (hf : ∀ e, e < 60 → f e = f2 e) : cst p f = cst p2 f2 := by
  unfold cst
  exact ss_congr 60 0 (fun e _ he => by rw [hp e (by omega), hf e (by omega)])
theorem owF_L {M0 : Mem} {p ρ : Nat → Int} {s en : Nat} {rk : Nat → Nat} {F : Nat} (hs : s < 36) (hu : uni (M0 9)) (hpt : ∀ v, v < 36 → v ≠ s → ∃ j : Nat, j < 120 ∧ M0 10 v = (j : Int) ∧ v = arT j ∧ alA (M0 9) j ∧ ρ v = ρ (arF j) + rcL p (M0 9) (j / 2)) (hR : RkI (fun _ => 1) (M0 9) (fun v => if v = s then 1 else 0) (fun _ => 1) (ed10 M0) (fun v => v = s) rk F) (x2 : Int) : ∀ (m n : Nat) (M : Mem) (cur : Nat), rk cur ≤ m → m < n → (∀ b, b ≠ 9 → M b = M0 b) → PuI (fun _ => 1) (M0 9) (fun _ => 1) (ed10 M0) (fun v => v = s) rk 1 en cur (M 9) → cst p (M 9) = cst p (M0 9) + ρ en - ρ cur →
    ∃ M', fX6_oneWay_L205 n M (s : Int) x2 (cur : Int) = some M' ∧ (∀ b, b ≠ 9 → M' b = M0 b) ∧ PuI (fun _ => 1) (M0 9) (fun _ => 1) (ed10 M0) (fun v => v = s) rk 1 en s (M' 9) ∧ cst p (M' 9) = cst p (M0 9) + ρ en - ρ s := by
  intro m
  have stop : ∀ (n : Nat) (M : Mem) (cur : Nat), (∀ b, b ≠ 9 → M b = M0 b) → PuI (fun _ => 1) (M0 9) (fun _ => 1) (ed10 M0) (fun v => v = s) rk 1 en cur (M 9) → cst p (M 9) = cst p (M0 9) + ρ en - ρ cur → cur = s → ∃ M', fX6_oneWay_L205 (n + 1) M (s : Int) x2 (cur : Int) = some M' ∧ (∀ b, b ≠ 9 → M' b = M0 b) ∧ PuI (fun _ => 1) (M0 9) (fun _ => 1) (ed10 M0) (fun v => v = s) rk 1 en s (M' 9) ∧ cst p (M' 9) = cst p (M0 9) + ρ en - ρ s := by
    intro n M cur hb hP hc e
    subst e
    refine ⟨M, ?_, hb, hP, hc⟩
    rw [fX6_oneWay_L205]
    exact w_gdR (by omega) (by omega) (w_gdR (by omega) (by omega) (w_t rfl rfl))
  induction m with
  | zero =>
    intro n M cur h hn hb hP hc
    obtain ⟨n, rfl⟩ : ∃ k, n = k + 1 := ⟨n - 1, by omega⟩
    by_cases c : cur = s
    · exact stop n M cur hb hP hc c
    · obtain ⟨_, z⟩ := hR cur hP.2.2.2.1 rfl
      rcases z with z | z
      · exact absurd z.1 c
      · have := z.2.2.2.2.1
        omega
  | succ m ih =>
    intro n M cur h hn hb hP hc
    obtain ⟨n, rfl⟩ : ∃ k, n = k + 1 := ⟨n - 1, by omega⟩
    by_cases c : cur = s
    · exact stop n M cur hb hP hc c
    · have p4 := hP.2.2.2.1
      obtain ⟨_, z⟩ := hR cur p4 rfl
      obtain ⟨_, c1, c2, c3, c4, c5⟩ := z.resolve_left (fun y => c y.1)
      obtain ⟨j, hj, j1, j2, j3, j4⟩ := hpt cur p4 c
      obtain ⟨f1, f2, f3, f4, f5⟩ := ar_lt hj
      have he : j / 2 < 60 := by omega
      have hne := lo_hi he
      have dv : ed10 M0 cur = j / 2 := by
        unfold ed10
        rw [j1]; omega
      have nx : oth (ed10 M0 cur) cur = arF j := by rw [dv, j2, f4]
      have fe : M 9 (j / 2) = M0 9 (j / 2) := by
        have := hP.2.2.1 cur p4 rfl (Nat.le_refl _) c
        rw [dv] at this
        exact this
      have hP2 := hP.step hR (by decide) c (by omega) (f2 := wr M 9 (j / 2) (M 9 (j / 2) + (if j % 2 = 0 then 1 else -1)) 9) (fun e _ => by
        rw [wr_put, nx, dv]
        unfold arF
        by_cases q : j % 2 = 0
        · rw [if_pos q, if_pos q, if_pos rfl]
        · rw [if_neg q, if_neg q, if_neg (by omega)])
      rw [nx] at hP2 c4
      have hc2 : cst p (wr M 9 (j / 2) (M 9 (j / 2) + (if j % 2 = 0 then 1 else -1)) 9) = cst p (M0 9) + ρ en - ρ (arF j) := by
        rw [wr_put, cst_put p _ he, hc, j4, fe]
        have m1 : ab (-1) = 1 := rfl
        have m0 : ab 0 = 0 := rfl
        have m2 : ab 1 = 1 := rfl
        unfold rcL
        unfold alA at j3
        by_cases q : j % 2 = 0
        · rw [if_pos q] at j3 ⊢
          rcases hu _ he with y | y | y
          · rw [y, show (-1 : Int) + 1 = 0 by decide, if_neg (by decide), m1, m0]; omega
          · rw [y, show (0 : Int) + 1 = 1 by decide, if_pos rfl, m2, m0]; omega
          · omega
        · rw [if_neg q] at j3 ⊢
          rcases hu _ he with y | y | y
          · omega
          · rw [y, show (0 : Int) + -1 = -1 by decide, if_pos rfl, m1, m0]; omega
          · rw [y, show (1 : Int) + -1 = 0 by decide, if_neg (by decide), m2, m0]; omega
      obtain ⟨M', g1, g2⟩ := ih n _ (arF j) (by omega) (by omega) (fun b hb1 => (wr_row M _ hb1).trans (hb b hb1)) hP2 hc2
      refine ⟨M', ?_, g2⟩
      rw [fX6_oneWay_L205]
      have dv2 : (j : Int) / 2 = ((j / 2 : Nat) : Int) := by omega
      refine w_gdR (by omega) (by omega) (w_gdR (by omega) (by omega) (w_f (by omega) (w_gdB (by omega) (by omega) ?_)))
      rw [Int.toNat_natCast, hb 10 (by decide), j1, dv2, Int.toNat_natCast]
      refine w_gd ⟨by omega, by omega⟩ (w_gdB (by omega) (by omega) (w_gd ⟨by omega, by omega⟩ (w_gdR (by omega) (by omega) (w_bind (t := if j % 2 = 0 then 1 else -1) ?_ (w_gdB (by omega) (by omega) (w_gd ⟨by omega, by omega⟩ (w_bind (t := (arF j : Int)) ?_ g1)))))))
      · by_cases q : j % 2 = 0
        · rw [if_pos q]; exact w_t (by omega) rfl
        · rw [if_neg q]; exact w_f (by omega) rfl
      · unfold arF
        by_cases q : j % 2 = 0
        · rw [if_pos q, if_pos q]; exact w_t (by omega) (w_gd ⟨by omega, by omega⟩ (w_bind (m_first _ he) rfl))
        · rw [if_neg q, if_neg q]; exact w_f (by omega) (w_gd ⟨by omega, by omega⟩ (w_bind (m_second _ he) rfl))
/-- one more way: its cost is the distance over what is left, and the flow grows by it -/
theorem owM {M : Mem} {s t : Nat} (hm : MR M) (hu : uni (M 9)) (hs : s < 36) (ht : t < 36) {π ρ : Nat → Int} (hπ : Pot (coM M) (M 9) s π) (hρ : Dsd (coM M) (M 9) s ρ) (hlow : LE36 π ρ) (hup : ∀ v, v < 36 → ρ v ≤ 2124) : ∃ M', fX6_oneWay M (s : Int) (t : Int) = some (ρ t, M') ∧ (∀ a, a ≠ 6 → a ≠ 9 → a ≠ 10 → M' a = M a) ∧ uni (M' 9) ∧ (∀ v, v < 36 → outF (M' 9) v = outF (M 9) v + (if v = s then 1 else 0) - (if v = t then 1 else 0)) ∧ cst (coM M) (M' 9) = cst (coM M) (M 9) + ρ t := by
  have hρ0 : ∀ v, v < 36 → 0 ≤ ρ v ∧ ρ v ≤ 2124 := fun v hv => ⟨by have := hlow v hv; have := (hπ.2.2 v hv).1; omega, hup v hv⟩
  have ρs : ρ s = 0 := by have := hρ.2.1; have := (hρ0 s hs).1; omega
  obtain ⟨M1, a1, a2, a3⟩ := owI_L (M0 := M) hs (t : Int) 36 0 FU M (by omega) (by have := FU_big; omega) (fun _ _ _ => rfl) (fun v hv => absurd hv (by omega))
  have ec1 : coM M1 = coM M := coM_of (a2 0 (by decide) (by decide)) (a2 1 (by decide) (by decide))
  have e91 : M1 9 = M 9 := a2 9 (by decide) (by decide)
  have hm1 : MR M1 := by
    unfold MR at hm ⊢
    rw [a2 0 (by decide) (by decide), a2 1 (by decide) (by decide)]
    exact hm
  have hI1 : OwI (coM M1) (M1 9) ρ s M1 (1 + 120 * 0) := by
    refine ⟨fun v hv => ?_, fun v hv => ?_, ?_, fun _ => 0, fun v _ => by show 0 < 1; omega, fun v hv hvs => Or.inl ?_⟩
    · rw [a3 v hv]
      unfold stR
      have := hρ0 v hv
      by_cases q : v = s
      · rw [if_pos q, q, ρs]; exact Int.le_refl _
      · rw [if_neg q]; omega
    · rw [a3 v hv]; unfold stR; split <;> decide
    · rw [a3 s hs]; unfold stR; exact if_pos rfl
    · rw [a3 v hv]; unfold stR; exact if_neg hvs
  have n0 : 0 ≤ nFin (M1 6) ρ := ss_nn 36 0 (fun i _ _ => by show 0 ≤ (if M1 6 i = ρ i then (1 : Int) else 0); split <;> decide)
  obtain ⟨M2, b1, b2, b3, b4⟩ := owR_L (M0 := M1) hm1 (by rw [e91]; exact hu) hs (by rw [ec1, e91]; exact hρ) hρ0 (s : Int) (t : Int) 36 0 FU M1 (by omega) (by have := FU_big; omega) (fun _ _ _ => rfl) hI1 (Or.inl n0)
  rw [ec1, e91] at b3
  have e92 : M2 9 = M 9 := (b2 9 (by decide) (by decide)).trans e91
  obtain ⟨_, _, _, τ, t1, t2⟩ := b3
  have ptr : ∀ v, v < 36 → v ≠ s → ∃ j : Nat, j < 120 ∧ M2 10 v = (j : Int) ∧ v = arT j ∧ alA (M 9) j ∧ ρ v = ρ (arF j) + rcL (coM M) (M 9) (j / 2) ∧ τ (arF j) < τ v := by
    intro v hv hvs
    rcases t2 v hv hvs with q | ⟨j, j1, j2, j3, j4, j5⟩
    · rw [b4 v hv] at q
      have := (hρ0 v hv).2
      omega
    · have cl := hρ.1 j j1 j4
      rw [← j3] at cl
      rw [b4 v hv, b4 _ (ar_lt j1).1] at j5
      rcases j5 with ⟨y1, y2⟩ | y
      · exact ⟨j, j1, j2, j3, j4, by omega, y1⟩
      · omega
  have hR : RkI (fun _ => 1) (M2 9) (fun v => if v = s then 1 else 0) (fun _ => 1) (ed10 M2) (fun v => v = s) τ 4321 := by
    intro v hv _
    refine ⟨t1 v hv, ?_⟩
    by_cases c : v = s
    · exact Or.inl ⟨c, if_pos c⟩
    · right
      obtain ⟨j, j1, j2, j3, j4, j5, j6⟩ := ptr v hv c
      obtain ⟨f1, f2, f3, f4, f5⟩ := ar_lt j1
      have he : j / 2 < 60 := by omega
      have hne := lo_hi he
      have dv : ed10 M2 v = j / 2 := by
        unfold ed10
        rw [j2]; omega
      have nx : oth (j / 2) v = arF j := by rw [j3, f4]
      rw [dv, nx]
      refine ⟨c, he, by rw [j3]; exact f5, rfl, j6, ?_⟩
      rw [e92]
      unfold lft arF
      show 0 < (1 : Int) + (if (if j % 2 = 0 then lo (j / 2) else hi (j / 2)) = lo (j / 2) then -(M 9 (j / 2)) else M 9 (j / 2))
      unfold alA at j4
      by_cases q : j % 2 = 0
      · rw [if_pos q] at j4 ⊢
        rw [if_pos rfl]; omega
      · rw [if_neg q] at j4 ⊢
        rw [if_neg (by omega)]; omega
  have hu1 : ∀ e, e < 60 → -((fun _ => (1 : Int)) e) ≤ M2 9 e ∧ M2 9 e ≤ (fun _ => (1 : Int)) e := fun e he => by
    rw [e92]
    show -(1 : Int) ≤ M 9 e ∧ M 9 e ≤ 1
    rcases hu e he with y | y | y <;> omega
  obtain ⟨M3, g1, g2, g3, g4⟩ := owF_L (M0 := M2) (p := coM M) (ρ := ρ) (en := t) hs (by rw [e92]; exact hu) (fun v hv hvs => by
    obtain ⟨j, j1, j2, j3, j4, j5, _⟩ := ptr v hv hvs
    exact ⟨j, j1, j2, j3, by rw [e92]; exact j4, by rw [e92]; exact j5⟩) hR (t : Int) (τ t) FU M2 t (Nat.le_refl _) (by have := t1 t ht; have := FU_big; omega) (fun _ _ => rfl) (PuI.start hu1 ht rfl) (by omega)
  rw [e92] at g3 g4
  refine ⟨M3, ?_, fun a h6 h9 h10 => by rw [g2 a h9, b2 a h6 h10, a2 a h6 h10], fun e he => ?_, fun v hv => g3.2.1 v hv, by rw [g4, ρs]; omega⟩
  · unfold fX6_oneWay
    refine w_bind a1 (w_bind b1 (w_bind g1 (w_gdB (by omega) (by omega) ?_)))
    rw [Int.toNat_natCast, g2 6 (by decide), b4 t ht]
  · have := g3.1 e he
    have this : -(1 : Int) ≤ M3 9 e ∧ M3 9 e ≤ 1 := this
    omega
