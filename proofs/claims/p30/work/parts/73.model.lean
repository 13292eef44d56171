/-! the reference's greatest flow -/
def ed10 (M : Mem) (v : Nat) : Nat := (M 10 v / 2).toNat
def rt10 (M : Mem) (v : Nat) : Prop := M 10 v = -1
def arF (k : Nat) : Nat := if k % 2 = 0 then lo (k / 2) else hi (k / 2)
def arT (k : Nat) : Nat := if k % 2 = 0 then hi (k / 2) else lo (k / 2)
theorem ar_lt {k : Nat} (h : k < 120) : arF k < 36 ∧ arT k < 36 ∧ arF k ≠ arT k ∧ oth (k / 2) (arT k) = arF k ∧ (lo (k / 2) = arT k ∨ hi (k / 2) = arT k) := by
  have he : k / 2 < 60 := by omega
  have hl := lo_lt he
  have hh := hi_lt he
  have hne := lo_hi he
  unfold arF arT
  by_cases q : k % 2 = 0
  · rw [if_pos q, if_pos q]
    refine ⟨hl, hh, by omega, ?_, Or.inr rfl⟩
    unfold oth
    exact if_neg (by omega)
  · rw [if_neg q, if_neg q]
    refine ⟨hh, hl, by omega, ?_, Or.inl rfl⟩
    unfold oth
    exact if_pos rfl
def ReI (k : Int) (M : Mem) (F : Nat) : Prop :=
  (∀ v, v < 36 → M 10 v = -1 ∨ (0 ≤ M 10 v ∧ M 10 v < 120 ∧ v = arT (M 10 v).toNat)) ∧ Gro (M 3) (coM M) (M 9) k (M 11) (ed10 M) (rt10 M) F
/-- what is left along an arc, by the kind of the search -/
def arL (k : Int) (M : Mem) (j : Nat) : Int := if k = 1 then lft (coM M) (M 9) (j / 2) (arF j) else lft (coM M) (M 9) (j / 2) (arT j)
def ArC (k : Int) (M : Mem) (j : Nat) : Prop := M 11 (arF j) = 1 → 0 < arL k M j → M 11 (arT j) = 1
theorem restM (M : Mem) {j : Nat} (hj : j < 120) {k x2 : Int} (hk : (k = 1 ∧ x2 = 1) ∨ (k = 2 ∧ x2 = 0)) : fX6_rest M ((j / 2 : Nat) : Int) (if (if j % 2 = 0 then (1 : Int) else 0) = x2 then 1 else 0) = some (arL k M j) := by
  have he : j / 2 < 60 := by omega
  have hne := lo_hi he
  unfold fX6_rest arL lft arF arT
  have cst := m_cost M he
  have y1 : ∀ x : Int, x = coM M (j / 2) - M 9 (j / 2) → (gd (inR (1 : Int)) (Option.bind (if (1 : Int) = 0 then (Option.bind (fX6_costOfEdge M ((j / 2 : Nat) : Int)) (fun t3 => gd (inB ((j / 2 : Nat) : Int) 60) (some (t3 + (M 9 ((j / 2 : Nat) : Int).toNat))))) else (Option.bind (fX6_costOfEdge M ((j / 2 : Nat) : Int)) (fun t6 => gd (inB ((j / 2 : Nat) : Int) 60) (some (t6 - (M 9 ((j / 2 : Nat) : Int).toNat)))))) (fun t9 => some (t9)))) = some x := by
    intro x hx
    refine w_gd R1 (w_bind (w_f N1 (w_bind cst (w_gdB (by omega) (by omega) rfl))) ?_)
    rw [Int.toNat_natCast, hx]
  have y0 : ∀ x : Int, x = coM M (j / 2) + M 9 (j / 2) → (gd (inR (0 : Int)) (Option.bind (if (0 : Int) = 0 then (Option.bind (fX6_costOfEdge M ((j / 2 : Nat) : Int)) (fun t3 => gd (inB ((j / 2 : Nat) : Int) 60) (some (t3 + (M 9 ((j / 2 : Nat) : Int).toNat))))) else (Option.bind (fX6_costOfEdge M ((j / 2 : Nat) : Int)) (fun t6 => gd (inB ((j / 2 : Nat) : Int) 60) (some (t6 - (M 9 ((j / 2 : Nat) : Int).toNat)))))) (fun t9 => some (t9)))) = some x := by
    intro x hx
    refine w_gd R0 (w_bind (w_t rfl (w_bind cst (w_gdB (by omega) (by omega) rfl))) ?_)
    rw [Int.toNat_natCast, hx]
  have nh : ¬ hi (j / 2) = lo (j / 2) := by omega
  rcases hk with ⟨rfl, rfl⟩ | ⟨rfl, rfl⟩
  · by_cases q : j % 2 = 0
    · rw [if_pos q, if_pos q, if_pos rfl, if_pos rfl, if_pos rfl]
      exact y1 _ (by omega)
    · rw [if_neg q, if_neg q, if_neg (show ¬ (0 : Int) = 1 by decide), if_pos rfl, if_neg nh]
      exact y0 _ rfl
  · by_cases q : j % 2 = 0
    · rw [if_pos q, if_pos q, if_neg N1, if_neg (show ¬ (2 : Int) = 1 by decide), if_pos q, if_neg nh]
      exact y0 _ rfl
    · rw [if_neg q, if_neg q, if_pos rfl, if_neg (show ¬ (2 : Int) = 1 by decide), if_neg q, if_pos rfl]
      exact y1 _ (by omega)
theorem ReI.mark {k : Int} (hk : k = 1 ∨ k = 2) {M : Mem} {F : Nat} (h : ReI k M F) {j : Nat} (hj : j < 120) (h1 : M 11 (arF j) = 1) (h0 : M 11 (arT j) = 0) (hl : 0 < arL k M j) : ReI k (wr (wr M 11 (arT j) 1) 10 (arT j) (j : Int)) (F + 1) := by
  obtain ⟨f1, f2, f3, f4, f5⟩ := ar_lt hj
  have he : j / 2 < 60 := by omega
  have r10 : wr (wr M 11 (arT j) 1) 10 (arT j) (j : Int) 10 = put (M 10) (arT j) (j : Int) := by rw [wr_put, wr_row _ _ (by decide)]
  have r11 : wr (wr M 11 (arT j) 1) 10 (arT j) (j : Int) 11 = put (M 11) (arT j) 1 := by rw [wr_row _ _ (by decide), wr_put]
  have rr : ∀ a, a ≠ 10 → a ≠ 11 → wr (wr M 11 (arT j) 1) 10 (arT j) (j : Int) a = M a := fun a q1 q2 => by rw [wr_row _ _ q1, wr_row _ _ q2]
  have ec : coM (wr (wr M 11 (arT j) 1) 10 (arT j) (j : Int)) = coM M := by
    funext e
    unfold coM
    rw [rr 0 (by decide) (by decide), rr 1 (by decide) (by decide)]
  refine ⟨fun v hv => ?_, ?_⟩
  · rw [r10]
    by_cases q : v = arT j
    · rw [q, put_at]
      exact Or.inr ⟨by omega, by omega, by rw [Int.toNat_natCast]⟩
    · rw [put_ne q]; exact h.1 v hv
  · rw [rr 3 (by decide) (by decide), rr 9 (by decide) (by decide), ec, r11]
    have div : (ed10 (wr (wr M 11 (arT j) 1) 10 (arT j) (j : Int)) (arT j)) = j / 2 := by
      unfold ed10
      rw [r10, put_at]; omega
    refine h.2.add hk f2 h0 he f5 (by rw [f4]; exact h1) ?_ (fun v _ => rfl) div ?_ (fun v _ q => ?_) (fun v _ q => ?_)
    · rw [f4]; exact hl
    · unfold rt10
      rw [r10, put_at]; omega
    · unfold ed10
      rw [r10, put_ne q]
    · unfold rt10
      rw [r10, put_ne q]
theorem reP_L {k x2 : Int} (hk : (k = 1 ∧ x2 = 1) ∨ (k = 2 ∧ x2 = 0)) {Ms : Mem} {Fs : Nat} (hm : MR Ms) (hfb : ∀ e, e < 60 → -(coM Ms e) ≤ Ms 9 e ∧ Ms 9 e ≤ coM Ms e) : ∀ (m j n : Nat) (M : Mem) (F : Nat) (x3 : Int), j + m = 120 → m < n → (∀ a, a ≠ 10 → a ≠ 11 → M a = Ms a) → ReI k M F → ((x3 = 0 ∧ M = Ms ∧ F = Fs ∧ ∀ i, i < j → ArC k Ms i) ∨ (x3 = 1 ∧ Fs < F)) →
    ∃ (y : Int) (M' : Mem) (F' : Nat), fX6_reach_L53 n M x2 x3 (j : Int) = some (y, M') ∧ (∀ a, a ≠ 10 → a ≠ 11 → M' a = Ms a) ∧ ReI k M' F' ∧ ((y = 0 ∧ M' = Ms ∧ ∀ i, i < 120 → ArC k Ms i) ∨ (y = 1 ∧ Fs < F')) := by
  intro m
  have hk2 : k = 1 ∨ k = 2 := by rcases hk with z | z; exact Or.inl z.1; exact Or.inr z.1
  induction m with
  | zero =>
    intro j n M F x3 h hn ha hI hx
    obtain ⟨n, rfl⟩ : ∃ k, n = k + 1 := ⟨n - 1, by omega⟩
    refine ⟨x3, M, F, ?_, ha, hI, ?_⟩
    · rw [fX6_reach_L53]
      exact w_gdR (by omega) (by omega) (w_t (by omega) rfl)
    · rcases hx with ⟨q1, q2, q4, q3⟩ | q
      · exact Or.inl ⟨q1, q2, fun i hi => q3 i (by omega)⟩
      · exact Or.inr q
  | succ m ih =>
    intro j n M F x3 h hn ha hI hx
    obtain ⟨n, rfl⟩ : ∃ k, n = k + 1 := ⟨n - 1, by omega⟩
    have hj : j < 120 := by omega
    have he : j / 2 < 60 := by omega
    obtain ⟨f1, f2, f3, f4, f5⟩ := ar_lt hj
    have s1 := hI.2.1 _ f1
    have s2 := hI.2.1 _ f2
    have ec : coM M = coM Ms := by
      funext e
      unfold coM
      rw [ha 0 (by decide) (by decide), ha 1 (by decide) (by decide)]
    have e9 : M 9 = Ms 9 := ha 9 (by decide) (by decide)
    have lb : -1000 ≤ arL k M j ∧ arL k M j ≤ 1000 := by
      have b := hfb _ he
      have c := coM_bd hm he
      unfold arL
      rw [ec, e9]
      have b1 := lft_bd b c (arF j)
      have b2 := lft_bd b c (arT j)
      split <;> omega
    have front : ∀ (t64 : Int) (r : Int × Mem), (if M 11 (arF j) = 0 then (some (0 : Int)) else (gd (inB (arT j : Int) 36) (gd (inR (M 11 (arT j))) (if M 11 (arT j) = 0 then (if arL k M j ≤ 0 then (some (0)) else (some (1))) else (some (0)))))) = some t64 → (t64 = 0 ∨ t64 = 1) → (fX6_reach_L53 n (if t64 = 0 then M else wr (wr M 11 (arT j) 1) 10 (arT j) (j : Int)) x2 (if t64 = 0 then x3 else 1) ((j : Int) + 1)) = some r → fX6_reach_L53 (n + 1) M x2 x3 (j : Int) = some r := by
      intro t64 r h1 h2 h3
      rw [fX6_reach_L53]
      have dv : (j : Int) / 2 = ((j / 2 : Nat) : Int) := by omega
      rw [dv]
      refine w_gdR (by omega) (by omega) (w_f (by omega) (w_gd ⟨by omega, by omega⟩ (w_gdR (by omega) (by omega) (w_bind (t := if j % 2 = 0 then (1 : Int) else 0) ?_ (w_gdR (by split <;> omega) (by split <;> omega) (w_bind (t := (arF j : Int)) ?_ (w_bind (t := (arT j : Int)) ?_ (w_gdB (by omega) (by omega) ?_))))))))
      · by_cases q : j % 2 = 0
        · rw [if_pos q]; exact w_t (by omega) rfl
        · rw [if_neg q]; exact w_f (by omega) rfl
      · unfold arF
        by_cases q : j % 2 = 0
        · rw [if_pos q, if_pos q]; exact w_f N1 (w_gd ⟨by omega, by omega⟩ (w_bind (m_first M he) rfl))
        · rw [if_neg q, if_neg q]; exact w_t rfl (w_gd ⟨by omega, by omega⟩ (w_bind (m_second M he) rfl))
      · unfold arT
        by_cases q : j % 2 = 0
        · rw [if_pos q, if_pos q]; exact w_f N1 (w_gd ⟨by omega, by omega⟩ (w_bind (m_second M he) rfl))
        · rw [if_neg q, if_neg q]; exact w_t rfl (w_gd ⟨by omega, by omega⟩ (w_bind (m_first M he) rfl))
      · rw [Int.toNat_natCast, Int.toNat_natCast]
        refine w_gdR (by omega) (by omega) (w_bind (t := t64) ?_ (w_gdR (by omega) (by omega) (w_bind (t := (if t64 = 0 then x3 else 1, if t64 = 0 then M else wr (wr M 11 (arT j) 1) 10 (arT j) (j : Int))) ?_ h3)))
        · by_cases q : M 11 (arF j) = 0
          · rw [if_pos q] at h1 ⊢; exact h1
          · rw [if_neg q] at h1 ⊢
            obtain ⟨g1, h1⟩ := gd_some h1
            obtain ⟨g2, h1⟩ := gd_some h1
            refine w_gd g1 (w_gd g2 ?_)
            by_cases q2 : M 11 (arT j) = 0
            · rw [if_pos q2] at h1 ⊢
              refine w_gd ⟨by omega, by omega⟩ (w_gdR (by omega) (by omega) (w_bind (t := if (if j % 2 = 0 then (1 : Int) else 0) = x2 then 1 else 0) ?_ (w_bind (restM M hj hk) (w_gdR (by omega) (by omega) h1))))
              by_cases q3 : (if j % 2 = 0 then (1 : Int) else 0) = x2
              · rw [if_pos q3, if_pos q3]
              · rw [if_neg q3, if_neg q3]
            · rw [if_neg q2] at h1 ⊢; exact h1
        · by_cases q : t64 = 0
          · rw [if_pos q, if_pos q, if_pos q]
          · rw [if_neg q, if_neg q, if_neg q]
            exact w_gdB (by omega) (by omega) (w_gdB (by omega) (by omega) rfl)
    have same : (∀ r, fX6_reach_L53 n M x2 x3 ((j : Int) + 1) = some r → fX6_reach_L53 (n + 1) M x2 x3 (j : Int) = some r) → (M = Ms → ArC k Ms j) → ∃ (y : Int) (M' : Mem) (F' : Nat), fX6_reach_L53 (n + 1) M x2 x3 (j : Int) = some (y, M') ∧ (∀ a, a ≠ 10 → a ≠ 11 → M' a = Ms a) ∧ ReI k M' F' ∧ ((y = 0 ∧ M' = Ms ∧ ∀ i, i < 120 → ArC k Ms i) ∨ (y = 1 ∧ Fs < F')) := by
      intro h1 h2
      obtain ⟨y, M', F', g1, g2⟩ := ih (j + 1) n M F x3 (by omega) (by omega) ha hI (by
        rcases hx with ⟨q1, q2, q4, q3⟩ | q
        · refine Or.inl ⟨q1, q2, q4, fun i hi => ?_⟩
          by_cases z : i = j
          · rw [z]; exact h2 q2
          · exact q3 i (by omega)
        · exact Or.inr q)
      rw [show ((j + 1 : Nat) : Int) = (j : Int) + 1 by omega] at g1
      exact ⟨y, M', F', h1 _ g1, g2⟩
    by_cases c1 : M 11 (arF j) = 0
    · refine same (fun r hr => front 0 r (w_t c1 rfl) (Or.inl rfl) (by rw [if_pos rfl, if_pos rfl]; exact hr)) (fun q z => ?_)
      rw [q] at c1; omega
    · by_cases c2 : M 11 (arT j) = 0
      · by_cases c3 : arL k M j ≤ 0
        · refine same (fun r hr => front 0 r (w_f c1 (w_gdB (by omega) (by omega) (w_gdR (by omega) (by omega) (w_t c2 (w_t c3 rfl))))) (Or.inl rfl) (by rw [if_pos rfl, if_pos rfl]; exact hr)) (fun q _ z => ?_)
          rw [q] at c3; omega
        · have hI2 := hI.mark hk2 hj (s1.resolve_left c1) c2 (by omega)
          obtain ⟨y, M', F', g1, g2⟩ := ih (j + 1) n _ (F + 1) 1 (by omega) (by omega) (fun a q1 q2 => by rw [wr_row _ _ q1, wr_row _ _ q2, ha a q1 q2]) hI2 (Or.inr ⟨rfl, by
            rcases hx with ⟨q1, q2, q4, q3⟩ | q
            · omega
            · omega⟩)
          rw [show ((j + 1 : Nat) : Int) = (j : Int) + 1 by omega] at g1
          exact ⟨y, M', F', front 1 _ (w_f c1 (w_gdB (by omega) (by omega) (w_gdR (by omega) (by omega) (w_t c2 (w_f c3 rfl))))) (Or.inr rfl) (by rw [if_neg N1, if_neg N1]; exact g1), g2⟩
      · refine same (fun r hr => front 0 r (w_f c1 (w_gdB (by omega) (by omega) (w_gdR (by omega) (by omega) (w_f c2 rfl)))) (Or.inl rfl) (by rw [if_pos rfl, if_pos rfl]; exact hr)) (fun q _ _ => ?_)
        rw [← q]; exact s2.resolve_left c2
theorem reW_L {k x2 : Int} (hk : (k = 1 ∧ x2 = 1) ∨ (k = 2 ∧ x2 = 0)) {M0 : Mem} (hm : MR M0) (hfb : ∀ e, e < 60 → -(coM M0 e) ≤ M0 9 e ∧ M0 9 e ≤ coM M0 e) : ∀ (N n : Nat) (M : Mem) (F : Nat), 36 - F ≤ N → N + 2 < n → (∀ a, a ≠ 10 → a ≠ 11 → M a = M0 a) → ReI k M F →
    ∃ (M' : Mem) (F' : Nat), fX6_reach_L44 n M x2 1 = some M' ∧ (∀ a, a ≠ 10 → a ≠ 11 → M' a = M0 a) ∧ ReI k M' F' ∧ ∀ i, i < 120 → ArC k M' i := by
  intro N
  induction N with
  | zero =>
    intro n M F h hn ha hI
    obtain ⟨n, rfl⟩ : ∃ k, n = k + 2 := ⟨n - 2, by omega⟩
    have ec : coM M = coM M0 := by
      funext e
      unfold coM
      rw [ha 0 (by decide) (by decide), ha 1 (by decide) (by decide)]
    have hmM : MR M := by
      unfold MR at hm ⊢
      rw [ha 0 (by decide) (by decide), ha 1 (by decide) (by decide)]
      exact hm
    obtain ⟨y, M1, F1, g1, g2, g3, g4⟩ := reP_L hk (Ms := M) (Fs := F) hmM (by rw [ec, ha 9 (by decide) (by decide)]; exact hfb) 120 0 FU M F 0 (by omega) (by have := FU_big; omega) (fun _ _ _ => rfl) hI (Or.inl ⟨rfl, rfl, rfl, fun i hi => absurd hi (by omega)⟩)
    rcases g4 with ⟨q1, q2, q3⟩ | ⟨q1, q2⟩
    · refine ⟨M1, F1, ?_, fun a h1 h2 => by rw [g2 a h1 h2, ha a h1 h2], g3, fun i hi => by rw [q2]; exact q3 i hi⟩
      rw [fX6_reach_L44]
      refine w_gdR (by omega) (by omega) (w_f N1 (w_bind g1 ?_))
      rw [fX6_reach_L44]
      exact w_gdR (by omega) (by omega) (w_t q1 rfl)
    · have := g3.2.le
      omega
  | succ N ih =>
    intro n M F h hn ha hI
    obtain ⟨n, rfl⟩ : ∃ k, n = k + 1 := ⟨n - 1, by omega⟩
    have ec : coM M = coM M0 := by
      funext e
      unfold coM
      rw [ha 0 (by decide) (by decide), ha 1 (by decide) (by decide)]
    have hmM : MR M := by
      unfold MR at hm ⊢
      rw [ha 0 (by decide) (by decide), ha 1 (by decide) (by decide)]
      exact hm
    obtain ⟨y, M1, F1, g1, g2, g3, g4⟩ := reP_L hk (Ms := M) (Fs := F) hmM (by rw [ec, ha 9 (by decide) (by decide)]; exact hfb) 120 0 FU M F 0 (by omega) (by have := FU_big; omega) (fun _ _ _ => rfl) hI (Or.inl ⟨rfl, rfl, rfl, fun i hi => absurd hi (by omega)⟩)
    have ha1 : ∀ a, a ≠ 10 → a ≠ 11 → M1 a = M0 a := fun a h1 h2 => by rw [g2 a h1 h2, ha a h1 h2]
    rcases g4 with ⟨q1, q2, q3⟩ | ⟨q1, q2⟩
    · refine ⟨M1, F1, ?_, ha1, g3, fun i hi => by rw [q2]; exact q3 i hi⟩
      rw [fX6_reach_L44]
      refine w_gdR (by omega) (by omega) (w_f N1 (w_bind g1 ?_))
      obtain ⟨n, rfl⟩ : ∃ k, n = k + 1 := ⟨n - 1, by omega⟩
      rw [fX6_reach_L44]
      exact w_gdR (by omega) (by omega) (w_t q1 rfl)
    · obtain ⟨M', F', k1, k2⟩ := ih n M1 F1 (by omega) (by omega) ha1 g3
      refine ⟨M', F', ?_, k2⟩
      rw [fX6_reach_L44]
      refine w_gdR (by omega) (by omega) (w_f N1 (w_bind g1 ?_))
      rw [q1]
      exact k1
theorem reZ_L {k x2 : Int} (hk : k = 1 ∨ k = 2) {M0 : Mem} (hp : pinR (M0 3)) : ∀ (m j n : Nat) (M : Mem), j + m = 36 → m < n → (∀ a, a ≠ 10 → a ≠ 11 → M a = M0 a) → (∀ v, v < j → M 11 v = (if M0 3 v = k then 1 else 0) ∧ M 10 v = -1) →
    ∃ M', fX6_reach_L2 n M k x2 (j : Int) = some M' ∧ (∀ a, a ≠ 10 → a ≠ 11 → M' a = M0 a) ∧ ∀ v, v < 36 → M' 11 v = (if M0 3 v = k then 1 else 0) ∧ M' 10 v = -1 := by
  intro m
  induction m with
  | zero =>
    intro j n M h hn ha hv
    obtain ⟨n, rfl⟩ : ∃ k, n = k + 1 := ⟨n - 1, by omega⟩
    refine ⟨M, ?_, ha, fun v h36 => hv v (by omega)⟩
    rw [fX6_reach_L2]
    exact w_gdR (by omega) (by omega) (w_t (by omega) rfl)
  | succ m ih =>
    intro j n M h hn ha hv
    obtain ⟨n, rfl⟩ : ∃ k, n = k + 1 := ⟨n - 1, by omega⟩
    have e3 : M 3 = M0 3 := ha 3 (by decide) (by decide)
    have p := hp j (by omega)
    have t01 : (if M0 3 j = k then (1 : Int) else 0) = 0 ∨ (if M0 3 j = k then (1 : Int) else 0) = 1 := by split; exact Or.inr rfl; exact Or.inl rfl
    have r10 : wr (wr M 11 j (if M0 3 j = k then 1 else 0)) 10 j (-1) 10 = put (M 10) j (-1) := by rw [wr_put, wr_row _ _ (by decide)]
    have r11 : wr (wr M 11 j (if M0 3 j = k then 1 else 0)) 10 j (-1) 11 = put (M 11) j (if M0 3 j = k then 1 else 0) := by rw [wr_row _ _ (by decide), wr_put]
    obtain ⟨M', g1, g2⟩ := ih (j + 1) n (wr (wr M 11 j (if M0 3 j = k then 1 else 0)) 10 j (-1)) (by omega) (by omega) (fun a h1 h2 => by rw [wr_row _ _ h1, wr_row _ _ h2, ha a h1 h2]) (fun v h1 => by
      rw [r10, r11]
      by_cases q : v = j
      · rw [q, put_at, put_at]; exact ⟨rfl, rfl⟩
      · rw [put_ne q, put_ne q]; exact hv v (by omega))
    refine ⟨M', ?_, g2⟩
    rw [fX6_reach_L2]
    refine w_gdR (by omega) (by omega) (w_f (by omega) (w_gdB (by omega) (by omega) ?_))
    rw [Int.toNat_natCast, e3]
    refine w_gdR (by omega) (by omega) (w_gdR (by omega) (by omega) (w_bind (t := if M0 3 j = k then 1 else 0) ?_ (w_gdB (by omega) (by omega) (w_gd t01 (w_gdB (by omega) (by omega) ?_)))))
    · by_cases q : M0 3 j = k
      · exact Eq.trans (w_t q rfl) (congrArg some (by rw [if_pos q]))
      · exact Eq.trans (w_f q rfl) (congrArg some (by rw [if_neg q]))
    · rw [show (j : Int) + 1 = ((j + 1 : Nat) : Int) by omega]
      exact g1
theorem arAll {k : Int} (hk : k = 1 ∨ k = 2) {M : Mem} (h : ∀ i, i < 120 → ArC k M i) : Clz (coM M) (M 9) k (fun v => M 11 v = 1) := by
  intro e he
  have hne := lo_hi he
  have a := h (2 * e) (by omega)
  have b := h (2 * e + 1) (by omega)
  unfold ArC arL arF arT lft at a b
  rw [show 2 * e / 2 = e by omega, if_pos (show 2 * e % 2 = 0 by omega), if_pos (show 2 * e % 2 = 0 by omega), if_pos rfl, if_neg (show ¬ hi e = lo e by omega)] at a
  rw [show (2 * e + 1) / 2 = e by omega, if_neg (show ¬ (2 * e + 1) % 2 = 0 by omega), if_neg (show ¬ (2 * e + 1) % 2 = 0 by omega), if_pos rfl, if_neg (show ¬ hi e = lo e by omega)] at b
  rw [Int.sub_eq_add_neg]
  exact ⟨a, b⟩
theorem reM {k x2 : Int} (hk : (k = 1 ∧ x2 = 1) ∨ (k = 2 ∧ x2 = 0)) {M0 : Mem} (hm : MR M0) (hp : pinR (M0 3)) (hfb : ∀ e, e < 60 → -(coM M0 e) ≤ M0 9 e ∧ M0 9 e ≤ coM M0 e) : ∃ (M : Mem) (F : Nat), fX6_reach M0 k x2 = some M ∧ (∀ a, a ≠ 10 → a ≠ 11 → M a = M0 a) ∧ ReI k M F ∧ Rch (M0 3) (coM M0) (M0 9) k (fun v => M 11 v = 1) := by
  have hk2 : k = 1 ∨ k = 2 := by rcases hk with z | z; exact Or.inl z.1; exact Or.inr z.1
  obtain ⟨M1, z1, z2, z3⟩ := reZ_L (x2 := x2) hk2 hp 36 0 FU M0 (by omega) (by have := FU_big; omega) (fun _ _ _ => rfl) (fun v hv => absurd hv (by omega))
  obtain ⟨F, hF⟩ : ∃ F : Nat, ss (M1 11) 0 36 = (F : Int) := by
    have := ss_nn (f := M1 11) 36 0 (fun v _ hv => by rw [(z3 v (by omega)).1]; split <;> decide)
    exact ⟨(ss (M1 11) 0 36).toNat, by omega⟩
  have e3 : M1 3 = M0 3 := z2 3 (by decide) (by decide)
  have hI : ReI k M1 F := by
    refine ⟨fun v hv => Or.inl (z3 v hv).2, fun v hv => ?_, hF, fun v hv q => ?_, fun T t1 t2 v hv q => ?_, fun _ => 0, fun v hv q => ?_⟩
    · rw [(z3 v hv).1]; split; exact Or.inr rfl; exact Or.inl rfl
    · rw [e3] at q
      rw [(z3 v hv).1, if_pos q]
    · rw [(z3 v hv).1] at q
      by_cases z : M0 3 v = k
      · exact t1 v hv (by rw [e3]; exact z)
      · rw [if_neg z] at q; exact absurd q (by decide)
    · have ge := ss_ge (f := M1 11) (m := 36) (a := 0) (k := v) (Nat.zero_le _) (by omega) (fun i _ hi => by rw [(z3 i (by omega)).1]; split <;> decide)
      rw [q, hF] at ge
      refine ⟨show 0 < F by omega, Or.inl ⟨(z3 v hv).2, ?_⟩⟩
      rw [(z3 v hv).1] at q
      rw [e3]
      by_cases z : M0 3 v = k
      · exact z
      · rw [if_neg z] at q; exact absurd q (by decide)
  have ec1 : coM M1 = coM M0 := by
    funext e
    unfold coM
    rw [z2 0 (by decide) (by decide), z2 1 (by decide) (by decide)]
  obtain ⟨M, F', w1, w2, w3, w4⟩ := reW_L hk (M0 := M0) hm hfb 36 FU M1 F (by omega) (by have := FU_big; omega) z2 hI
  have ec : coM M = coM M0 := by
    funext e
    unfold coM
    rw [w2 0 (by decide) (by decide), w2 1 (by decide) (by decide)]
  refine ⟨M, F', ?_, w2, w3, ?_⟩
  · unfold fX6_reach
    exact w_bind z1 (w_bind w1 rfl)
  · have r := w3.2.rch (arAll hk2 w4)
    rw [w2 3 (by decide) (by decide), ec, w2 9 (by decide) (by decide)] at r
    exact r
theorem roM_L {M : Mem} (h11 : ∀ v, v < 36 → M 11 v = 0 ∨ M 11 v = 1) (hp : pinR (M 3)) : ∀ (m j n : Nat) (x : Int), j + m = 36 → m < n → ((x = -1 ∧ ∀ v, v < j → M 3 v = 2 → M 11 v = 0) ∨ ∃ u : Nat, u < 36 ∧ x = (u : Int) ∧ M 11 u = 1 ∧ M 3 u = 2) →
    ∃ r, fX6_reachedOutside_L4 n M x (j : Int) = some r ∧ ((r = -1 ∧ ∀ v, v < 36 → M 3 v = 2 → M 11 v = 0) ∨ ∃ u : Nat, u < 36 ∧ r = (u : Int) ∧ M 11 u = 1 ∧ M 3 u = 2) := by
  intro m
  induction m with
  | zero =>
    intro j n x h hn hx
    obtain ⟨n, rfl⟩ : ∃ k, n = k + 1 := ⟨n - 1, by omega⟩
    refine ⟨x, ?_, ?_⟩
    · rw [fX6_reachedOutside_L4]
      exact w_gdR (by omega) (by omega) (w_t (by omega) rfl)
    · rcases hx with ⟨q1, q2⟩ | q
      · exact Or.inl ⟨q1, fun v hv => q2 v (by omega)⟩
      · exact Or.inr q
  | succ m ih =>
    intro j n x h hn hx
    obtain ⟨n, rfl⟩ : ∃ k, n = k + 1 := ⟨n - 1, by omega⟩
    have hj : j < 36 := by omega
    have a := h11 j hj
    have b := hp j hj
    have i3 : inR (M 3 j) := by clear hx ih; exact ⟨by omega, by omega⟩
    have i11 : inR (M 11 j) := by clear hx ih; exact ⟨by omega, by omega⟩
    have j36 : (j : Int) < 36 := by clear hx ih; omega
    have key : ∃ y, (if M 11 j = 0 then (some x) else (gd (inB (j : Int) 36) (gd (inR (M 3 j)) (if M 3 j = 2 then (some (j : Int)) else (some x))))) = some y ∧ ((y = -1 ∧ ∀ v, v < j + 1 → M 3 v = 2 → M 11 v = 0) ∨ ∃ u : Nat, u < 36 ∧ y = (u : Int) ∧ M 11 u = 1 ∧ M 3 u = 2) := by
      have old : M 11 j = 0 ∨ M 3 j ≠ 2 → ((x = -1 ∧ ∀ v, v < j + 1 → M 3 v = 2 → M 11 v = 0) ∨ ∃ u : Nat, u < 36 ∧ x = (u : Int) ∧ M 11 u = 1 ∧ M 3 u = 2) := fun z => by
        rcases hx with ⟨q1, q2⟩ | q
        · refine Or.inl ⟨q1, fun v hv y => ?_⟩
          by_cases e : v = j
          · rw [e] at y ⊢
            rcases z with z | z
            · exact z
            · exact absurd y z
          · exact q2 v (by omega) y
        · exact Or.inr q
      by_cases c : M 11 j = 0
      · exact ⟨x, w_t c rfl, old (Or.inl c)⟩
      · by_cases d : M 3 j = 2
        · exact ⟨(j : Int), w_f c (w_gd ⟨Int.natCast_nonneg j, j36⟩ (w_gd i3 (w_t d rfl))), Or.inr ⟨j, hj, rfl, a.resolve_left c, d⟩⟩
        · exact ⟨x, w_f c (w_gd ⟨Int.natCast_nonneg j, j36⟩ (w_gd i3 (w_f d rfl))), old (Or.inr d)⟩
    obtain ⟨y, k1, k2⟩ := key
    obtain ⟨r, g1, g2⟩ := ih (j + 1) n y (by omega) (by omega) k2
    refine ⟨r, ?_, g2⟩
    rw [fX6_reachedOutside_L4]
    refine w_gdR (by omega) (by omega) (w_f (by omega) (w_gdB (by omega) (by omega) ?_))
    rw [Int.toNat_natCast]
    refine w_gd i11 (w_bind k1 ?_)
    rw [show (j : Int) + 1 = ((j + 1 : Nat) : Int) by omega]
    exact g1
theorem puM_L {M0 : Mem} {rk : Nat → Nat} {F en : Nat} (h10 : ∀ v, v < 36 → M0 10 v = -1 ∨ (0 ≤ M0 10 v ∧ M0 10 v < 120 ∧ v = arT (M0 10 v).toNat)) (hR : RkI (coM M0) (M0 9) (M0 3) (M0 11) (ed10 M0) (rt10 M0) rk F) : ∀ (m n : Nat) (M : Mem) (cur : Nat), rk cur ≤ m → m < n → (∀ b, b ≠ 9 → M b = M0 b) → PuI (coM M0) (M0 9) (M0 11) (ed10 M0) (rt10 M0) rk 1 en cur (M 9) →
    ∃ (c2 : Nat) (M' : Mem), fX6_push_L2 n M (cur : Int) = some M' ∧ (∀ b, b ≠ 9 → M' b = M0 b) ∧ M0 3 c2 = 1 ∧ PuI (coM M0) (M0 9) (M0 11) (ed10 M0) (rt10 M0) rk 1 en c2 (M' 9) := by
  intro m
  have stop : ∀ (n : Nat) (M : Mem) (cur : Nat), (∀ b, b ≠ 9 → M b = M0 b) → PuI (coM M0) (M0 9) (M0 11) (ed10 M0) (rt10 M0) rk 1 en cur (M 9) → M0 10 cur = -1 → ∃ (c2 : Nat) (M' : Mem), fX6_push_L2 (n + 1) M (cur : Int) = some M' ∧ (∀ b, b ≠ 9 → M' b = M0 b) ∧ M0 3 c2 = 1 ∧ PuI (coM M0) (M0 9) (M0 11) (ed10 M0) (rt10 M0) rk 1 en c2 (M' 9) := by
    intro n M cur hb hP hz
    have p4 := hP.2.2.2.1
    refine ⟨cur, M, ?_, hb, ?_, hP⟩
    · rw [fX6_push_L2]
      refine w_gdB (by omega) (by omega) ?_
      rw [Int.toNat_natCast, hb 10 (by decide), hz]
      exact w_gdR (by omega) (by omega) (w_t rfl rfl)
    · obtain ⟨_, z⟩ := hR cur p4 hP.2.2.2.2
      rcases z with z | z
      · exact z.2
      · exact absurd hz z.1
  induction m with
  | zero =>
    intro n M cur h hn hb hP
    obtain ⟨n, rfl⟩ : ∃ k, n = k + 1 := ⟨n - 1, by omega⟩
    by_cases c : M0 10 cur = -1
    · exact stop n M cur hb hP c
    · obtain ⟨_, z⟩ := hR cur hP.2.2.2.1 hP.2.2.2.2
      rcases z with z | z
      · exact absurd z.1 c
      · have := z.2.2.2.2.1
        omega
  | succ m ih =>
    intro n M cur h hn hb hP
    obtain ⟨n, rfl⟩ : ∃ k, n = k + 1 := ⟨n - 1, by omega⟩
    by_cases c : M0 10 cur = -1
    · exact stop n M cur hb hP c
    · have p4 := hP.2.2.2.1
      obtain ⟨_, z⟩ := hR cur p4 hP.2.2.2.2
      obtain ⟨_, c1, c2, c3, c4, c5⟩ := z.resolve_left (fun y => c y.1)
      obtain ⟨j, hj⟩ : ∃ j : Nat, M0 10 cur = (j : Int) := ⟨(M0 10 cur).toNat, by have := (h10 cur p4).resolve_left c; omega⟩
      have hj2 := (h10 cur p4).resolve_left c
      rw [hj, Int.toNat_natCast] at hj2
      have hj1 : j < 120 := by omega
      have dv : ed10 M0 cur = j / 2 := by
        unfold ed10
        rw [hj]; omega
      obtain ⟨f1, f2, f3, f4, f5⟩ := ar_lt hj1
      have he : j / 2 < 60 := by omega
      have hne := lo_hi he
      have nx : oth (ed10 M0 cur) cur = arF j := by rw [dv, hj2.2.2, f4]
      have hP2 := hP.step hR (by decide) c (by omega) (f2 := wr M 9 (j / 2) (M 9 (j / 2) + (if j % 2 = 0 then 1 else -1)) 9) (fun e _ => by
        rw [wr_put, nx, dv]
        unfold arF
        by_cases q : j % 2 = 0
        · rw [if_pos q, if_pos q, if_pos rfl]
        · rw [if_neg q, if_neg q, if_neg (by omega)])
      rw [nx] at hP2 c4
      obtain ⟨c2', M', g1, g2⟩ := ih n _ (arF j) (by omega) (by omega) (fun b hb1 => (wr_row M _ hb1).trans (hb b hb1)) hP2
      refine ⟨c2', M', ?_, g2⟩
      rw [fX6_push_L2]
      refine w_gdB (by omega) (by omega) ?_
      rw [Int.toNat_natCast, hb 10 (by decide), hj]
      have dv2 : (j : Int) / 2 = ((j / 2 : Nat) : Int) := by omega
      rw [dv2, Int.toNat_natCast]
      refine w_gdR (by omega) (by omega) (w_f (by omega) (w_gdB (by omega) (by omega) (w_gd ⟨by omega, by omega⟩ (w_gdB (by omega) (by omega) (w_gd ⟨by omega, by omega⟩ (w_gdR (by omega) (by omega) (w_bind (t := if j % 2 = 0 then 1 else -1) ?_ (w_gdB (by omega) (by omega) (w_gd ⟨by omega, by omega⟩ (w_bind (t := (arF j : Int)) ?_ g1))))))))))
      · by_cases q : j % 2 = 0
        · rw [if_pos q]; exact w_t (by omega) rfl
        · rw [if_neg q]; exact w_f (by omega) rfl
      · unfold arF
        by_cases q : j % 2 = 0
        · rw [if_pos q, if_pos q]; exact w_t (by omega) (w_gd ⟨by omega, by omega⟩ (w_bind (m_first _ he) rfl))
        · rw [if_neg q, if_neg q]; exact w_f (by omega) (w_gd ⟨by omega, by omega⟩ (w_bind (m_second _ he) rfl))
def GfI (M0 M : Mem) : Prop := (∀ a, a ≠ 9 → a ≠ 10 → a ≠ 11 → M a = M0 a) ∧ Fld (M0 3) (coM M0) (M 9) ∧ (∃ F, ReI 1 M F) ∧ Rch (M0 3) (coM M0) (M 9) 1 (fun v => M 11 v = 1)
theorem coM_of {M M0 : Mem} (h0 : M 0 = M0 0) (h1 : M 1 = M0 1) : coM M = coM M0 := by
  funext e
  unfold coM
  rw [h0, h1]
theorem gfM_L {M0 : Mem} (hm : MR M0) (hp : pinR (M0 3)) : ∀ (N n : Nat) (M : Mem) (x1 x2 : Int), 3540 - x1 ≤ (N : Int) → N + 1 < n → GfI M0 M → vaF (M0 3) (M 9) = x1 → ((x2 = -1 ∧ ∀ v, v < 36 → M 3 v = 2 → M 11 v = 0) ∨ ∃ u : Nat, u < 36 ∧ x2 = (u : Int) ∧ M 11 u = 1 ∧ M 3 u = 2) →
    ∃ (r : Int) (M' : Mem), fX6_greatestFlow_L34 n M x1 x2 = some (r, M') ∧ GfI M0 M' ∧ vaF (M0 3) (M' 9) = r ∧ MxF (M0 3) (coM M0) (M' 9) := by
  intro N
  have stop : ∀ (n : Nat) (M : Mem) (x1 x2 : Int), GfI M0 M → vaF (M0 3) (M 9) = x1 → (x2 = -1 ∧ ∀ v, v < 36 → M 3 v = 2 → M 11 v = 0) → ∃ (r : Int) (M' : Mem), fX6_greatestFlow_L34 (n + 1) M x1 x2 = some (r, M') ∧ GfI M0 M' ∧ vaF (M0 3) (M' 9) = r ∧ MxF (M0 3) (coM M0) (M' 9) := by
    intro n M x1 x2 hI hv ⟨q1, q2⟩
    have e3 : M 3 = M0 3 := hI.1 3 (by decide) (by decide) (by decide)
    rw [e3] at q2
    obtain ⟨F, hF⟩ := hI.2.2.1
    have isb : isB (M0 3) (M 11) := fun v h36 => ⟨hF.2.1 v h36, fun q => hI.2.2.2.1 v h36 q, fun q => q2 v h36 q⟩
    refine ⟨x1, M, ?_, hI, hv, hI.2.1, M 11, isb, val_of hp hI.2.1 isb (Or.inl hI.2.2.2.2.1)⟩
    rw [fX6_greatestFlow_L34]
    exact w_gdR (by omega) (by omega) (w_t q1 rfl)
  have step : ∀ (n : Nat) (M : Mem) (x1 x2 : Int), GfI M0 M → vaF (M0 3) (M 9) = x1 → (∃ u : Nat, u < 36 ∧ x2 = (u : Int) ∧ M 11 u = 1 ∧ M 3 u = 2) → ∃ (M1 : Mem) (y : Int), GfI M0 M1 ∧ vaF (M0 3) (M1 9) = x1 + 1 ∧ ((y = -1 ∧ ∀ v, v < 36 → M1 3 v = 2 → M1 11 v = 0) ∨ ∃ u : Nat, u < 36 ∧ y = (u : Int) ∧ M1 11 u = 1 ∧ M1 3 u = 2) ∧ ∀ r, fX6_greatestFlow_L34 n M1 (x1 + 1) y = some r → fX6_greatestFlow_L34 (n + 1) M x1 x2 = some r := by
    intro n M x1 x2 hI hv ⟨u, u1, u2, u3, u4⟩
    obtain ⟨F, hF⟩ := hI.2.2.1
    have e3 : M 3 = M0 3 := hI.1 3 (by decide) (by decide) (by decide)
    have ec : coM M = coM M0 := coM_of (hI.1 0 (by decide) (by decide) (by decide)) (hI.1 1 (by decide) (by decide) (by decide))
    obtain ⟨rk, hR⟩ := hF.2.rkI
    obtain ⟨c2, M1, p1, p2, p3, p4⟩ := puM_L (en := u) hF.1 hR (rk u) FU M u (Nat.le_refl _) (by have := (hR u u1 u3).1; have := hF.2.le; have := FU_big; omega) (fun _ _ => rfl) (PuI.start (by rw [ec]; exact hI.2.1.1) u1 u3)
    rw [e3] at p3 u4
    rw [ec] at p4
    obtain ⟨d1, d2⟩ := p4.done hI.2.1 u1 u4 p3
    have f1 : ∀ a, a ≠ 9 → a ≠ 10 → a ≠ 11 → M1 a = M0 a := fun a h1 h2 h3 => by rw [p2 a h1, hI.1 a h1 h2 h3]
    have hm1 : MR M1 := by
      unfold MR at hm ⊢
      rw [f1 0 (by decide) (by decide) (by decide), f1 1 (by decide) (by decide) (by decide)]
      exact hm
    have ec1 : coM M1 = coM M0 := coM_of (f1 0 (by decide) (by decide) (by decide)) (f1 1 (by decide) (by decide) (by decide))
    have e31 : M1 3 = M0 3 := f1 3 (by decide) (by decide) (by decide)
    obtain ⟨M2, F2, r1, r2, r3, r4⟩ := reM (k := 1) (x2 := 1) (Or.inl ⟨rfl, rfl⟩) hm1 (by rw [e31]; exact hp) (by rw [ec1]; exact d1.1)
    obtain ⟨y, o1, o2⟩ := roM_L (M := M2) r3.2.1 (by rw [r2 3 (by decide) (by decide), e31]; exact hp) 36 0 FU (-1) (by omega) (by have := FU_big; omega) (Or.inl ⟨rfl, fun v hv => absurd hv (by omega)⟩)
    have e92 : M2 9 = M1 9 := r2 9 (by decide) (by decide)
    rw [e31, ec1] at r4
    refine ⟨M2, y, ⟨fun a h1 h2 h3 => by rw [r2 a h2 h3, f1 a h1 h2 h3], by rw [e92]; exact d1, ⟨F2, r3⟩, by rw [e92]; exact r4⟩, by rw [e92, d2, hv], o2, fun r hr => ?_⟩
    rw [fX6_greatestFlow_L34, u2]
    refine w_gdR (by omega) (by omega) (w_f (by omega) (w_bind (t := M1) ?_ (w_bind r1 (w_bind (t := y) ?_ hr))))
    · unfold fX6_push
      exact w_bind p1 rfl
    · unfold fX6_reachedOutside
      exact w_bind o1 rfl
  induction N with
  | zero =>
    intro n M x1 x2 h hn hI hv hx
    obtain ⟨n, rfl⟩ : ∃ k, n = k + 1 := ⟨n - 1, by omega⟩
    rcases hx with q | q
    · exact stop n M x1 x2 hI hv q
    · obtain ⟨M1, y, a1, a2, a3, a4⟩ := step n M x1 x2 hI hv q
      have := va_ub hp (fun e he => coM_bd hm he) a1.2.1
      omega
  | succ N ih =>
    intro n M x1 x2 h hn hI hv hx
    obtain ⟨n, rfl⟩ : ∃ k, n = k + 1 := ⟨n - 1, by omega⟩
    rcases hx with q | q
    · exact stop n M x1 x2 hI hv q
    · obtain ⟨M1, y, a1, a2, a3, a4⟩ := step n M x1 x2 hI hv q
      obtain ⟨r, M', g1, g2⟩ := ih n M1 (x1 + 1) y (by omega) (by omega) a1 a2 a3
      exact ⟨r, M', a4 _ g1, g2⟩
theorem gfZ_L {M0 : Mem} : ∀ (m e n : Nat) (M : Mem), e + m = 60 → m < n → (∀ a, a ≠ 9 → M a = M0 a) → (∀ i, i < e → M 9 i = 0) →
    ∃ M', fX6_greatestFlow_L2 n M (e : Int) = some M' ∧ (∀ a, a ≠ 9 → M' a = M0 a) ∧ ∀ i, i < 60 → M' 9 i = 0 := by
  intro m
  induction m with
  | zero =>
    intro e n M h hn ha hz
    obtain ⟨n, rfl⟩ : ∃ k, n = k + 1 := ⟨n - 1, by omega⟩
    refine ⟨M, ?_, ha, fun i hi => hz i (by omega)⟩
    rw [fX6_greatestFlow_L2]
    exact w_gdR (by omega) (by omega) (w_t (by omega) rfl)
  | succ m ih =>
    intro e n M h hn ha hz
    obtain ⟨n, rfl⟩ : ∃ k, n = k + 1 := ⟨n - 1, by omega⟩
    obtain ⟨M', g1, g2⟩ := ih (e + 1) n (wr M 9 e 0) (by omega) (by omega) (fun a h1 => (wr_row M _ h1).trans (ha a h1)) (fun i hi => by
      rw [wr_put]
      by_cases q : i = e
      · rw [q, put_at]
      · rw [put_ne q]; exact hz i (by omega))
    refine ⟨M', ?_, g2⟩
    rw [fX6_greatestFlow_L2]
    refine w_gdR (by omega) (by omega) (w_f (by omega) (w_gdB (by omega) (by omega) ?_))
    rw [show (e : Int) + 1 = ((e + 1 : Nat) : Int) by omega, Int.toNat_natCast]
    exact g1
theorem gfM {M0 : Mem} (hm : MR M0) (hp : pinR (M0 3)) : ∃ M', fX6_greatestFlow M0 = some (vaF (M0 3) (M' 9), M') ∧ GfI M0 M' ∧ MxF (M0 3) (coM M0) (M' 9) := by
  obtain ⟨M1, z1, z2, z3⟩ := gfZ_L (M0 := M0) 60 0 FU M0 (by omega) (by have := FU_big; omega) (fun _ _ => rfl) (fun i hi => absurd hi (by omega))
  have ec1 : coM M1 = coM M0 := coM_of (z2 0 (by decide)) (z2 1 (by decide))
  have e31 : M1 3 = M0 3 := z2 3 (by decide)
  have hm1 : MR M1 := by
    unfold MR at hm ⊢
    rw [z2 0 (by decide), z2 1 (by decide)]
    exact hm
  obtain ⟨f1, f2⟩ := fld0 (pn := M0 3) (fun e he => coM_bd hm he) z3
  obtain ⟨M2, F2, r1, r2, r3, r4⟩ := reM (k := 1) (x2 := 1) (Or.inl ⟨rfl, rfl⟩) hm1 (by rw [e31]; exact hp) (by rw [ec1]; exact f1.1)
  obtain ⟨y, o1, o2⟩ := roM_L (M := M2) r3.2.1 (by rw [r2 3 (by decide) (by decide), e31]; exact hp) 36 0 FU (-1) (by omega) (by have := FU_big; omega) (Or.inl ⟨rfl, fun v hv => absurd hv (by omega)⟩)
  have e92 : M2 9 = M1 9 := r2 9 (by decide) (by decide)
  rw [e31, ec1] at r4
  obtain ⟨r, M', g1, g2, g3, g4⟩ := gfM_L hm hp 3540 FU M2 0 y (by omega) (by have := FU_big; omega) ⟨fun a h1 h2 h3 => by rw [r2 a h2 h3, z2 a h1], by rw [e92]; exact f1, ⟨F2, r3⟩, by rw [e92]; exact r4⟩ (by rw [e92]; exact f2) o2
  refine ⟨M', ?_, g2, g4⟩
  unfold fX6_greatestFlow
  rw [g3]
  refine w_bind z1 (w_bind r1 (w_bind (t := y) ?_ (w_bind g1 rfl)))
  unfold fX6_reachedOutside
  exact w_bind o1 rfl
