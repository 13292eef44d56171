/-! the search of the class over what is left of a flow -/
theorem lfC {M : Mem} (hg : GR M) {e v : Nat} (he : e < 60) (hv : v < 36) : fX0_leftFrom M (e : Int) (v : Int) = some (lft (M 4) (M 13) e v) := by
  have hl := lo_lt he
  unfold fX0_leftFrom lft
  refine w_bind (gr_price he) (w_bind (gr_low hg he) (w_gdR (by omega) (by omega) (w_gdR (by omega) (by omega) (w_bind (t := if v = lo e then -(M 13 e) else M 13 e) ?_ rfl))))
  by_cases q : v = lo e
  · rw [if_pos q]
    exact w_t (by omega) (w_gdB (by omega) (by omega) (by rw [Int.toNat_natCast]))
  · rw [if_neg q]
    exact w_f (by omega) (w_gdB (by omega) (by omega) (by rw [Int.toNat_natCast]))
theorem lft_bd {c f : Nat → Int} {e : Nat} (h1 : -(c e) ≤ f e ∧ f e ≤ c e) (h2 : 1 ≤ c e ∧ c e ≤ 59) (v : Nat) : 0 ≤ lft c f e v ∧ lft c f e v ≤ 118 := by
  unfold lft
  split <;> omega
def sn14 (M : Mem) (v : Nat) : Int := if M 14 v = -1 then 0 else 1
def ed14 (M : Mem) (v : Nat) : Nat := (M 14 v).toNat
def rt14 (M : Mem) (v : Nat) : Prop := M 14 v < 0
theorem sn14_1 {M : Mem} {v : Nat} : sn14 M v = 1 ↔ M 14 v ≠ -1 := by
  unfold sn14
  by_cases q : M 14 v = -1
  · rw [if_pos q]; exact ⟨fun z => absurd z (by decide), fun z => absurd q z⟩
  · rw [if_neg q]; exact ⟨fun _ => q, fun _ => rfl⟩
theorem sn14_0 {M : Mem} {v : Nat} : sn14 M v = 0 ↔ M 14 v = -1 := by
  unfold sn14
  by_cases q : M 14 v = -1
  · rw [if_pos q]; exact ⟨fun _ => q, fun _ => rfl⟩
  · rw [if_neg q]; exact ⟨fun z => absurd z (by decide), fun z => absurd z q⟩
def ScI (k : Int) (M0 M : Mem) (F : Nat) : Prop :=
  (∀ a, a ≠ 14 → a ≠ 15 → M a = M0 a) ∧ (∀ i, i < F → ∃ w : Nat, w < 36 ∧ M 15 i = (w : Int) ∧ M 14 w ≠ -1) ∧ (∀ v, v < 36 → M 14 v ≠ -1 → ∃ i, i < F ∧ M 15 i = (v : Int)) ∧ (∀ v, v < 36 → -2 ≤ M 14 v ∧ M 14 v < 60) ∧ Gro (M0 12) (M0 4) (M0 13) k (sn14 M) (ed14 M) (rt14 M) F
/-- a node's neighbours to which something is left are seen -/
def SDf (k : Int) (c f : Nat → Int) (M : Mem) (w n : Nat) : Prop := ∀ s, s < n → bes w s ≠ 60 → 0 < (if k = 1 then lft c f (bes w s) w else lft c f (bes w s) (oth (bes w s) w)) → M 14 (oth (bes w s) w) ≠ -1
theorem ScI.mark {k : Int} (hk : k = 1 ∨ k = 2) {M0 M : Mem} {F : Nat} (h : ScI k M0 M F) {w u e : Nat} (hw : w < 36) (hsw : M 14 w ≠ -1) (he : e < 60) (hew : lo e = w ∨ hi e = w) (hu : u = oth e w) (hz : M 14 u = -1) (hl : 0 < (if k = 1 then lft (M0 4) (M0 13) e w else lft (M0 4) (M0 13) e u)) : ScI k M0 (wr (wr M 14 u (e : Int)) 15 F (u : Int)) (F + 1) := by
  obtain ⟨a1, a2, a3, a4, a5⟩ := h
  have hu36 : u < 36 := by rw [hu]; exact oth_lt he
  have hne := lo_hi he
  have hback : oth e u = w ∧ (lo e = u ∨ hi e = u) := by
    rcases oth_of he hew with ⟨q1, q2⟩ | ⟨q1, q2⟩
    · rw [hu, q2]
      refine ⟨?_, Or.inr rfl⟩
      unfold oth
      rw [if_neg (by omega)]; exact q1
    · rw [hu, q2]
      refine ⟨?_, Or.inl rfl⟩
      unfold oth
      rw [if_pos rfl]; exact q1
  have r14 : wr (wr M 14 u (e : Int)) 15 F (u : Int) 14 = put (M 14) u (e : Int) := by rw [wr_row _ _ (by decide), wr_put]
  have r15 : wr (wr M 14 u (e : Int)) 15 F (u : Int) 15 = put (M 15) F (u : Int) := by rw [wr_put, wr_row _ _ (by decide)]
  refine ⟨fun a h1 h2 => by rw [wr_row _ _ h2, wr_row _ _ h1, a1 a h1 h2], fun i hi => ?_, fun v hv h => ?_, fun v hv => ?_, ?_⟩
  · rw [r15, r14]
    by_cases q : i = F
    · exact ⟨u, hu36, by rw [q, put_at], by rw [put_at]; omega⟩
    · obtain ⟨x, x1, x2, x3⟩ := a2 i (by omega)
      refine ⟨x, x1, by rw [put_ne q]; exact x2, ?_⟩
      by_cases q2 : x = u
      · rw [q2, put_at]; omega
      · rw [put_ne q2]; exact x3
  · rw [r14] at h
    rw [r15]
    by_cases q : v = u
    · exact ⟨F, by omega, by rw [put_at, q]⟩
    · rw [put_ne q] at h
      obtain ⟨i, i1, i2⟩ := a3 v hv h
      exact ⟨i, by omega, by rw [put_ne (by omega)]; exact i2⟩
  · rw [r14]
    by_cases q : v = u
    · rw [q, put_at]; omega
    · rw [put_ne q]; exact a4 v hv
  · refine a5.add hk hu36 (sn14_0.mpr hz) he hback.2 (by rw [hback.1]; exact sn14_1.mpr hsw) (by rw [hback.1]; exact hl) (fun v hv => ?_) ?_ ?_ (fun v hv q => ?_) (fun v hv q => ?_)
    · unfold sn14
      rw [r14]
      by_cases q : v = u
      · rw [q, put_at, put_at, if_neg (by omega)]
      · rw [put_ne q, put_ne q]
    · unfold ed14
      rw [r14, put_at]; omega
    · unfold rt14
      rw [r14, put_at]; omega
    · unfold ed14
      rw [r14, put_ne q]
    · unfold rt14
      rw [r14, put_ne q]
theorem scS_L {k : Int} (hk : k = 1 ∨ k = 2) {M0 : Mem} (hg : GR M0) (hfb : ∀ e, e < 60 → -(M0 4 e) ≤ M0 13 e ∧ M0 13 e ≤ M0 4 e) {w : Nat} (hw : w < 36) : ∀ (m s n : Nat) (M : Mem) (F : Nat), s + m = 4 → m < n → ScI k M0 M F → M 14 w ≠ -1 → SDf k (M0 4) (M0 13) M w s →
    ∃ (F' : Nat) (M' : Mem), fX0_searchBeside_L7 n M k (w : Int) (F : Int) (s : Int) = some ((F' : Int), M') ∧ ScI k M0 M' F' ∧ SDf k (M0 4) (M0 13) M' w 4 ∧ F ≤ F' ∧ (∀ i, i < F → M' 15 i = M 15 i) ∧ ∀ v, v < 36 → M 14 v ≠ -1 → M' 14 v ≠ -1 := by
  intro m
  induction m with
  | zero =>
    intro s n M F h hn hI hsw hD
    obtain ⟨n, rfl⟩ : ∃ k, n = k + 1 := ⟨n - 1, by omega⟩
    have e : s = 4 := by omega
    subst e
    refine ⟨F, M, ?_, hI, hD, Nat.le_refl _, fun _ _ => rfl, fun _ _ h => h⟩
    rw [fX0_searchBeside_L7]
    exact w_gdR (by omega) (by omega) (w_t (by omega) rfl)
  | succ m ih =>
    intro s n M F h hn hI hsw hD
    obtain ⟨n, rfl⟩ : ∃ k, n = k + 1 := ⟨n - 1, by omega⟩
    have hs : s < 4 := by omega
    have hgM : GR M := by
      unfold GR
      rw [hI.1 0 (by decide) (by decide), hI.1 1 (by decide) (by decide), hI.1 2 (by decide) (by decide), hI.1 4 (by decide) (by decide)]
      exact hg
    have e4 : M 4 = M0 4 := hI.1 4 (by decide) (by decide)
    have e13 : M 13 = M0 13 := hI.1 13 (by decide) (by decide)
    have hF := hI.2.2.2.2.le
    have keep : (bes w s ≠ 60 → 0 < (if k = 1 then lft (M0 4) (M0 13) (bes w s) w else lft (M0 4) (M0 13) (bes w s) (oth (bes w s) w)) → M 14 (oth (bes w s) w) ≠ -1) → (∀ r, fX0_searchBeside_L7 n M k (w : Int) (F : Int) ((s : Int) + 1) = some r → fX0_searchBeside_L7 (n + 1) M k (w : Int) (F : Int) (s : Int) = some r) → ∃ (F' : Nat) (M' : Mem), fX0_searchBeside_L7 (n + 1) M k (w : Int) (F : Int) (s : Int) = some ((F' : Int), M') ∧ ScI k M0 M' F' ∧ SDf k (M0 4) (M0 13) M' w 4 ∧ F ≤ F' ∧ (∀ i, i < F → M' 15 i = M 15 i) ∧ ∀ v, v < 36 → M 14 v ≠ -1 → M' 14 v ≠ -1 := by
      intro h1 h2
      obtain ⟨F', M', g1, g2⟩ := ih (s + 1) n M F (by omega) (by omega) hI hsw (fun i hi q1 q2 => by
        by_cases q : i = s
        · rw [q] at q1 q2 ⊢; exact h1 q1 q2
        · exact hD i (by omega) q1 q2)
      rw [show ((s + 1 : Nat) : Int) = (s : Int) + 1 by omega] at g1
      exact ⟨F', M', h2 _ g1, g2⟩
    by_cases c : bes w s = 60
    · refine keep (fun q => absurd c q) (fun r hr => ?_)
      rw [fX0_searchBeside_L7]
      refine w_gdR (by omega) (by omega) (w_f (by omega) (w_bind (gr_beside hgM hw hs) ?_))
      rw [if_pos c]
      exact w_gdR (by omega) (by omega) (w_bind (t := ((F : Int), M)) (w_t rfl rfl) hr)
    · obtain ⟨he, ho⟩ := bes_oth hw hs c
      obtain ⟨e, e0⟩ : ∃ e, e = bes w s := ⟨_, rfl⟩
      obtain ⟨u, hu0⟩ : ∃ u, u = oth e w := ⟨_, rfl⟩
      rw [← e0] at he ho c
      have hu36 : u < 36 := by rw [hu0]; exact oth_lt he
      obtain ⟨x, hx⟩ : ∃ x, x = (if k = 1 then lft (M0 4) (M0 13) e w else lft (M0 4) (M0 13) e u) := ⟨_, rfl⟩
      have hxb : 0 ≤ x ∧ x ≤ 118 := by
        have b1 := lft_bd (hfb e he) ⟨(hg.1 e he).2.2.1, (hg.1 e he).2.2.2⟩ w
        have b2 := lft_bd (hfb e he) ⟨(hg.1 e he).2.2.1, (hg.1 e he).2.2.2⟩ u
        rw [hx]
        split <;> omega
      have hr14 := hI.2.2.2.1 u hu36
      have hcase : ∀ r1 : Int × Mem, (if M 14 u = (-1) then (gd (inR x) (if x ≤ 0 then (some ((F : Int), M)) else (gd (inR (F : Int)) (if 36 ≤ (F : Int) then (some ((F : Int), M)) else (gd (inB (u : Int) 36) (gd (inB (F : Int) 36) (some ((F : Int) + 1, (wr (wr M 14 u (e : Int)) 15 F (u : Int))))))))) ) else (some ((F : Int), M))) = some r1 → ∀ r, fX0_searchBeside_L7 n r1.2 k (w : Int) r1.1 ((s : Int) + 1) = some r → fX0_searchBeside_L7 (n + 1) M k (w : Int) (F : Int) (s : Int) = some r := by
        intro r1 h1 r h2
        rw [fX0_searchBeside_L7]
        refine w_gdR (by omega) (by omega) (w_f (by omega) (w_bind (gr_beside hgM hw hs) ?_))
        rw [← e0, if_neg (by omega)]
        refine w_gdR (by omega) (by omega) (w_bind (w_f (by omega) (w_bind (gr_other hgM he hw) ?_)) h2)
        rw [← hu0]
        refine w_gdR (by omega) (by omega) (w_bind (t := ((if k = 1 then w else u : Nat) : Int)) ?_ (w_bind (t := x) ?_ (w_gdB (by omega) (by omega) ?_)))
        · by_cases q : k = 1
          · exact Eq.trans (w_t q rfl) (congrArg some (by rw [if_pos q]))
          · exact Eq.trans (w_f q rfl) (congrArg some (by rw [if_neg q]))
        · rw [hx, ← e4, ← e13]
          by_cases q : k = 1
          · rw [if_pos q, if_pos q]; exact lfC hgM he hw
          · rw [if_neg q, if_neg q]; exact lfC hgM he hu36
        · rw [Int.toNat_natCast, Int.toNat_natCast]
          exact w_gdR (by omega) (by omega) h1
      have xdef : (if k = 1 then lft (M0 4) (M0 13) (bes w s) w else lft (M0 4) (M0 13) (bes w s) (oth (bes w s) w)) = x := by rw [hx, ← e0, hu0]
      by_cases z : M 14 u = -1
      · by_cases d : x ≤ 0
        · refine keep (fun _ q => ?_) (hcase ((F : Int), M) ?_)
          · rw [xdef] at q; omega
          · exact w_t z (w_gdR (by omega) (by omega) (w_t d rfl))
        · have hF2 := hI.2.2.2.2.lt hu36 (sn14_0.mpr z)
          have hI2 := hI.mark hk hw hsw he (by rcases ho with q | q; exact Or.inl q.1; exact Or.inr q.1) hu0 z (by rw [← hx]; omega)
          have r14 : wr (wr M 14 u (e : Int)) 15 F (u : Int) 14 = put (M 14) u (e : Int) := by rw [wr_row _ _ (by decide), wr_put]
          have r15 : wr (wr M 14 u (e : Int)) 15 F (u : Int) 15 = put (M 15) F (u : Int) := by rw [wr_put, wr_row _ _ (by decide)]
          have mono : ∀ v, v < 36 → M 14 v ≠ -1 → wr (wr M 14 u (e : Int)) 15 F (u : Int) 14 v ≠ -1 := fun v _ hv1 => by
            rw [r14]
            by_cases q : v = u
            · rw [q, put_at]; omega
            · rw [put_ne q]; exact hv1
          obtain ⟨F', M', g1, g2, g3, g4, g5, g6⟩ := ih (s + 1) n _ (F + 1) (by omega) (by omega) hI2 (mono w hw hsw) (fun i hi q1 q2 => by
            by_cases q : i = s
            · rw [q, ← e0, ← hu0, r14, put_at]; omega
            · exact mono _ (oth_lt (bes_oth hw (by omega) q1).1) (hD i (by omega) q1 q2))
          rw [show ((s + 1 : Nat) : Int) = (s : Int) + 1 by omega, show ((F + 1 : Nat) : Int) = (F : Int) + 1 by omega] at g1
          refine ⟨F', M', hcase ((F : Int) + 1, wr (wr M 14 u (e : Int)) 15 F (u : Int)) ?_ _ g1, g2, g3, by omega, fun i hi => ?_, fun v hv hv1 => g6 v hv (mono v hv hv1)⟩
          · exact w_t z (w_gdR (by omega) (by omega) (w_f d (w_gdR (by omega) (by omega) (w_f (by omega) (w_gdB (by omega) (by omega) (w_gdB (by omega) (by omega) rfl))))))
          · rw [g5 i (by omega), r15, put_ne (by omega)]
      · refine keep (fun _ _ => by rw [← e0, ← hu0]; exact z) (hcase ((F : Int), M) ?_)
        exact w_f z rfl
theorem scQ_L {k : Int} (hk : k = 1 ∨ k = 2) {M0 : Mem} (hg : GR M0) (hfb : ∀ e, e < 60 → -(M0 4 e) ≤ M0 13 e ∧ M0 13 e ≤ M0 4 e) : ∀ (m j n : Nat) (M : Mem) (F : Nat), j + m = 36 → m < n → ScI k M0 M F → (∀ i, i < j → i < F → ∀ w : Nat, w < 36 → M 15 i = (w : Int) → SDf k (M0 4) (M0 13) M w 4) →
    ∃ (F' : Nat) (M' : Mem), fX0_search_L60 n M k (F : Int) (j : Int) = some ((F' : Int), M') ∧ ScI k M0 M' F' ∧ (∀ i, i < F' → ∀ w : Nat, w < 36 → M' 15 i = (w : Int) → SDf k (M0 4) (M0 13) M' w 4) := by
  intro m
  induction m with
  | zero =>
    intro j n M F h hn hI hD
    obtain ⟨n, rfl⟩ : ∃ k, n = k + 1 := ⟨n - 1, by omega⟩
    have hF := hI.2.2.2.2.le
    refine ⟨F, M, ?_, hI, fun i hi => hD i (by omega) hi⟩
    rw [fX0_search_L60]
    exact w_gdR (by omega) (by omega) (w_t (by omega) rfl)
  | succ m ih =>
    intro j n M F h hn hI hD
    obtain ⟨n, rfl⟩ : ∃ k, n = k + 1 := ⟨n - 1, by omega⟩
    have hF := hI.2.2.2.2.le
    by_cases c : F ≤ j
    · refine ⟨F, M, ?_, hI, fun i hi => hD i (by omega) hi⟩
      rw [fX0_search_L60]
      exact w_gdR (by omega) (by omega) (w_f (by omega) (w_gdR (by omega) (by omega) (w_t (by omega) rfl)))
    · obtain ⟨w, w1, w2, w3⟩ := hI.2.1 j (by omega)
      obtain ⟨F1, M1, s1, s2, s3, s4, s5, s6⟩ := scS_L hk hg hfb w1 4 0 FU M F (by omega) (by have := FU_big; omega) hI w3 (fun s hs => absurd hs (by omega))
      obtain ⟨F', M', g1, g2, g3⟩ := ih (j + 1) n M1 F1 (by omega) (by omega) s2 (fun i hi hiF u hu hq => by
        by_cases q : i = j
        · have e : (u : Int) = (w : Int) := by rw [← hq, q, s5 j (by omega), w2]
          have e2 : u = w := by omega
          rw [e2]; exact s3
        · have old := hD i (by omega) (by omega) u hu (by rw [← s5 i (by omega)]; exact hq)
          intro s hs q1 q2
          exact s6 _ (oth_lt (bes_oth hu hs q1).1) (old s hs q1 q2))
      refine ⟨F', M', ?_, g2, g3⟩
      rw [fX0_search_L60]
      refine w_gdR (by omega) (by omega) (w_f (by omega) (w_gdR (by omega) (by omega) (w_f (by omega) (w_gdB (by omega) (by omega) ?_))))
      rw [Int.toNat_natCast, w2]
      refine w_bind (t := ((F1 : Int), M1)) ?_ ?_
      · unfold fX0_searchBeside
        exact w_bind s1 rfl
      · rw [show (j : Int) + 1 = ((j + 1 : Nat) : Int) by omega]
        exact g1
theorem scI_L {k : Int} (hk : k = 1 ∨ k = 2) {M0 : Mem} (hp : ∀ v, v < 36 → inR (M0 12 v)) : ∀ (m j n : Nat) (M : Mem) (F : Nat), j + m = 36 → m < n → (∀ a, a ≠ 14 → a ≠ 15 → M a = M0 a) → (∀ u, u < j → M 14 u = if M0 12 u = k then -2 else -1) → (∀ i, i < F → ∃ w : Nat, w < j ∧ M 15 i = (w : Int) ∧ M0 12 w = k) → (∀ u, u < j → M0 12 u = k → ∃ i, i < F ∧ M 15 i = (u : Int)) → ss (fun u => if M0 12 u = k then 1 else 0) 0 j = (F : Int) →
    ∃ (F' : Nat) (M' : Mem), fX0_search_L5 n M k (F : Int) (j : Int) = some ((F' : Int), M') ∧ ScI k M0 M' F' := by
  intro m
  induction m with
  | zero =>
    intro j n M F h hn ha h14 hq hq2 hc
    obtain ⟨n, rfl⟩ : ∃ k, n = k + 1 := ⟨n - 1, by omega⟩
    have e : j = 36 := by omega
    subst e
    have s1 : ∀ v, v < 36 → sn14 M v = if M0 12 v = k then 1 else 0 := fun v hv => by
      unfold sn14
      rw [h14 v hv]
      by_cases q : M0 12 v = k
      · rw [if_pos q, if_pos q, if_neg (by decide)]
      · rw [if_neg q, if_neg q, if_pos rfl]
    refine ⟨F, M, ?_, ha, fun i hi => ?_, fun v hv h => ?_, fun v hv => ?_, fun v hv => ?_, ?_, fun v hv q => ?_, fun T t1 t2 v hv q => ?_, fun _ => 0, fun v hv q => ?_⟩
    · rw [fX0_search_L5]
      exact w_gdR (by omega) (by omega) (w_t (by omega) rfl)
    · obtain ⟨w, w1, w2, w3⟩ := hq i hi
      exact ⟨w, w1, w2, by rw [h14 w w1, if_pos w3]; decide⟩
    · rw [h14 v hv] at h
      by_cases q : M0 12 v = k
      · exact hq2 v hv q
      · rw [if_neg q] at h; exact absurd rfl h
    · rw [h14 v hv]; split <;> decide
    · rw [s1 v hv]; split <;> omega
    · rw [ss_congr (g := fun u => if M0 12 u = k then 1 else 0) 36 0 (fun v _ hv => s1 v (by omega))]; exact hc
    · rw [s1 v hv, if_pos q]
    · rw [s1 v hv] at q
      by_cases z : M0 12 v = k
      · exact t1 v hv z
      · rw [if_neg z] at q; omega
    · rw [s1 v hv] at q
      by_cases z : M0 12 v = k
      · have ge := ss_ge (f := fun u => if M0 12 u = k then (1 : Int) else 0) (m := 36) (a := 0) (k := v) (Nat.zero_le _) (by omega) (fun i _ _ => by show 0 ≤ (if M0 12 i = k then (1 : Int) else 0); split <;> decide)
        have ge : (if M0 12 v = k then (1 : Int) else 0) ≤ ss (fun u => if M0 12 u = k then (1 : Int) else 0) 0 36 := ge
        rw [if_pos z, hc] at ge
        refine ⟨show 0 < F by omega, Or.inl ⟨?_, z⟩⟩
        unfold rt14
        rw [h14 v hv, if_pos z]; decide
      · rw [if_neg z] at q; omega
  | succ m ih =>
    intro j n M F h hn ha h14 hq hq2 hc
    obtain ⟨n, rfl⟩ : ∃ k, n = k + 1 := ⟨n - 1, by omega⟩
    have hj : j < 36 := by omega
    have ub := ss_ub (f := fun u => if M0 12 u = k then (1 : Int) else 0) (c := 1) j 0 (fun i _ _ => by show (if M0 12 i = k then (1 : Int) else 0) ≤ 1; split <;> decide)
    rw [hc] at ub
    have e12 : wr M 14 j (-1) 12 j = M0 12 j := by rw [wr_row _ _ (by decide), ha 12 (by decide) (by decide)]
    have next : ss (fun u => if M0 12 u = k then 1 else 0) 0 (j + 1) = (F : Int) + (if M0 12 j = k then 1 else 0) := by rw [ss_last, hc, Nat.zero_add]
    by_cases q : M0 12 j = k
    · have r14 : wr (wr (wr M 14 j (-1)) 14 j (-2)) 15 F (j : Int) 14 = put (put (M 14) j (-1)) j (-2) := by rw [wr_row _ _ (by decide), wr_put, wr_put]
      have r15 : wr (wr (wr M 14 j (-1)) 14 j (-2)) 15 F (j : Int) 15 = put (M 15) F (j : Int) := by rw [wr_put, wr_row _ _ (by decide), wr_row _ _ (by decide)]
      rw [if_pos q] at next
      obtain ⟨F', M', g1, g2⟩ := ih (j + 1) n (wr (wr (wr M 14 j (-1)) 14 j (-2)) 15 F (j : Int)) (F + 1) (by omega) (by omega) (fun a h1 h2 => by rw [wr_row _ _ h2, wr_row _ _ h1, wr_row _ _ h1, ha a h1 h2]) (fun u hu => by
        rw [r14]
        by_cases z : u = j
        · rw [z, put_at, if_pos q]
        · rw [put_ne z, put_ne z]; exact h14 u (by omega)) (fun i hi => by
        rw [r15]
        by_cases z : i = F
        · exact ⟨j, by omega, by rw [z, put_at], q⟩
        · obtain ⟨w, w1, w2, w3⟩ := hq i (by omega)
          exact ⟨w, by omega, by rw [put_ne z]; exact w2, w3⟩) (fun u hu z => by
        rw [r15]
        by_cases y : u = j
        · exact ⟨F, by omega, by rw [put_at, y]⟩
        · obtain ⟨i, i1, i2⟩ := hq2 u (by omega) z
          exact ⟨i, by omega, by rw [put_ne (by omega)]; exact i2⟩) (by rw [next]; omega)
      refine ⟨F', M', ?_, g2⟩
      rw [fX0_search_L5]
      refine w_gdR (by omega) (by omega) (w_f (by omega) (w_gdB (by omega) (by omega) (w_gdB (by omega) (by omega) ?_)))
      rw [Int.toNat_natCast, e12]
      refine w_gd (hp j hj) (w_gdR (by omega) (by omega) (w_bind (w_t q (w_gdB (by omega) (by omega) (w_gdB (by omega) (by omega) rfl))) ?_))
      rw [show (j : Int) + 1 = ((j + 1 : Nat) : Int) by omega, Int.toNat_natCast, show (F : Int) + 1 = ((F + 1 : Nat) : Int) by omega]
      exact g1
    · have r14 : wr M 14 j (-1) 14 = put (M 14) j (-1) := wr_put _ _ _ _
      have r15 : wr M 14 j (-1) 15 = M 15 := wr_row _ _ (by decide)
      rw [if_neg q, Int.add_zero] at next
      obtain ⟨F', M', g1, g2⟩ := ih (j + 1) n (wr M 14 j (-1)) F (by omega) (by omega) (fun a h1 h2 => by rw [wr_row _ _ h1, ha a h1 h2]) (fun u hu => by
        rw [r14]
        by_cases z : u = j
        · rw [z, put_at, if_neg q]
        · rw [put_ne z]; exact h14 u (by omega)) (fun i hi => by
        rw [r15]
        obtain ⟨w, w1, w2, w3⟩ := hq i (by omega)
        exact ⟨w, by omega, w2, w3⟩) (fun u hu z => by
        rw [r15]
        by_cases y : u = j
        · rw [y] at z; exact absurd z q
        · exact hq2 u (by omega) z) next
      refine ⟨F', M', ?_, g2⟩
      rw [fX0_search_L5]
      refine w_gdR (by omega) (by omega) (w_f (by omega) (w_gdB (by omega) (by omega) (w_gdB (by omega) (by omega) ?_)))
      rw [Int.toNat_natCast, e12]
      refine w_gd (hp j hj) (w_gdR (by omega) (by omega) (w_bind (w_f q rfl) ?_))
      rw [show (j : Int) + 1 = ((j + 1 : Nat) : Int) by omega]
      exact g1
theorem scC {k : Int} (hk : k = 1 ∨ k = 2) {M0 : Mem} (hg : GR M0) (hp : ∀ v, v < 36 → inR (M0 12 v)) (hfb : ∀ e, e < 60 → -(M0 4 e) ≤ M0 13 e ∧ M0 13 e ≤ M0 4 e) : ∃ (F : Nat) (M : Mem), fX0_search M0 k = some ((F : Int), M) ∧ ScI k M0 M F ∧ Rch (M0 12) (M0 4) (M0 13) k (fun v => sn14 M v = 1) := by
  obtain ⟨F1, M1, a1, a2⟩ := scI_L hk hp 36 0 FU M0 0 (by omega) (by have := FU_big; omega) (fun _ _ _ => rfl) (fun u hu => absurd hu (by omega)) (fun i hi => absurd hi (by omega)) (fun u hu => absurd hu (by omega)) rfl
  obtain ⟨F2, M2, b1, b2, b3⟩ := scQ_L hk hg hfb 36 0 FU M1 F1 (by omega) (by have := FU_big; omega) a2 (fun i hi => absurd hi (by omega))
  refine ⟨F2, M2, ?_, b2, b2.2.2.2.2.rch ?_⟩
  · unfold fX0_search
    exact w_bind a1 (w_bind b1 rfl)
  · have all : ∀ v, v < 36 → sn14 M2 v = 1 → SDf k (M0 4) (M0 13) M2 v 4 := fun v hv q => by
      obtain ⟨i, i1, i2⟩ := b2.2.2.1 v hv (sn14_1.mp q)
      exact b3 i i1 v hv i2
    intro e he
    have hl := lo_lt he
    have hh := hi_lt he
    have hne := lo_hi he
    have ol : oth e (lo e) = hi e := by unfold oth; exact if_pos rfl
    have oh : oth e (hi e) = lo e := by unfold oth; exact if_neg (by omega)
    have fl : lft (M0 4) (M0 13) e (lo e) = M0 4 e - M0 13 e := by unfold lft; rw [if_pos rfl]; omega
    have fh : lft (M0 4) (M0 13) e (hi e) = M0 4 e + M0 13 e := by unfold lft; rw [if_neg (by omega)]
    constructor
    · intro q r
      obtain ⟨s, s1, s2⟩ := inc_bes e he (lo e) hl (Or.inl rfl)
      have := all _ hl q s s1 (by omega)
      rw [s2, ol, fl, fh] at this
      exact sn14_1.mpr (this r)
    · intro q r
      obtain ⟨s, s1, s2⟩ := inc_bes e he (hi e) hh (Or.inr rfl)
      have := all _ hh q s s1 (by omega)
      rw [s2, oh, fl, fh] at this
      exact sn14_1.mpr (this r)
