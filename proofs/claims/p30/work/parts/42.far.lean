/-! how far a node is: on the whole grid no two nodes are more than 590 apart; the reference's far table -/
theorem h_edge : ∀ a, a < 6 → ∀ b, b < 5 → 5 * a + b < 60 ∧ lo (5 * a + b) = 6 * a + b ∧ hi (5 * a + b) = 6 * a + b + 1 := by decide
theorem v_edge : ∀ v, v < 30 → 30 + v < 60 ∧ lo (30 + v) = v ∧ hi (30 + v) = v + 6 := by decide
def PR (p : Nat → Int) : Prop := ∀ e, e < 60 → 0 ≤ p e ∧ p e ≤ 59
theorem row_near {p g : Nat → Int} (hp : PR p) (h : CLo p g) {a : Nat} (ha : a < 6) : ∀ b, b < 6 → ∀ c, c < 6 → g (6 * a + b) ≤ g (6 * a + c) + 295 := by
  have st : ∀ b, b < 5 → g (6 * a + b + 1) ≤ g (6 * a + b) + 59 ∧ g (6 * a + b) ≤ g (6 * a + b + 1) + 59 := fun b hb => by
    obtain ⟨e1, e2, e3⟩ := h_edge a ha b hb
    have x := h _ e1
    have y := hp _ e1
    rw [e2, e3] at x
    omega
  have s0 := st 0 (by omega)
  have s1 := st 1 (by omega)
  have s2 := st 2 (by omega)
  have s3 := st 3 (by omega)
  have s4 := st 4 (by omega)
  simp only [Nat.add_zero, Nat.add_assoc, Nat.zero_add, Nat.reduceAdd] at s0 s1 s2 s3 s4
  intro b hb c hc
  have hb2 : b = 0 ∨ b = 1 ∨ b = 2 ∨ b = 3 ∨ b = 4 ∨ b = 5 := by omega
  have hc2 : c = 0 ∨ c = 1 ∨ c = 2 ∨ c = 3 ∨ c = 4 ∨ c = 5 := by omega
  rcases hb2 with rfl | rfl | rfl | rfl | rfl | rfl <;> rcases hc2 with rfl | rfl | rfl | rfl | rfl | rfl <;> (try simp only [Nat.add_zero]) <;> omega
theorem col_near {p g : Nat → Int} (hp : PR p) (h : CLo p g) {b : Nat} (hb : b < 6) : ∀ a, a < 6 → ∀ c, c < 6 → g (6 * a + b) ≤ g (6 * c + b) + 295 := by
  have st : ∀ v, v < 30 → g (v + 6) ≤ g v + 59 ∧ g v ≤ g (v + 6) + 59 := fun v hv => by
    obtain ⟨e1, e2, e3⟩ := v_edge v hv
    have x := h _ e1
    have y := hp _ e1
    rw [e2, e3] at x
    omega
  have s0 := st b (by omega)
  have s1 := st (b + 6) (by omega)
  have s2 := st (b + 12) (by omega)
  have s3 := st (b + 18) (by omega)
  have s4 := st (b + 24) (by omega)
  simp only [Nat.add_assoc, Nat.reduceAdd] at s0 s1 s2 s3 s4
  intro a ha c hc
  have e0 : 6 * 0 + b = b := by omega
  have e1 : 6 * 1 + b = b + 6 := by omega
  have e2 : 6 * 2 + b = b + 12 := by omega
  have e3 : 6 * 3 + b = b + 18 := by omega
  have e4 : 6 * 4 + b = b + 24 := by omega
  have e5 : 6 * 5 + b = b + 30 := by omega
  have ha2 : a = 0 ∨ a = 1 ∨ a = 2 ∨ a = 3 ∨ a = 4 ∨ a = 5 := by omega
  have hc2 : c = 0 ∨ c = 1 ∨ c = 2 ∨ c = 3 ∨ c = 4 ∨ c = 5 := by omega
  rcases ha2 with rfl | rfl | rfl | rfl | rfl | rfl <;> rcases hc2 with rfl | rfl | rfl | rfl | rfl | rfl <;> simp only [e0, e1, e2, e3, e4, e5] <;> omega
theorem near {p g : Nat → Int} (hp : PR p) (h : CLo p g) {u v : Nat} (hu : u < 36) (hv : v < 36) : g v ≤ g u + 590 := by
  have a := row_near hp h (a := v / 6) (by omega) (v % 6) (by omega) (u % 6) (by omega)
  have b := col_near hp h (b := u % 6) (by omega) (v / 6) (by omega) (u / 6) (by omega)
  rw [show 6 * (v / 6) + v % 6 = v by omega] at a
  rw [show 6 * (u / 6) + u % 6 = u by omega] at b
  omega
/-- the distance from a node -/
def Dst (p : Nat → Int) (u : Nat) (t : Nat → Int) : Prop := CLo p t ∧ t u ≤ 0 ∧ ∀ g, CLo p g → g u ≤ 0 → LE36 g t
theorem Dst.gc {p t : Nat → Int} {u : Nat} (hp : PR p) (hu : u < 36) (h : Dst p u t) {B : Int} (hB : 590 ≤ B) : GC p (stR u B) t := by
  refine ⟨h.1, fun v hv => ?_, fun g h1 h2 => h.2.2 g h1 ?_⟩
  · have a := near hp h.1 hu hv
    have b := h.2.1
    unfold stR
    by_cases c : v = u
    · rw [if_pos c, c]; exact b
    · rw [if_neg c]; omega
  · have a := h2 u hu
    unfold stR at a
    rw [if_pos rfl] at a
    exact a
theorem Dst_ex {p : Nat → Int} (hp : PR p) {u : Nat} (hu : u < 36) : ∃ t, Dst p u t ∧ ∀ v, v < 36 → 0 ≤ t v ∧ t v ≤ 590 := by
  obtain ⟨t, h, h0⟩ := GC_ex (p := p) (f := stR u 590) (fun e he => (hp e he).1) (fun v _ => by unfold stR; split <;> decide)
  have hu0 : t u ≤ 0 := by
    have a := h.2.1 u hu
    unfold stR at a
    rw [if_pos rfl] at a
    exact a
  refine ⟨t, ⟨h.1, hu0, fun g h1 h2 => h.2.2 g h1 fun v hv => ?_⟩, fun v hv => ⟨h0 v hv, by have := near hp h.1 hu hv; omega⟩⟩
  have a := near hp h1 hu hv
  unfold stR
  by_cases c : v = u
  · rw [if_pos c, c]; exact h2
  · rw [if_neg c]; omega
theorem Dst_one {p t s : Nat → Int} {u : Nat} (h : Dst p u t) (k : Dst p u s) : ∀ v, v < 36 → t v = s v := fun v hv => Int.le_antisymm (k.2.2 t h.1 h.2.1 v hv) (h.2.2 s k.1 k.2.1 v hv)
theorem MR.PR {M : Mem} (h : MR M) : PR (coM M) := fun e he => by have := coM_bd h he; omega
theorem coM_only {M M' : Mem} {tb b : Nat} (h : onlyRow M M' tb b) (h0 : tb ≠ 0) (h1 : tb ≠ 1) : coM M' = coM M := by
  funext e
  unfold coM
  rw [h.arr (Ne.symm h0), h.arr (Ne.symm h1)]
theorem MR_only {M M' : Mem} {tb b : Nat} (h : onlyRow M M' tb b) (h0 : tb ≠ 0) (h1 : tb ≠ 1) (hm : MR M) : MR M' := by
  unfold MR
  rw [h.arr (Ne.symm h0), h.arr (Ne.symm h1)]
  exact hm
theorem row6_wr (M : Mem) (v : Nat) (x : Int) : rowOf (wr M 6 v x) 6 0 = put (rowOf M 6 0) v x := by
  have := row_wr M 6 0 v x
  rw [Nat.zero_add] at this
  exact this
theorem only6_wr (M : Mem) {v : Nat} (x : Int) (hv : v < 36) : onlyRow M (wr M 6 v x) 6 0 := by
  have := only_wr M 6 0 x hv
  rw [Nat.zero_add] at this
  exact this
theorem farP {Mi : Mem} (hm : MR Mi) : ∀ (m e n : Nat) (M : Mem) (x2 : Int), e + m = 60 → m < n → onlyRow Mi M 6 0 → bdd (rowOf M 6 0) → Pas (coM Mi) (rowOf Mi 6 0) (rowOf M 6 0) (fun i => i < e) →
    ∃ M', fX6_findFar_L41 n M x2 (e : Int) = some M' ∧ onlyRow Mi M' 6 0 ∧ bdd (rowOf M' 6 0) ∧ Pas (coM Mi) (rowOf Mi 6 0) (rowOf M' 6 0) (fun _ => True) := by
  intro m
  induction m with
  | zero =>
    intro e n M x2 h hn ho hb hp
    obtain ⟨n, rfl⟩ : ∃ k, n = k + 1 := ⟨n - 1, by omega⟩
    refine ⟨M, ?_, ho, hb, ⟨hp.1, fun i hi0 _ => hp.2.1 i hi0 (show i < e by omega), hp.2.2⟩⟩
    rw [fX6_findFar_L41]
    exact w_gdR (by omega) (by omega) (w_t (by omega) rfl)
  | succ m ih =>
    intro e n M x2 h hn ho hb hp
    obtain ⟨n, rfl⟩ : ∃ k, n = k + 1 := ⟨n - 1, by omega⟩
    have he : e < 60 := by omega
    have hl := lo_lt he
    have hh := hi_lt he
    have hne := lo_hi he
    have r1 := hb _ hl
    have r2 := hb _ hh
    have hc := coM_bd hm he
    have ec : coM M = coM Mi := coM_only ho (by decide) (by decide)
    unfold rowOf at r1 r2
    rw [Nat.zero_add] at r1 r2
    -- the two new values
    obtain ⟨x, hx⟩ : ∃ x, x = if M 6 (hi e) ≤ M 6 (lo e) + coM Mi e then M 6 (hi e) else M 6 (lo e) + coM Mi e := ⟨_, rfl⟩
    obtain ⟨y, hy⟩ : ∃ y, y = if M 6 (lo e) ≤ x + coM Mi e then M 6 (lo e) else x + coM Mi e := ⟨_, rfl⟩
    have bx : 0 ≤ x ∧ x ≤ M 6 (hi e) ∧ x ≤ M 6 (lo e) + coM Mi e := by rw [hx]; split <;> omega
    have by1 : 0 ≤ y ∧ y ≤ M 6 (lo e) ∧ y ≤ x + coM Mi e := by rw [hy]; split <;> omega
    have o1 := only6_wr M x hh
    have o2 := only6_wr (wr M 6 (hi e) x) y hl
    have ec2 : coM (wr M 6 (hi e) x) = coM Mi := (coM_only o1 (by decide) (by decide)).trans ec
    have w1 : wr M 6 (hi e) x 6 (hi e) = x := wr_at M 6 (hi e) x
    have w2 : wr M 6 (hi e) x 6 (lo e) = M 6 (lo e) := by unfold wr; exact if_neg (by omega)
    have er : rowOf (wr (wr M 6 (hi e) x) 6 (lo e) y) 6 0 = put (put (rowOf M 6 0) (hi e) x) (lo e) y := by rw [row6_wr, row6_wr]
    have rl : rowOf M 6 0 (lo e) = M 6 (lo e) := by unfold rowOf; rw [Nat.zero_add]
    have rh : rowOf M 6 0 (hi e) = M 6 (hi e) := by unfold rowOf; rw [Nat.zero_add]
    have s : StE (coM Mi) (rowOf M 6 0) (rowOf (wr (wr M 6 (hi e) x) 6 (lo e) y) 6 0) e := by
      rw [er]
      refine ⟨fun v hv => ?_, ⟨?_, ?_⟩, fun g h1 h2 v hv => ?_⟩
      · by_cases q : v = lo e
        · rw [q, put_at, rl]; omega
        · rw [put_ne q]
          by_cases q2 : v = hi e
          · rw [q2, put_at, rh]; omega
          · rw [put_ne q2]; exact Int.le_refl _
      · rw [put_ne (by omega), put_at, rl]; omega
      · rw [put_at, rh]; omega
      · have a := h2 _ hl
        have b := h2 _ hh
        have z := h1 e he
        rw [rl] at a
        rw [rh] at b
        have gx : g (hi e) ≤ x := by rw [hx]; split <;> omega
        by_cases q : v = lo e
        · rw [q, put_at, hy]; split <;> omega
        · rw [put_ne q]
          by_cases q2 : v = hi e
          · rw [q2, put_at]; exact gx
          · rw [put_ne q2]; exact h2 v hv
    have hb2 : bdd (rowOf (wr (wr M 6 (hi e) x) 6 (lo e) y) 6 0) := fun v hv => by
      rw [er]
      by_cases q : v = lo e
      · rw [q, put_at]; omega
      · rw [put_ne q]
        by_cases q2 : v = hi e
        · rw [q2, put_at]; omega
        · rw [put_ne q2]; exact hb v hv
    obtain ⟨M', k1, k2⟩ := ih (e + 1) n _ x2 (by omega) (by omega) (ho.trans (o1.trans o2)) hb2 (hp.step s he (fun i hi => by omega))
    refine ⟨M', ?_, k2⟩
    rw [fX6_findFar_L41]
    refine w_gdR (by omega) (by omega) (w_f (by omega) (w_bind (m_first M he) (w_bind (m_second M he) (w_gdB (by omega) (by omega) (w_bind (m_cost M he) (w_gdB (by omega) (by omega) ?_))))))
    rw [Int.toNat_natCast, Int.toNat_natCast, ec]
    refine w_gdR (by omega) (by omega) (w_gdR (by omega) (by omega) (w_bind (t := x) ?_ ?_))
    · rw [hx]
      by_cases q : M 6 (hi e) ≤ M 6 (lo e) + coM Mi e
      · rw [if_pos q, if_pos q]; exact w_gdB (by omega) (by omega) rfl
      · rw [if_neg q, if_neg q]; exact w_gdB (by omega) (by omega) (w_bind (m_cost M he) (by rw [ec]))
    · refine w_gdB (by omega) (by omega) (w_gdB (by omega) (by omega) (w_bind (m_cost _ he) (w_gdB (by omega) (by omega) ?_)))
      rw [w1, w2, ec2]
      refine w_gdR (by omega) (by omega) (w_gdR (by omega) (by omega) (w_bind (t := y) ?_ ?_))
      · rw [hy]
        by_cases q : M 6 (lo e) ≤ x + coM Mi e
        · rw [if_pos q, if_pos q]; exact w_gdB (by omega) (by omega) rfl
        · rw [if_neg q, if_neg q]; exact w_gdB (by omega) (by omega) (w_bind (m_cost _ he) (by rw [ec2]))
      · refine w_gdB (by omega) (by omega) ?_
        rw [show (e : Int) + 1 = ((e + 1 : Nat) : Int) by omega]
        exact k1
theorem farL {Mi : Mem} (hmi : MR Mi) {f t : Nat → Int} (hG : GC (coM Mi) f t) : ∀ (m k n : Nat) (M : Mem), k + m = 36 → m < n → onlyRow Mi M 6 0 → bdd (rowOf M 6 0) → LE36 (rowOf M 6 0) f → LE36 t (rowOf M 6 0) → ((k : Int) ≤ nFin (rowOf M 6 0) t ∨ ∀ v, v < 36 → rowOf M 6 0 v = t v) →
    ∃ M', fX6_findFar_L33 n M (k : Int) = some M' ∧ onlyRow Mi M' 6 0 ∧ ∀ v, v < 36 → rowOf M' 6 0 v = t v := by
  intro m
  induction m with
  | zero =>
    intro k n M h hn ho hb hf ht2 hN
    obtain ⟨n, rfl⟩ : ∃ k, n = k + 1 := ⟨n - 1, by omega⟩
    refine ⟨M, ?_, ho, ?_⟩
    · rw [fX6_findFar_L33]
      exact w_gdR (by omega) (by omega) (w_t (by omega) rfl)
    · rcases hN with q | q
      · exact nFin_full (by omega)
      · exact q
  | succ m ih =>
    intro k n M h hn ho hb hf ht2 hN
    obtain ⟨n, rfl⟩ : ∃ k, n = k + 1 := ⟨n - 1, by omega⟩
    have hmM := MR_only ho (by decide) (by decide) hmi
    have e4 : coM M = coM Mi := coM_only ho (by decide) (by decide)
    obtain ⟨M2, b1, b3, b4, b5⟩ := farP hmM 60 0 FU M (k : Int) (by omega) (by have := FU_big; omega) (onlyRow.refl M 6 0) hb (Pas.refl _ _ _ (fun i => Nat.not_lt_zero i))
    rw [e4] at b5
    have hp1 : ∀ e, e < 60 → 1 ≤ coM Mi e := fun e he => (coM_bd hmi he).1
    have low2 : LE36 t (rowOf M2 6 0) := b5.2.2 t hG.1 ht2
    obtain ⟨M', k1, k2, k3⟩ := ih (k + 1) n M2 (by omega) (by omega) (ho.trans b3) b4 (fun v hv => Int.le_trans (b5.1 v hv) (hf v hv)) low2 (by
      by_cases d : ∃ v, v < 36 ∧ rowOf M 6 0 v ≠ t v
      · left
        have p1 := pass_more hp1 hG ht2 hf low2 b5.1 (fun e he => b5.2.1 e he trivial) d
        rcases hN with q | q
        · omega
        · obtain ⟨v, v1, v2⟩ := d
          exact absurd (q v v1) v2
      · right
        intro v hv
        have e : rowOf M 6 0 v = t v := Classical.byContradiction fun q => d ⟨v, hv, q⟩
        have u1 := b5.1 v hv
        have u2 := low2 v hv
        omega)
    refine ⟨M', ?_, k2, k3⟩
    rw [fX6_findFar_L33]
    refine w_gdR (by omega) (by omega) (w_f (by omega) (w_bind b1 ?_))
    rw [show (k : Int) + 1 = ((k + 1 : Nat) : Int) by omega]
    exact k1
theorem farI {Mi : Mem} {u : Nat} (hu : u < 36) : ∀ (m k n : Nat) (M : Mem), k + m = 36 → m < n → onlyRow Mi M 6 0 → (∀ v, v < k → rowOf M 6 0 v = stR u 1000000000 v) →
    ∃ M', fX6_findFar_L2 n M (u : Int) (k : Int) = some M' ∧ onlyRow Mi M' 6 0 ∧ ∀ v, v < 36 → rowOf M' 6 0 v = stR u 1000000000 v := by
  intro m
  induction m with
  | zero =>
    intro k n M h hn ho hk
    obtain ⟨n, rfl⟩ : ∃ k, n = k + 1 := ⟨n - 1, by omega⟩
    refine ⟨M, ?_, ho, fun v hv => hk v (by omega)⟩
    rw [fX6_findFar_L2]
    exact w_gdR (by omega) (by omega) (w_t (by omega) rfl)
  | succ m ih =>
    intro k n M h hn ho hk
    obtain ⟨n, rfl⟩ : ∃ k, n = k + 1 := ⟨n - 1, by omega⟩
    obtain ⟨M', k1, k2⟩ := ih (k + 1) n (wr M 6 k (stR u 1000000000 k)) (by omega) (by omega) (ho.trans (only6_wr M _ (by omega))) (fun v hv => by
      rw [row6_wr]
      by_cases q : v = k
      · rw [q, put_at]
      · rw [put_ne q]; exact hk v (by omega))
    refine ⟨M', ?_, k2⟩
    rw [fX6_findFar_L2]
    refine w_gdR (by omega) (by omega) (w_f (by omega) (w_gdR (by omega) (by omega) (w_bind (t := stR u 1000000000 k) ?_ (w_gdB (by omega) (by omega) ?_))))
    · unfold stR
      by_cases q : k = u
      · rw [if_pos q]; exact w_t (by omega) rfl
      · rw [if_neg q]; exact w_f (by omega) rfl
    · rw [Int.toNat_natCast, show (k : Int) + 1 = ((k + 1 : Nat) : Int) by omega]
      exact k1
theorem farM {M : Mem} (hm : MR M) {u : Nat} (hu : u < 36) {t : Nat → Int} (hD : Dst (coM M) u t) : ∃ M', fX6_findFar M (u : Int) = some M' ∧ onlyRow M M' 6 0 ∧ ∀ v, v < 36 → M' 6 v = t v := by
  obtain ⟨M1, a1, a2, a3⟩ := farI (Mi := M) hu 36 0 FU M (by omega) (by have := FU_big; omega) (onlyRow.refl M 6 0) (fun v hv => absurd hv (by omega))
  have e4 : coM M1 = coM M := coM_only a2 (by decide) (by decide)
  have hG := hD.gc hm.PR hu (B := 1000000000) (by decide)
  have hb : bdd (rowOf M1 6 0) := fun v hv => by
    rw [a3 v hv]
    unfold stR
    split <;> decide
  have n0 : 0 ≤ nFin (rowOf M1 6 0) t := ss_nn 36 0 (fun i _ _ => by show 0 ≤ (if rowOf M1 6 0 i = t i then (1 : Int) else 0); split <;> decide)
  obtain ⟨M2, b1, b2, b3⟩ := farL (MR_only a2 (by decide) (by decide) hm) (f := stR u 1000000000) (t := t) (by rw [e4]; exact hG) 36 0 FU M1 (by omega) (by have := FU_big; omega) (onlyRow.refl M1 6 0) hb (fun v hv => by rw [a3 v hv]; exact Int.le_refl _) (fun v hv => by rw [a3 v hv]; exact hG.2.1 v hv) (Or.inl n0)
  refine ⟨M2, ?_, a2.trans b2, fun v hv => by have := b3 v hv; unfold rowOf at this; rw [Nat.zero_add] at this; exact this⟩
  unfold fX6_findFar
  exact w_bind a1 (w_bind b1 rfl)
