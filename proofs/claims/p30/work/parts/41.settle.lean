/-! a row of the class is measured: its settling comes to the greatest closed function below what stood there -/
def rowOf (M : Mem) (tb b : Nat) : Nat → Int := fun v => M tb (b + v)
def onlyRow (M M' : Mem) (tb b : Nat) : Prop := ∀ a j, ¬ (a = tb ∧ b ≤ j ∧ j < b + 36) → M' a j = M a j
def okT (tb b : Nat) : Prop := (tb < 21 ∧ kzC tb = false) ∧ b + 36 ≤ lenC tb ∧ tb ≠ 0 ∧ tb ≠ 1 ∧ tb ≠ 2 ∧ tb ≠ 4
def bdd (r : Nat → Int) : Prop := ∀ v, v < 36 → 0 ≤ r v ∧ r v ≤ 1073741824
theorem onlyRow.refl (M : Mem) (tb b : Nat) : onlyRow M M tb b := fun _ _ _ => rfl
theorem onlyRow.trans {M M1 M2 : Mem} {tb b : Nat} (h1 : onlyRow M M1 tb b) (h2 : onlyRow M1 M2 tb b) : onlyRow M M2 tb b := fun a j h => (h2 a j h).trans (h1 a j h)
theorem onlyRow.arr {M M' : Mem} {tb b a : Nat} (h : onlyRow M M' tb b) (ha : a ≠ tb) : M' a = M a := funext fun j => h a j (fun q => ha q.1)
theorem onlyRow.grid {M M' : Mem} {tb b : Nat} (h : onlyRow M M' tb b) (ht : okT tb b) (hg : GR M) : GR M' := by
  unfold GR
  rw [h.arr (Ne.symm ht.2.2.1), h.arr (Ne.symm ht.2.2.2.1), h.arr (Ne.symm ht.2.2.2.2.1), h.arr (Ne.symm ht.2.2.2.2.2)]
  exact hg
theorem row_wr (M : Mem) (tb b v : Nat) (x : Int) : rowOf (wr M tb (b + v) x) tb b = put (rowOf M tb b) v x := by
  funext i
  unfold rowOf put wr
  by_cases c : i = v
  · rw [if_pos ⟨rfl, by omega⟩, if_pos c]
  · rw [if_neg (by omega), if_neg c]
theorem only_wr (M : Mem) (tb b : Nat) {v : Nat} (x : Int) (hv : v < 36) : onlyRow M (wr M tb (b + v) x) tb b := by
  intro a j h
  unfold wr
  exact if_neg (fun q => h ⟨q.1, by omega, by omega⟩)
/-- one edge laid on -/
def StE (p r r2 : Nat → Int) (e : Nat) : Prop := LE36 r2 r ∧ (r2 (hi e) ≤ r (lo e) + p e ∧ r2 (lo e) ≤ r (hi e) + p e) ∧ ∀ g, CLo p g → LE36 g r → LE36 g r2
theorem lowC {M : Mem} {tb b e : Nat} (hg : GR M) (ht : okT tb b) (he : e < 60) (hr : bdd (rowOf M tb b)) :
    ∃ ch M', fX2_lower M tb (b : Int) (e : Int) = some (ch, M') ∧ (ch = 0 ∨ ch = 1) ∧ onlyRow M M' tb b ∧ bdd (rowOf M' tb b) ∧ StE (M 4) (rowOf M tb b) (rowOf M' tb b) e ∧ (ch = 0 → M' = M) := by
  obtain ⟨g1, g2, g3, g4⟩ := hg.1 e he
  have hl := lo_lt he
  have hh := hi_lt he
  have hne := lo_hi he
  have r1 := hr _ hl
  have r2 := hr _ hh
  have hlen := ht.2.1
  unfold rowOf at r1 r2
  have i1 : ((b : Int) + (lo e : Int)).toNat = b + lo e := by omega
  have i2 : ((b : Int) + (hi e : Int)).toNat = b + hi e := by omega
  have pre : ∀ T, (if M tb (b + hi e) ≤ M tb (b + lo e) + M 4 e then (if M tb (b + lo e) ≤ M tb (b + hi e) + M 4 e then some (0, M) else some (1, wr M tb (b + lo e) (M tb (b + hi e) + M 4 e))) else some (1, wr M tb (b + hi e) (M tb (b + lo e) + M 4 e))) = some T → fX2_lower M tb (b : Int) (e : Int) = some T := by
    intro T k
    unfold fX2_lower
    refine w_gdB (by omega) (by omega) (w_gdB (by omega) (by omega) (w_gdB (by omega) (by omega) (w_gd ht.1 ?_)))
    rw [Int.toNat_natCast, g1, g2]
    refine w_gdB (by omega) (by omega) (w_gdB (by omega) (by omega) ?_)
    rw [i1, i2]
    refine w_gdR (by omega) (by omega) (w_gdR (by omega) (by omega) ?_)
    by_cases c : M tb (b + hi e) ≤ M tb (b + lo e) + M 4 e
    · rw [if_pos c] at k ⊢
      refine w_gdB (by omega) (by omega) (w_gdB (by omega) (by omega) (w_gdR (by omega) (by omega) (w_gdR (by omega) (by omega) ?_)))
      by_cases d : M tb (b + lo e) ≤ M tb (b + hi e) + M 4 e
      · rw [if_pos d] at k ⊢
        exact k
      · rw [if_neg d] at k ⊢
        exact w_gdB (by omega) (by omega) (w_gdB (by omega) (by omega) k)
    · rw [if_neg c] at k ⊢
      exact w_gdB (by omega) (by omega) (w_gdB (by omega) (by omega) k)
  by_cases c : M tb (b + hi e) ≤ M tb (b + lo e) + M 4 e
  · by_cases d : M tb (b + lo e) ≤ M tb (b + hi e) + M 4 e
    · exact ⟨0, M, pre _ (by rw [if_pos c, if_pos d]), Or.inl rfl, onlyRow.refl M tb b, hr, ⟨fun v _ => Int.le_refl _, ⟨c, d⟩, fun g _ h => h⟩, fun _ => rfl⟩
    · refine ⟨1, _, pre _ (by rw [if_pos c, if_neg d]), Or.inr rfl, only_wr M tb b _ hl, ?_, ?_, fun q => absurd q (by decide)⟩
      · intro v hv
        rw [row_wr]
        by_cases q : v = lo e
        · rw [q, put_at]; omega
        · rw [put_ne q]; exact hr v hv
      · rw [row_wr]
        refine ⟨fun v hv => ?_, ⟨?_, ?_⟩, fun g h1 h2 v hv => ?_⟩
        · by_cases q : v = lo e
          · rw [q, put_at]; unfold rowOf; omega
          · rw [put_ne q]; exact Int.le_refl _
        · rw [put_ne (by omega)]; exact c
        · rw [put_at]; exact Int.le_refl _
        · by_cases q : v = lo e
          · have a := h2 _ hh
            have z := (h1 e he).2
            unfold rowOf at a
            rw [q, put_at]; omega
          · rw [put_ne q]; exact h2 v hv
  · refine ⟨1, _, pre _ (by rw [if_neg c]), Or.inr rfl, only_wr M tb b _ hh, ?_, ?_, fun q => absurd q (by decide)⟩
    · intro v hv
      rw [row_wr]
      by_cases q : v = hi e
      · rw [q, put_at]; omega
      · rw [put_ne q]; exact hr v hv
    · rw [row_wr]
      refine ⟨fun v hv => ?_, ⟨?_, ?_⟩, fun g h1 h2 v hv => ?_⟩
      · by_cases q : v = hi e
        · rw [q, put_at]; unfold rowOf; omega
        · rw [put_ne q]; exact Int.le_refl _
      · rw [put_at]; exact Int.le_refl _
      · rw [put_ne (by omega)]; unfold rowOf; omega
      · by_cases q : v = hi e
        · have a := h2 _ hl
          have z := (h1 e he).1
          unfold rowOf at a
          rw [q, put_at]; omega
        · rw [put_ne q]; exact h2 v hv
theorem zor_bits : zor 0 0 = 0 ∧ zor 0 1 = 1 ∧ zor 1 0 = 1 ∧ zor 1 1 = 1 := by decide
theorem zor01 {x y : Int} (hx : x = 0 ∨ x = 1) (hy : y = 0 ∨ y = 1) : (zor x y = 0 ∨ zor x y = 1) ∧ (zor x y = 0 → x = 0 ∧ y = 0) := by
  obtain ⟨a, b, c, d⟩ := zor_bits
  rcases hx with rfl | rfl <;> rcases hy with rfl | rfl
  · rw [a]; exact ⟨Or.inl rfl, fun _ => ⟨rfl, rfl⟩⟩
  · rw [b]; exact ⟨Or.inr rfl, fun q => absurd q (by decide)⟩
  · rw [c]; exact ⟨Or.inr rfl, fun q => absurd q (by decide)⟩
  · rw [d]; exact ⟨Or.inr rfl, fun q => absurd q (by decide)⟩
/-- what a pass over some of the edges does to a row -/
def Pas (p r r2 : Nat → Int) (E : Nat → Prop) : Prop := LE36 r2 r ∧ (∀ e, e < 60 → E e → r2 (hi e) ≤ r (lo e) + p e ∧ r2 (lo e) ≤ r (hi e) + p e) ∧ ∀ g, CLo p g → LE36 g r → LE36 g r2
theorem Pas.step {p r r1 r2 : Nat → Int} {E F : Nat → Prop} {e : Nat} (h : Pas p r r1 E) (s : StE p r1 r2 e) (he : e < 60) (hF : ∀ i, F i → E i ∨ i = e) : Pas p r r2 F := by
  have hl := lo_lt he
  have hh := hi_lt he
  refine ⟨fun v hv => Int.le_trans (s.1 v hv) (h.1 v hv), fun i hi0 hi => ?_, fun g h1 h2 => s.2.2 g h1 (h.2.2 g h1 h2)⟩
  rcases hF i hi with q | q
  · have a := h.2.1 i hi0 q
    have b := s.1 _ (lo_lt hi0)
    have c := s.1 _ (hi_lt hi0)
    omega
  · subst q
    have a := s.2.1
    have b := h.1 _ hl
    have c := h.1 _ hh
    omega
theorem Pas.refl (p r : Nat → Int) (E : Nat → Prop) (hE : ∀ i, ¬ E i) : Pas p r r E := ⟨fun _ _ => Int.le_refl _, fun i _ h => absurd h (hE i), fun _ _ h => h⟩
theorem fwdC {M0 : Mem} {tb b : Nat} (ht : okT tb b) (hg0 : GR M0) (x4 : Int) : ∀ (m e n : Nat) (M : Mem) (x3 : Int), e + m = 60 → m < n → (x3 = 0 ∨ x3 = 1) → onlyRow M0 M tb b → bdd (rowOf M tb b) → Pas (M0 4) (rowOf M0 tb b) (rowOf M tb b) (fun i => i < e) → (x3 = 0 → M = M0) →
    ∃ y M', fX2_settle_L21 n M tb (b : Int) x3 x4 (e : Int) = some (y, M') ∧ (y = 0 ∨ y = 1) ∧ onlyRow M0 M' tb b ∧ bdd (rowOf M' tb b) ∧ Pas (M0 4) (rowOf M0 tb b) (rowOf M' tb b) (fun _ => True) ∧ (y = 0 → M' = M0) := by
  intro m
  induction m with
  | zero =>
    intro e n M x3 h hn hx ho hb hp hk
    obtain ⟨n, rfl⟩ : ∃ k, n = k + 1 := ⟨n - 1, by omega⟩
    refine ⟨x3, M, ?_, hx, ho, hb, ⟨hp.1, fun i hi0 _ => hp.2.1 i hi0 (show i < e by omega), hp.2.2⟩, hk⟩
    rw [fX2_settle_L21]
    exact w_gdR (by omega) (by omega) (w_t (by omega) rfl)
  | succ m ih =>
    intro e n M x3 h hn hx ho hb hp hk
    obtain ⟨n, rfl⟩ : ∃ k, n = k + 1 := ⟨n - 1, by omega⟩
    have he : e < 60 := by omega
    obtain ⟨ch, M1, q1, q2, q3, q4, q5, q6⟩ := lowC (ho.grid ht hg0) ht he hb
    rw [ho.arr (Ne.symm ht.2.2.2.2.2)] at q5
    have z := zor01 hx q2
    obtain ⟨y, M', k1, k2⟩ := ih (e + 1) n M1 (zor x3 ch) (by omega) (by omega) z.1 (ho.trans q3) q4 (hp.step q5 he (fun i hi => by omega)) (fun q => by rw [q6 (z.2 q).2, hk (z.2 q).1])
    refine ⟨y, M', ?_, k2⟩
    rw [fX2_settle_L21]
    refine w_gdR (by omega) (by omega) (w_f (by omega) (w_bind q1 ?_))
    rw [show (e : Int) + 1 = ((e + 1 : Nat) : Int) by omega]
    exact k1
theorem bwdC {M0 : Mem} {tb b : Nat} (ht : okT tb b) (hg0 : GR M0) (x4 : Int) : ∀ (m n : Nat) (M : Mem) (x3 : Int), m ≤ 60 → m < n → (x3 = 0 ∨ x3 = 1) → onlyRow M0 M tb b → bdd (rowOf M tb b) → Pas (M0 4) (rowOf M0 tb b) (rowOf M tb b) (fun _ => True) → (x3 = 0 → M = M0) →
    ∃ y M', fX2_settle_L49 n M tb (b : Int) x3 x4 ((m : Int) - 1) = some (y, M') ∧ (y = 0 ∨ y = 1) ∧ onlyRow M0 M' tb b ∧ bdd (rowOf M' tb b) ∧ Pas (M0 4) (rowOf M0 tb b) (rowOf M' tb b) (fun _ => True) ∧ (y = 0 → M' = M0) := by
  intro m
  induction m with
  | zero =>
    intro n M x3 h hn hx ho hb hp hk
    obtain ⟨n, rfl⟩ : ∃ k, n = k + 1 := ⟨n - 1, by omega⟩
    refine ⟨x3, M, ?_, hx, ho, hb, hp, hk⟩
    rw [fX2_settle_L49]
    exact w_gdR (by omega) (by omega) (w_t (by omega) rfl)
  | succ m ih =>
    intro n M x3 h hn hx ho hb hp hk
    obtain ⟨n, rfl⟩ : ∃ k, n = k + 1 := ⟨n - 1, by omega⟩
    have he : m < 60 := by omega
    obtain ⟨ch, M1, q1, q2, q3, q4, q5, q6⟩ := lowC (ho.grid ht hg0) ht he hb
    rw [ho.arr (Ne.symm ht.2.2.2.2.2)] at q5
    have z := zor01 hx q2
    obtain ⟨y, M', k1, k2⟩ := ih n M1 (zor x3 ch) (by omega) (by omega) z.1 (ho.trans q3) q4 (hp.step q5 he (fun i hi => Or.inl hi)) (fun q => by rw [q6 (z.2 q).2, hk (z.2 q).1])
    refine ⟨y, M', ?_, k2⟩
    rw [fX2_settle_L49, show ((m + 1 : Nat) : Int) - 1 = (m : Int) by omega]
    refine w_gdR (by omega) (by omega) (w_f (by omega) (w_bind q1 ?_))
    rw [show (m : Int) + (-1) = (m : Int) - 1 by omega]
    exact k1
theorem setC_L {Mi : Mem} {tb b : Nat} (ht : okT tb b) (hgi : GR Mi) {f t : Nat → Int} (hG : GC (Mi 4) f t) : ∀ (m k n : Nat) (M : Mem) (x3 : Int), k + m = 36 → m < n → (x3 = 0 ∨ x3 = 1) → onlyRow Mi M tb b → bdd (rowOf M tb b) → LE36 (rowOf M tb b) f → LE36 t (rowOf M tb b) → (x3 = 0 → CLo (Mi 4) (rowOf M tb b)) → ((k : Int) ≤ nFin (rowOf M tb b) t ∨ ∀ v, v < 36 → rowOf M tb b v = t v) →
    ∃ M', fX2_settle_L5 n M tb (b : Int) x3 (k : Int) = some M' ∧ onlyRow Mi M' tb b ∧ ∀ v, v < 36 → rowOf M' tb b v = t v := by
  intro m
  induction m with
  | zero =>
    intro k n M x3 h hn hx ho hb hf ht2 hc hN
    obtain ⟨n, rfl⟩ : ∃ k, n = k + 1 := ⟨n - 1, by omega⟩
    refine ⟨M, ?_, ho, ?_⟩
    · rw [fX2_settle_L5]
      exact w_gdR (by omega) (by omega) (w_t (by omega) rfl)
    · rcases hN with q | q
      · exact nFin_full (by omega)
      · exact q
  | succ m ih =>
    intro k n M x3 h hn hx ho hb hf ht2 hc hN
    obtain ⟨n, rfl⟩ : ∃ k, n = k + 1 := ⟨n - 1, by omega⟩
    by_cases c : x3 = 0
    · refine ⟨M, ?_, ho, fun v hv => ?_⟩
      · rw [fX2_settle_L5]
        exact w_gdR (by omega) (by omega) (w_f (by omega) (w_gdR (by omega) (by omega) (w_t c rfl)))
      · exact Int.le_antisymm (hG.2.2 _ (hc c) hf v hv) (ht2 v hv)
    · have hgM := ho.grid ht hgi
      have e4 : M 4 = Mi 4 := ho.arr (Ne.symm ht.2.2.2.2.2)
      obtain ⟨y1, M1, a1, a2, a3, a4, a5, a6⟩ := fwdC ht hgM (k : Int) 60 0 FU M 0 (by omega) (by have := FU_big; omega) (Or.inl rfl) (onlyRow.refl M tb b) hb (Pas.refl _ _ _ (fun i => Nat.not_lt_zero i)) (fun _ => rfl)
      obtain ⟨y2, M2, b1, b2, b3, b4, b5, b6⟩ := bwdC ht hgM (k : Int) 60 FU M1 y1 (by omega) (by have := FU_big; omega) a2 a3 a4 a5 a6
      rw [e4] at b5
      have hp1 : ∀ e, e < 60 → 1 ≤ Mi 4 e := fun e he => (hgi.1 e he).2.2.1
      have low2 : LE36 t (rowOf M2 tb b) := b5.2.2 t hG.1 ht2
      obtain ⟨M', k1, k2, k3⟩ := ih (k + 1) n M2 y2 (by omega) (by omega) b2 (ho.trans b3) b4 (fun v hv => Int.le_trans (b5.1 v hv) (hf v hv)) low2 (fun q => by
        have e := b6 q
        rw [e] at b5 ⊢
        intro i hi0
        exact b5.2.1 i hi0 trivial) (by
        by_cases d : ∃ v, v < 36 ∧ rowOf M tb b v ≠ t v
        · left
          have p1 := pass_more hp1 hG ht2 hf low2 b5.1 (fun e he => b5.2.1 e he trivial) d
          rcases hN with q | q
          · omega
          · obtain ⟨v, v1, v2⟩ := d
            exact absurd (q v v1) v2
        · right
          intro v hv
          have e : rowOf M tb b v = t v := Classical.byContradiction fun q => d ⟨v, hv, q⟩
          have u1 := b5.1 v hv
          have u2 := low2 v hv
          omega)
      refine ⟨M', ?_, k2, k3⟩
      rw [fX2_settle_L5]
      refine w_gdR (by omega) (by omega) (w_f (by omega) (w_gdR (by omega) (by omega) (w_f c (w_bind a1 (w_bind b1 ?_)))))
      rw [show (k : Int) + 1 = ((k + 1 : Nat) : Int) by omega]
      exact k1
theorem setC {M : Mem} {tb b : Nat} (ht : okT tb b) (hg : GR M) (hb : bdd (rowOf M tb b)) {t : Nat → Int} (hG : GC (M 4) (rowOf M tb b) t) : ∃ M', fX2_settle M tb (b : Int) = some M' ∧ onlyRow M M' tb b ∧ ∀ v, v < 36 → rowOf M' tb b v = t v := by
  have n0 : 0 ≤ nFin (rowOf M tb b) t := ss_nn 36 0 (fun i _ _ => by show 0 ≤ (if rowOf M tb b i = t i then (1 : Int) else 0); split <;> decide)
  obtain ⟨M', h1, h2⟩ := setC_L ht hg hG 36 0 FU M 1 (by omega) (by have := FU_big; omega) (Or.inr rfl) (onlyRow.refl M tb b) hb (fun _ _ => Int.le_refl _) hG.2.1 (fun q => absurd q (by decide)) (Or.inl n0)
  refine ⟨M', ?_, h2⟩
  unfold fX2_settle
  exact w_bind h1 rfl
/-- the start of a measuring: nothing at the node, a million elsewhere -/
def stR (u : Nat) (B : Int) : Nat → Int := fun v => if v = u then 0 else B
theorem meaC_L {Mi : Mem} {tb b u : Nat} (ht : okT tb b) (hu : u < 36) : ∀ (m k n : Nat) (M : Mem), k + m = 36 → m < n → onlyRow Mi M tb b → (∀ v, v < k → rowOf M tb b v = stR u 1000000 v) →
    ∃ M', fX2_measure_L3 n M tb (b : Int) (u : Int) (k : Int) = some M' ∧ onlyRow Mi M' tb b ∧ ∀ v, v < 36 → rowOf M' tb b v = stR u 1000000 v := by
  intro m
  induction m with
  | zero =>
    intro k n M h hn ho hk
    obtain ⟨n, rfl⟩ : ∃ k, n = k + 1 := ⟨n - 1, by omega⟩
    refine ⟨M, ?_, ho, fun v hv => hk v (by omega)⟩
    rw [fX2_measure_L3]
    exact w_gdR (by omega) (by omega) (w_t (by omega) rfl)
  | succ m ih =>
    intro k n M h hn ho hk
    obtain ⟨n, rfl⟩ : ∃ k, n = k + 1 := ⟨n - 1, by omega⟩
    have hlen := ht.2.1
    obtain ⟨M', k1, k2⟩ := ih (k + 1) n (wr M tb (b + k) (stR u 1000000 k)) (by omega) (by omega) (ho.trans (only_wr M tb b _ (by omega))) (fun v hv => by
      rw [row_wr]
      by_cases q : v = k
      · rw [q, put_at]
      · rw [put_ne q]; exact hk v (by omega))
    refine ⟨M', ?_, k2⟩
    rw [fX2_measure_L3]
    refine w_gdR (by omega) (by omega) (w_f (by omega) (w_gdR (by omega) (by omega) (w_bind (t := stR u 1000000 k) ?_ (w_gd ht.1 (w_gdB (by omega) (by omega) ?_)))))
    · unfold stR
      by_cases q : k = u
      · rw [if_pos q]; exact w_t (by omega) rfl
      · rw [if_neg q]; exact w_f (by omega) rfl
    · rw [show ((b : Int) + (k : Int)).toNat = b + k by omega, show (k : Int) + 1 = ((k + 1 : Nat) : Int) by omega]
      exact k1
theorem meaC {M : Mem} {tb b u : Nat} (ht : okT tb b) (hg : GR M) (hu : u < 36) {t : Nat → Int} (hG : GC (M 4) (stR u 1000000) t) : ∃ M', fX2_measure M tb (b : Int) (u : Int) = some M' ∧ onlyRow M M' tb b ∧ ∀ v, v < 36 → rowOf M' tb b v = t v := by
  obtain ⟨M1, a1, a2, a3⟩ := meaC_L (Mi := M) ht hu 36 0 FU M (by omega) (by have := FU_big; omega) (onlyRow.refl M tb b) (fun v hv => absurd hv (by omega))
  have e4 : M1 4 = M 4 := a2.arr (Ne.symm ht.2.2.2.2.2)
  have hb : bdd (rowOf M1 tb b) := fun v hv => by
    rw [a3 v hv]
    unfold stR
    split <;> decide
  have hG1 : GC (M1 4) (rowOf M1 tb b) t := by
    rw [e4]
    exact ⟨hG.1, fun v hv => by rw [a3 v hv]; exact hG.2.1 v hv, fun g h1 h2 => hG.2.2 g h1 (fun v hv => by rw [← a3 v hv]; exact h2 v hv)⟩
  obtain ⟨M2, b1, b2, b3⟩ := setC ht (a2.grid ht hg) hb hG1
  refine ⟨M2, ?_, a2.trans b2, b3⟩
  unfold fX2_measure
  exact w_bind a1 (w_bind b1 rfl)
