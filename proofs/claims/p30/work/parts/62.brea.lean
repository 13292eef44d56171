/-! a breath on both sides at once, and what it does to the energy -/
theorem wr_put (M : Mem) (a v : Nat) (x : Int) : wr M a v x a = put (M a) v x := by
  funext i
  unfold wr put
  by_cases q : i = v
  · rw [if_pos ⟨rfl, q⟩, if_pos q]
  · rw [if_neg (fun z => q z.2), if_neg q]
theorem wr_self (M : Mem) (a v : Nat) : wr M a v (M a v) = M := by
  funext b j
  unfold wr
  by_cases q : b = a ∧ j = v
  · rw [if_pos q, q.1, q.2]
  · rw [if_neg q]
theorem put_self (b : Nat → Int) (v : Nat) : put b v (b v) = b := by
  funext i
  unfold put
  by_cases q : i = v
  · rw [if_pos q, q]
  · rw [if_neg q]
theorem only_wr0 (M : Mem) (tb : Nat) {v : Nat} (x : Int) (hv : v < 36) : onlyRow M (wr M tb v x) tb 0 := by
  have := only_wr M tb 0 x hv
  rw [Nat.zero_add] at this
  exact this
def enR (pc b : Nat → Int) (v : Nat) : Int := ss (fun e => if otM e v = 36 then (if b (lo e) = b (hi e) then 0 else pc e) else 0) 0 60
theorem en_put (pc b : Nat → Int) {v : Nat} (hv : v < 36) (k : Int) : enS pc (put b v k) = enR pc b v + wwS pc b v k := by
  have key : ∀ e, e < 60 → (if put b v k (lo e) = put b v k (hi e) then 0 else pc e) = (if otM e v = 36 then (if b (lo e) = b (hi e) then 0 else pc e) else 0) + (if otM e v = 36 then 0 else if b (otM e v) = k then 0 else pc e) := by
    intro e he
    have h1 := lo_lt he
    have h2 := hi_lt he
    have h3 := lo_hi he
    unfold otM
    by_cases c : lo e = v
    · rw [if_pos c, if_neg (show ¬ hi e = 36 by omega), if_neg (show ¬ hi e = 36 by omega), Int.zero_add, c, put_at, put_ne (show hi e ≠ v by omega)]
      by_cases d : k = b (hi e)
      · rw [if_pos d, if_pos d.symm]
      · rw [if_neg d, if_neg (Ne.symm d)]
    · by_cases c2 : hi e = v
      · rw [if_neg c, if_pos c2, if_neg (show ¬ lo e = 36 by omega), if_neg (show ¬ lo e = 36 by omega), Int.zero_add, c2, put_at, put_ne c]
      · rw [if_neg c, if_neg c2, if_pos rfl, if_pos rfl, Int.add_zero, put_ne c, put_ne c2]
  rw [← ww_eq hv]
  unfold enS enR wwE
  rw [← ss_add]
  exact ss_congr 60 0 (fun e _ he => key e (by omega))
theorem en_own (pc b : Nat → Int) {v : Nat} (hv : v < 36) : enS pc b = enR pc b v + wwS pc b v (b v) := by
  rw [← en_put pc b hv, put_self]
theorem en_nn {pc b : Nat → Int} (hp : ∀ e, e < 60 → 1 ≤ pc e ∧ pc e ≤ 59) : 0 ≤ enS pc b ∧ enS pc b ≤ 3540 := by
  have h : ∀ e, 0 ≤ e → e < 0 + 60 → 0 ≤ (if b (lo e) = b (hi e) then (0 : Int) else pc e) ∧ (if b (lo e) = b (hi e) then (0 : Int) else pc e) ≤ 59 := by
    intro e _ he
    have := hp e (by omega)
    split <;> omega
  exact ⟨ss_nn 60 0 (fun e h1 h2 => (h e h1 h2).1), by have := ss_ub (c := 59) 60 0 (fun e h1 h2 => (h e h1 h2).2); unfold enS; omega⟩
/-- both sides' foam, the class's in the table tb -/
def FJ (tb : Nat) (Mc Mm : Mem) : Prop := GR Mc ∧ MR Mm ∧ (∀ e, e < 60 → Mc 4 e = coM Mm e) ∧ (∀ k, k < 8 → Mc 18 k = Mm 5 k ∧ (Mm 5 k = 0 ∨ Mm 5 k = 1)) ∧ (∀ v, v < 36 → Mc tb v = Mm 4 v) ∧ BR Mm ∧ (tb = 16 ∨ tb = 17)
theorem FJ.tb {tb : Nat} {Mc Mm : Mem} (h : FJ tb Mc Mm) : TB Mc tb := by
  obtain ⟨a1, a2, a3, a4, a5, a6, a7⟩ := h
  refine ⟨?_, ?_, fun v hv => by rw [a5 v hv]; exact a6 v hv⟩
  · rcases a7 with rfl | rfl
    · exact ⟨by decide, by decide⟩
    · exact ⟨by decide, by decide⟩
  · rcases a7 with rfl | rfl <;> rfl
theorem FJ.move {tb : Nat} {Mc Mm Mc' Mm' : Mem} (h : FJ tb Mc Mm) (o1 : onlyRow Mc Mc' tb 0) (o2 : onlyRow Mm Mm' 4 0) (hv : ∀ v, v < 36 → Mc' tb v = Mm' 4 v) (hb : BR Mm') : FJ tb Mc' Mm' := by
  obtain ⟨a1, a2, a3, a4, a5, a6, a7⟩ := h
  have n0 : 0 ≠ tb := by omega
  have n1 : 1 ≠ tb := by omega
  have n2 : 2 ≠ tb := by omega
  have n4 : 4 ≠ tb := by omega
  have n18 : 18 ≠ tb := by omega
  refine ⟨?_, MR_only o2 (by decide) (by decide) a2, ?_, ?_, hv, hb, a7⟩
  · unfold GR at a1 ⊢
    rw [o1.arr n0, o1.arr n1, o1.arr n2, o1.arr n4]
    exact a1
  · rw [coM_only o2 (by decide) (by decide), o1.arr n4]
    exact a3
  · rw [o1.arr n18, o2.arr (show 5 ≠ 4 by decide)]
    exact a4
theorem FJ.one {tb : Nat} {Mc Mm : Mem} (h : FJ tb Mc Mm) {v : Nat} (hv : v < 36) {r : Int} (hr : 0 ≤ r ∧ r < 8) : FJ tb (wr Mc tb v r) (wr Mm 4 v r) := by
  refine h.move (only_wr0 Mc tb r hv) (only_wr0 Mm 4 r hv) (fun u hu => ?_) (fun u hu => ?_)
  · rw [wr_put, wr_put]
    by_cases q : u = v
    · rw [q, put_at, put_at]
    · rw [put_ne q, put_ne q]; exact h.2.2.2.2.1 u hu
  · rw [wr_put]
    by_cases q : u = v
    · rw [q, put_at]; exact hr
    · rw [put_ne q]; exact h.2.2.2.2.2.1 u hu
theorem FJ.ww {tb : Nat} {Mc Mm : Mem} (h : FJ tb Mc Mm) {v : Nat} (hv : v < 36) (k : Int) : wwS (Mc 4) (Mc tb) v k = wwS (coM Mm) (Mm 4) v k := by
  unfold wwS
  refine ss_congr 4 0 (fun s _ hs => ?_)
  rcases bes_inc v hv s (by omega) with q | ⟨q, _⟩
  · rw [if_pos q, if_pos q]
  · rw [h.2.2.2.2.1 _ (oth_lt q), h.2.2.1 _ q]
theorem FJ.cand {tb : Nat} {Mc Mm : Mem} (h : FJ tb Mc Mm) {v : Nat} (hv : v < 36) (k : Int) : candS (Mc 18) (Mc tb) v k ↔ candS (Mm 5) (Mm 4) v k := by
  constructor
  · intro ⟨s, h1, h2, h3, h4⟩
    rcases bes_inc v hv s h1 with q | ⟨q, _⟩
    · exact absurd q h2
    · have e := h.2.2.2.2.1 _ (oth_lt (v := v) q)
      have b := h.2.2.2.2.2.1 _ (oth_lt (v := v) q)
      rw [e] at h3
      exact ⟨s, h1, h2, h3, by rw [← (h.2.2.2.1 k.toNat (by omega)).1]; exact h4⟩
  · intro ⟨s, h1, h2, h3, h4⟩
    rcases bes_inc v hv s h1 with q | ⟨q, _⟩
    · exact absurd q h2
    · have e := h.2.2.2.2.1 _ (oth_lt (v := v) q)
      have b := h.2.2.2.2.2.1 _ (oth_lt (v := v) q)
      exact ⟨s, h1, h2, by rw [e]; exact h3, by rw [(h.2.2.2.1 k.toNat (by omega)).1]; exact h4⟩
theorem FJ.best {tb : Nat} {Mc Mm : Mem} (h : FJ tb Mc Mm) {v : Nat} (hv : v < 36) (hz : Mm 5 (Mm 4 v).toNat = 0) : ∃ r, fX1_bestOwner Mc tb (v : Int) = some r ∧ fX6_bestFor Mm (v : Int) = some r ∧ (0 ≤ r ∧ r < 8) ∧ (r = Mm 4 v ∨ wwS (coM Mm) (Mm 4) v r < wwS (coM Mm) (Mm 4) v (Mm 4 v)) := by
  obtain ⟨r, r1, r2, r3, r4⟩ := boC h.1 h.tb (fun k hk => by rw [(h.2.2.2.1 k hk).1]; exact (h.2.2.2.1 k hk).2) hv
  obtain ⟨t, t1, t2, t3, t4, t5⟩ := bfM h.2.2.2.2.2.1 h.2.1 (fun k hk => (h.2.2.2.1 k hk).2) hv
  have b5 := t5 hz
  have e : wwS (Mc 4) (Mc tb) v = wwS (coM Mm) (Mm 4) v := funext fun k => h.ww hv k
  rw [e, h.2.2.2.2.1 v hv] at r4
  have b4 := r4.cand (h.cand hv)
  have rt : r = t := b4.one b5
  subst rt
  refine ⟨r, r1, t1, ⟨r2, r3⟩, ?_⟩
  rcases b5 with ⟨q, _⟩ | ⟨_, q, _⟩
  · exact Or.inl q
  · exact Or.inr q
theorem FJ.stay {tb : Nat} {Mc Mm : Mem} (h : FJ tb Mc Mm) {v : Nat} (hv : v < 36) (hz : Mm 5 (Mm 4 v).toNat ≠ 0) : fX6_bestFor Mm (v : Int) = some (Mm 4 v) := by
  obtain ⟨t, t1, t2, t3, t4, t5⟩ := bfM h.2.2.2.2.2.1 h.2.1 (fun k hk => (h.2.2.2.1 k hk).2) hv
  rw [t1, t4 hz]
theorem brJ_L {tb : Nat} : ∀ (m k n n' : Nat) (Mc Mm : Mem) (mv : Int), k + m = 36 → m < n → m < n' → FJ tb Mc Mm →
    ∃ d Mc' Mm', fX1_breath_L5 n Mc tb mv (k : Int) = some (mv + d, Mc') ∧ fX6_breath_L4 n' Mm mv (k : Int) = some (mv + d, Mm') ∧ (0 ≤ d ∧ d ≤ m) ∧ FJ tb Mc' Mm' ∧ onlyRow Mc Mc' tb 0 ∧ onlyRow Mm Mm' 4 0 ∧ enS (coM Mm) (Mm' 4) + d ≤ enS (coM Mm) (Mm 4) ∧ (d = 0 → Mm' = Mm) := by
  intro m
  induction m with
  | zero =>
    intro k n n' Mc Mm mv h hn hn' hJ
    obtain ⟨n, rfl⟩ : ∃ k, n = k + 1 := ⟨n - 1, by omega⟩
    obtain ⟨n', rfl⟩ : ∃ k, n' = k + 1 := ⟨n' - 1, by omega⟩
    refine ⟨0, Mc, Mm, ?_, ?_, ⟨by omega, by omega⟩, hJ, onlyRow.refl _ _ _, onlyRow.refl _ _ _, by omega, fun _ => rfl⟩
    · rw [fX1_breath_L5, Int.add_zero]
      exact w_gdR (by omega) (by omega) (w_t (by omega) rfl)
    · rw [fX6_breath_L4, Int.add_zero]
      exact w_gdR (by omega) (by omega) (w_t (by omega) rfl)
  | succ m ih =>
    intro k n n' Mc Mm mv h hn hn' hJ
    obtain ⟨n, rfl⟩ : ∃ k, n = k + 1 := ⟨n - 1, by omega⟩
    obtain ⟨n', rfl⟩ : ∃ k, n' = k + 1 := ⟨n' - 1, by omega⟩
    have hk : k < 36 := by omega
    have hT := hJ.tb
    have hv := hJ.2.2.2.2.1 k hk
    have hb := hJ.2.2.2.2.2.1 k hk
    have hh := hJ.2.2.2.1 (Mm 4 k).toNat (by omega)
    have hlen := hT.2.1
    have stay : (Mm 5 (Mm 4 k).toNat ≠ 0 ∨ (Mm 5 (Mm 4 k).toNat = 0 ∧ fX1_bestOwner Mc tb (k : Int) = some (Mm 4 k))) → fX6_bestFor Mm (k : Int) = some (Mm 4 k) → ∃ d Mc' Mm', fX1_breath_L5 (n + 1) Mc tb mv (k : Int) = some (mv + d, Mc') ∧ fX6_breath_L4 (n' + 1) Mm mv (k : Int) = some (mv + d, Mm') ∧ (0 ≤ d ∧ d ≤ (m + 1 : Nat)) ∧ FJ tb Mc' Mm' ∧ onlyRow Mc Mc' tb 0 ∧ onlyRow Mm Mm' 4 0 ∧ enS (coM Mm) (Mm' 4) + d ≤ enS (coM Mm) (Mm 4) ∧ (d = 0 → Mm' = Mm) := by
      intro hs hbf
      obtain ⟨d, Mc', Mm', g1, g2, g3, g4⟩ := ih (k + 1) n n' Mc Mm mv (by omega) (by omega) (by omega) hJ
      rw [show ((k + 1 : Nat) : Int) = (k : Int) + 1 by omega] at g1 g2
      refine ⟨d, Mc', Mm', ?_, ?_, ⟨g3.1, by omega⟩, g4⟩
      · rw [fX1_breath_L5]
        refine w_gdR (by omega) (by omega) (w_f (by omega) (w_gd hT.1 (w_gdB (by omega) (by omega) ?_)))
        rw [Int.toNat_natCast, hv]
        refine w_gdB (by omega) (by omega) ?_
        rw [hh.1]
        refine w_gdR (by omega) (by omega) (w_bind (t := (mv, Mc)) ?_ g1)
        rcases hs with q | ⟨q, q2⟩
        · exact w_f q rfl
        · exact w_t q (w_bind q2 (w_gdB (by omega) (by omega) (w_gdR (by omega) (by omega) (w_t rfl rfl))))
      · rw [fX6_breath_L4]
        refine w_gdR (by omega) (by omega) (w_f (by omega) (w_bind hbf (w_gdB (by omega) (by omega) (w_gdR (by omega) (by omega) ?_))))
        rw [Int.toNat_natCast]
        refine w_gdR (by omega) (by omega) (w_bind (t := 0) (w_t rfl rfl) (w_gdB (by omega) (by omega) ?_))
        rw [wr_self, Int.add_zero]
        exact g2
    by_cases hz : Mm 5 (Mm 4 k).toNat = 0
    · obtain ⟨r, r1, r2, r3, r4⟩ := hJ.best hk hz
      by_cases q : r = Mm 4 k
      · rw [q] at r1 r2
        exact stay (Or.inr ⟨hz, r1⟩) r2
      · have hlt := r4.resolve_left q
        obtain ⟨d, Mc', Mm', g1, g2, g3, g4, g5, g6, g7, g8⟩ := ih (k + 1) n n' (wr Mc tb k r) (wr Mm 4 k r) (mv + 1) (by omega) (by omega) (by omega) (hJ.one hk r3)
        rw [show ((k + 1 : Nat) : Int) = (k : Int) + 1 by omega] at g1 g2
        have ec : coM (wr Mm 4 k r) = coM Mm := coM_only (only_wr0 Mm 4 r hk) (by decide) (by decide)
        have e1 := en_put (coM Mm) (Mm 4) hk r
        have e2 := en_own (coM Mm) (Mm 4) hk
        rw [ec, wr_put] at g7
        refine ⟨1 + d, Mc', Mm', ?_, ?_, ⟨by omega, by omega⟩, g4, (only_wr0 Mc tb r hk).trans g5, (only_wr0 Mm 4 r hk).trans g6, by omega, fun z => absurd z (by omega)⟩
        · rw [fX1_breath_L5]
          refine w_gdR (by omega) (by omega) (w_f (by omega) (w_gd hT.1 (w_gdB (by omega) (by omega) ?_)))
          rw [Int.toNat_natCast, hv]
          refine w_gdB (by omega) (by omega) ?_
          rw [hh.1]
          refine w_gdR (by omega) (by omega) (w_bind (t := (mv + 1, wr Mc tb k r)) (w_t hz (w_bind r1 (w_gdB (by omega) (by omega) (w_gdR (by omega) (by omega) (w_f q (w_gdB (by omega) (by omega) rfl)))))) ?_)
          rw [← Int.add_assoc]
          exact g1
        · rw [fX6_breath_L4]
          refine w_gdR (by omega) (by omega) (w_f (by omega) (w_bind r2 (w_gdB (by omega) (by omega) (w_gdR (by omega) (by omega) ?_))))
          rw [Int.toNat_natCast]
          refine w_gdR (by omega) (by omega) (w_bind (t := 1) (w_f q rfl) (w_gdB (by omega) (by omega) ?_))
          rw [← Int.add_assoc]
          exact g2
    · exact stay (Or.inl hz) (hJ.stay hk hz)
theorem brJ {tb : Nat} {Mc Mm : Mem} (hJ : FJ tb Mc Mm) : ∃ d Mc' Mm', fX1_breath Mc tb = some (d, Mc') ∧ fX6_breath Mm = some (d, Mm') ∧ (0 ≤ d ∧ d ≤ 36) ∧ FJ tb Mc' Mm' ∧ onlyRow Mc Mc' tb 0 ∧ onlyRow Mm Mm' 4 0 ∧ enS (coM Mm) (Mm' 4) + d ≤ enS (coM Mm) (Mm 4) ∧ (d = 0 → Mm' = Mm) := by
  obtain ⟨d, Mc', Mm', g1, g2, g3⟩ := brJ_L 36 0 FU FU Mc Mm 0 (by omega) (by have := FU_big; omega) (by have := FU_big; omega) hJ
  rw [Int.zero_add] at g1 g2
  refine ⟨d, Mc', Mm', ?_, ?_, g3⟩
  · unfold fX1_breath
    exact w_bind g1 rfl
  · unfold fX6_breath
    exact w_bind g2 rfl
