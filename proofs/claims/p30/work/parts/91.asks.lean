/-! what the class answers to a question, in terms of the ghost; a question leaves the ghost as it is -/
theorem Rl.same {M Mm C M9 : Mem} (h : Rl M Mm) (f : Qf M C) (j : Rl C M9) : Rl C Mm := by
  have c := fun a (ha : a ∉ scA) => f a ha
  have j6 := j.2.2.2.2.2.1
  unfold Rl GR TWr at h ⊢
  rw [c 0 (by decide), c 1 (by decide), c 2 (by decide), c 3 (by decide), c 4 (by decide), c 7 (by decide), c 12 (by decide), c 16 (by decide), c 18 (by decide), c 100 (by decide), c 101 (by decide), c 102 (by decide), c 104 (by decide), c 105 (by decide)]
  exact ⟨h.1, h.2.1, h.2.2.1, h.2.2.2.1, h.2.2.2.2.1, j6, h.2.2.2.2.2.2⟩
abbrev tn (Mm : Mem) (i : Nat) : Nat := (Mm 2 i).toNat
theorem Rl.tws {M Mm : Mem} (h : Rl M Mm) : ∃ k : Nat, k ≤ 6 ∧ M 102 0 = (k : Int) ∧ Mm 101 0 = (k : Int) ∧ (∀ i, i < k → M 7 i = Mm 2 i ∧ Mm 2 i = (tn Mm i : Int) ∧ tn Mm i < 36) ∧ ∀ i, i < k → ∀ j, j < k → tn Mm i = tn Mm j → i = j := by
  obtain ⟨w1, w2, w3, w4⟩ := h.2.2.2.2.1
  refine ⟨(M 102 0).toNat, by omega, by omega, by omega, fun i hi => ?_, fun i hi j hj e => ?_⟩
  · have := w3 i (by omega)
    refine ⟨this.1.symm, ?_, ?_⟩
    · show Mm 2 i = ((Mm 2 i).toNat : Int); omega
    · show (Mm 2 i).toNat < 36; omega
  · have a := w3 i (by omega)
    have b := w3 j (by omega)
    have e : (Mm 2 i).toNat = (Mm 2 j).toNat := e
    exact w4 i j (by omega) (by omega) (by omega)
theorem Rl.p159 {M Mm : Mem} (h : Rl M Mm) : ∀ e, e < 60 → 1 ≤ coM Mm e ∧ coM Mm e ≤ 59 := fun e he => coM_bd h.2.1 he
theorem Rl.DOK {M Mm : Mem} (h : Rl M Mm) {k : Nat} (h1 : Mm 101 0 = (k : Int)) : DOK (Dt (coM Mm) (tn Mm)) k := by
  obtain ⟨k', a1, a2, a3, a4, a5⟩ := h.tws
  have e : k' = k := by omega
  subst e
  exact Dt_ok h.p159 (fun i hi => (a4 i hi).2.2) a5
/-! the least net's cost, the bound -/
def Lst (Mm : Mem) (r : Int) : Prop := ∀ k : Nat, Mm 101 0 = (k : Int) → (k < 2 → r = 0) ∧ (2 ≤ k → ∃ T, STt (coM Mm) k (tn Mm) T ∧ r = T (2 ^ k - 1) (tn Mm 0))
def Bnd (Mm : Mem) (r : Int) : Prop := ∀ k : Nat, Mm 101 0 = (k : Int) → ∀ X, r ≤ X ↔ ((if k < 2 then 0 else (TreeS (Dt (coM Mm) (tn Mm)) k + 1) / 2) ≤ X ∧ ∀ i, i < k → ∀ j, j < k → ∀ l, l < k → Dt (coM Mm) (tn Mm) i j ≤ X ∧ (Dt (coM Mm) (tn Mm) i j + Dt (coM Mm) (tn Mm) j l + Dt (coM Mm) (tn Mm) l i + 1) / 2 ≤ X)
theorem pow_ge2 {k : Nat} (h : 2 ≤ k) (h6 : k ≤ 7) : 4 ≤ 2 ^ k ∧ 2 ^ k ≤ 128 := by
  have a : 2 ^ 2 ≤ 2 ^ k := Nat.pow_le_pow_right (by decide) h
  have b : 2 ^ k ≤ 2 ^ 7 := Nat.pow_le_pow_right (by decide) h6
  have e : (2 : Nat) ^ 2 = 4 := by decide
  have e7 : (2 : Nat) ^ 7 = 128 := by decide
  omega
theorem Lst.one {M Mm : Mem} (h : Rl M Mm) {r s : Int} (a : Lst Mm r) (b : Lst Mm s) : r = s := by
  obtain ⟨k, k1, k2, k3, k4, k5⟩ := h.tws
  by_cases c : k < 2
  · rw [(a k k3).1 c, (b k k3).1 c]
  · obtain ⟨T, t1, t2⟩ := (a k k3).2 (by omega)
    obtain ⟨U, u1, u2⟩ := (b k k3).2 (by omega)
    have p := pow_ge2 (k := k) (by omega) (by omega)
    rw [t2, u2]
    exact STt_one t1 u1 _ (by omega) (by omega) _ (k4 0 (by omega)).2.2
theorem Bnd.one {M Mm : Mem} (h : Rl M Mm) {r s : Int} (a : Bnd Mm r) (b : Bnd Mm s) : r = s := by
  obtain ⟨k, k1, k2, k3, k4, k5⟩ := h.tws
  have q : ∀ X, r ≤ X ↔ s ≤ X := fun X => (a k k3 X).trans (b k k3 X).symm
  exact Int.le_antisymm ((q s).mpr (Int.le_refl _)) ((q r).mp (Int.le_refl _))
theorem lst_now {M Mm : Mem} (h : Rl M Mm) : ∃ (r : Int) (M' : Mem), fX6_leastNow Mm = some (r, M') ∧ Lst Mm r := by
  obtain ⟨k, k1, k2, k3, k4, k5⟩ := h.tws
  obtain ⟨r, M', a1, a2, a3, a4, a5⟩ := lnM h.2.1 h.2.2.2.2.2.2.2.2.2.2.2 k1 k3 (fun i hi => by have := k4 i hi; omega)
  refine ⟨r, M', a1, fun k' e => ?_⟩
  have e : k' = k := by omega
  subst e
  exact ⟨a4, fun c => ⟨_, (a5 c).1, (a5 c).2⟩⟩
theorem cheap_q {M Mm : Mem} (h : Rl M Mm) : ∃ (r : Int) (C : Mem), fX3_cheapest M = some (r, C) ∧ Rl C Mm ∧ Qf M C ∧ (0 ≤ r ∧ r ≤ 100000) ∧ Lst Mm r := by
  obtain ⟨r, C, M', h1, h2, h3, h4, h5, h6⟩ := leastJ h
  obtain ⟨s, M2, a1, a2⟩ := lst_now h
  have e : r = s := by rw [h2] at a1; cases a1; rfl
  rw [e] at h1 h3
  have q := wq_X3_cheapest h1
  exact ⟨s, C, h1, h.same q h5, q, h3, a2⟩
theorem low_q {M Mm : Mem} (h : Rl M Mm) : ∃ (r : Int) (C : Mem), fX3_lowerBound M = some (r, C) ∧ Rl C Mm ∧ Qf M C ∧ (0 ≤ r ∧ r ≤ 10000) ∧ Bnd Mm r := by
  obtain ⟨r, C, M', h1, h2, h3, h4, h5⟩ := boundJ h
  have q := wq_X3_lowerBound h1
  refine ⟨r, C, h1, h.same q h5, q, h3, fun k e => ?_⟩
  obtain ⟨k', k1, k2, k3, k4, k5⟩ := h.tws
  have ek : k' = k := by omega
  subst ek
  obtain ⟨s, M2, b1, b2, b3, b4⟩ := bnM (M0 := Mm) (k := k') (tw := tn Mm) ⟨h.2.1, k3, k1, fun i hi => (k4 i hi).2⟩ (h.DOK k3)
  have es : r = s := by rw [h2] at b1; cases b1; rfl
  rw [es]
  exact b4
theorem q_least {M Mm : Mem} (h : Rl M Mm) : ∃ (r : Int) (C : Mem), fX5_least M = some (r, C) ∧ Rl C Mm ∧ Qf M C ∧ (0 ≤ r ∧ r ≤ 100000) ∧ Lst Mm r := by
  obtain ⟨r, C, h1, h2⟩ := cheap_q h
  exact ⟨r, C, by unfold fX5_least; exact w_bind h1 rfl, h2⟩
theorem q_bound {M Mm : Mem} (h : Rl M Mm) : ∃ (r : Int) (C : Mem), fX5_bound M = some (r, C) ∧ Rl C Mm ∧ Qf M C ∧ (0 ≤ r ∧ r ≤ 10000) ∧ Bnd Mm r := by
  obtain ⟨r, C, h1, h2⟩ := low_q h
  exact ⟨r, C, by unfold fX5_bound; exact w_bind h1 rfl, h2⟩
theorem q_gap {M Mm : Mem} (h : Rl M Mm) {r s : Int} (hr : Lst Mm r) (hs : Bnd Mm s) : ∃ C : Mem, fX5_gap M = some (r - s, C) ∧ Rl C Mm ∧ Qf M C := by
  obtain ⟨a, C1, h1, h2, h3, h4, h5⟩ := cheap_q h
  obtain ⟨b, C2, g1, g2, g3, g4, g5⟩ := low_q h2
  refine ⟨C2, ?_, g2, h3.trans g3⟩
  rw [hr.one h h5, hs.one h g5]
  unfold fX5_gap
  exact w_bind h1 (w_bind g1 rfl)
theorem q_leastAnew {M Mm : Mem} (h : Rl M Mm) {k : Nat} (hk : Mm 101 0 = (k : Int)) {r : Int} (hr : Lst Mm r) : ∃ C : Mem, fX5_leastAnew M = some (if k ≤ 4 then r else -1, C) ∧ Rl C Mm ∧ Qf M C := by
  obtain ⟨T, T9, a1, a2, a3, a4, a5⟩ := F_leastAnew M Mm h
  have q := wq_X5_leastAnew a1
  refine ⟨T.2, ?_, h.same q a5, q⟩
  have e : T.1 = if k ≤ 4 then r else -1 := by
    rw [a3]
    by_cases c : k ≤ 4
    · rw [if_pos c]
      have h0 := h.thr 0
      obtain ⟨s, M', b1, b2⟩ := lst_now h0
      have hs : Lst Mm s := b2
      have mod : fX6_leastAnew Mm = some (s, M') := by
        unfold fX6_leastAnew
        have e101 : wr Mm 100 0 0 101 0 = (k : Int) := hk
        rw [e101]
        exact w_gdR (by omega) (by omega) (w_bind (w_t (by omega) (w_bind b1 rfl)) rfl)
      rw [mod] at a2
      cases a2
      exact hs.one h hr
    · rw [if_neg c]
      have mod : fX6_leastAnew Mm = some (-1, wr Mm 100 0 0) := by
        obtain ⟨k', k1, k2, k3, k4, k5⟩ := h.tws
        unfold fX6_leastAnew
        have e101 : wr Mm 100 0 0 101 0 = (k : Int) := hk
        rw [e101]
        exact w_gdR (by omega) (by omega) (w_bind (w_f (by omega) rfl) rfl)
      rw [mod] at a2
      cases a2
      rfl
  rw [← e]
  exact a1
/-! used edges -/
theorem q_isUsed {M Mm : Mem} (h : Rl M Mm) {k : Nat} (hk : Mm 101 0 = (k : Int)) {r : Int} (hr : Lst Mm r) {e : Nat} (he : e < 60) : ∃ (x : Int) (C : Mem), fX5_isUsed M (e : Int) = some (0, x, C) ∧ Rl C Mm ∧ Qf M C ∧ (x = 0 ∨ x = 1) ∧ (k < 2 → x = 0) ∧ (2 ≤ k → (x = 1 ↔ Used (coM Mm) k (tn Mm) r e)) := by
  obtain ⟨T, T9, a1, a2, a3, a4, a5, a6⟩ := F_isUsed M Mm (e : Int) h ⟨by omega, by omega⟩
  have q := wq_X5_isUsed a1
  obtain ⟨k', k1, k2, k3, k4, k5⟩ := h.tws
  have ek : k' = k := by omega
  subst ek
  have key : ∃ (x : Int) (C : Mem), fX5_isUsed M (e : Int) = some (0, x, C) ∧ (x = 0 ∨ x = 1) ∧ (k' < 2 → x = 0) ∧ (2 ≤ k' → (x = 1 ↔ Used (coM Mm) k' (tn Mm) r e)) := by
    by_cases c2 : k' < 2
    · refine ⟨0, M, ?_, Or.inl rfl, fun _ => rfl, fun c => absurd c (by omega)⟩
      unfold fX5_isUsed
      refine w_bind (chE_y M he) (w_t rfl (w_bind (t := (0, M)) ?_ (w_gd (Or.inl rfl) rfl)))
      unfold fX3_isInCheapest
      exact w_gdR (by omega) (by omega) (w_f (by omega) rfl)
    · obtain ⟨C, j1, j2, j3, j4⟩ := h.join
      have e102 : C 102 0 = (k' : Int) := by rw [j2 102 (by decide) (by decide)]; exact k2
      have e7 : ∀ i, i < k' → C 7 i = Mm 2 i := fun i hi => by rw [j2 7 (by decide) (by decide)]; exact (k4 i hi).1
      unfold JT at j3
      rw [e102, Int.toNat_natCast] at j3
      have cC : ∀ x, x < 60 → C 4 x = coM Mm x := fun x hx => by rw [j2 4 (by decide) (by decide)]; exact (h.2.2.2.1 x hx).2
      have hT : STt (coM Mm) k' (tn Mm) (fun S v => C 8 (36 * S + v)) := j3.congr cC (fun i hi => by rw [e7 i hi])
      have hP := h.2.1.PR
      have hp1 : ∀ x, x < 60 → 1 ≤ coM Mm x := fun x hx => (coM_bd h.2.1 hx).1
      have pw := pow_ge2 (k := k') (by omega) (by omega)
      have p6 : 2 ^ k' ≤ 2 ^ 6 := Nat.pow_le_pow_right (by decide) (by omega)
      have e64 : (2 : Nat) ^ 6 = 64 := by decide
      have htw36 : ∀ i, i < k' → tn Mm i < 36 := fun i hi => (k4 i hi).2.2
      obtain ⟨U, u1, u2⟩ := (hr k' k3).2 (by omega)
      have Leq : C 8 (36 * (2 ^ k' - 1) + tn Mm 0) = r := by
        rw [u2]
        exact STt_one hT u1 (2 ^ k' - 1) (by omega) (by omega) (tn Mm 0) (htw36 0 (by omega))
      have bd : ∀ S, 0 < S → S < 2 ^ k' → ∀ v, v < 36 → 0 ≤ C 8 (36 * S + v) ∧ C 8 (36 * S + v) ≤ 1000000 := fun S x1 x2 v hv => by
        have z : 0 ≤ C 8 (36 * S + v) ∧ C 8 (36 * S + v) ≤ 590 * (S : Int) := hT.bd hP (by omega) htw36 S x1 x2 v hv
        omega
      have rb := bd (2 ^ k' - 1) (by omega) (by omega) (tn Mm 0) (htw36 0 (by omega))
      rw [Leq] at rb
      have part := used_part hP hp1 (by omega) (by omega) htw36 hT he
      have part : Used (coM Mm) k' (tn Mm) (C 8 (36 * (2 ^ k' - 1) + tn Mm 0)) e ↔ ∃ P : Nat, 0 < P ∧ P < 2 ^ k' - 1 ∧ C 8 (36 * P + lo e) + C 8 (36 * (2 ^ k' - 1 - P) + hi e) + coM Mm e = C 8 (36 * (2 ^ k' - 1) + tn Mm 0) := part
      rw [Leq] at part
      have hgC := j4.1
      have t0 := k4 0 (by omega)
      have idx : ((((2 ^ k' : Nat) : Int) - 1) * 36 + Mm 2 0).toNat = 36 * (2 ^ k' - 1) + tn Mm 0 := by clear part; omega
      have rR : inR r := by clear part; exact ⟨by omega, by omega⟩
      have loop := iu55 hgC he (k := k') (by clear part; omega) (L := r) rR bd (2 ^ k' - 1 - 1) 1 FU (by clear part; omega) (by clear part; have := FU_big; omega) (by clear part; omega) (fun P x1 x2 => absurd x2 (by clear part; omega))
      rw [cC e he] at loop
      have cls : ∀ x : Int, ((x = 1 ∧ ∃ P : Nat, 0 < P ∧ P < 2 ^ k' - 1 ∧ C 8 (36 * P + lo e) + C 8 (36 * (2 ^ k' - 1 - P) + hi e) + coM Mm e = r) ∨ (x = 0 ∧ ¬ ∃ P : Nat, 0 < P ∧ P < 2 ^ k' - 1 ∧ C 8 (36 * P + lo e) + C 8 (36 * (2 ^ k' - 1 - P) + hi e) + coM Mm e = r)) → fX3_isInCheapest M (e : Int) = some (x, C) := by
        intro x hx
        unfold fX3_isInCheapest
        refine w_gdR (by omega) (by omega) (w_t (by omega) (w_bind j1 (w_bind (allC (by omega) e102) ?_)))
        show gd (inB ((((2 ^ k' : Nat) : Int) - 1) * 36 + C 7 0) 2304) _ = _
        rw [e7 0 (by omega)]
        refine w_gdB (by clear part loop hx; omega) (by clear part loop hx; omega) (w_bind (gr_low hgC he) (w_bind (gr_high hgC he) ?_))
        have ez : C 7 (0 : Int).toNat = Mm 2 0 := e7 0 (by omega)
        rw [ez, idx, Leq]
        rcases loop with ⟨l1, l2⟩ | ⟨l1, l2⟩
        · rcases hx with ⟨z1, _⟩ | ⟨_, z2⟩
          · rw [z1]
            exact w_bind l2 rfl
          · exact absurd l1 z2
        · rcases hx with ⟨_, z2⟩ | ⟨z1, _⟩
          · exact absurd z2 l1
          · rw [z1]
            exact w_bind l2 rfl
      have fin : ∀ x : Int, (x = 0 ∨ x = 1) → fX3_isInCheapest M (e : Int) = some (x, C) → fX5_isUsed M (e : Int) = some (0, x, C) := fun x hx hc => by
        unfold fX5_isUsed
        exact w_bind (chE_y M he) (w_t rfl (w_bind hc (w_gd hx rfl)))
      by_cases z : Used (coM Mm) k' (tn Mm) r e
      · exact ⟨1, C, fin 1 (Or.inr rfl) (cls 1 (Or.inl ⟨rfl, part.mp z⟩)), Or.inr rfl, fun c => absurd c (by omega), fun _ => ⟨fun _ => z, fun _ => rfl⟩⟩
      · exact ⟨0, C, fin 0 (Or.inl rfl) (cls 0 (Or.inr ⟨rfl, fun y => z (part.mpr y)⟩)), Or.inl rfl, fun c => absurd c (by omega), fun _ => ⟨fun y => absurd y (by decide), fun y => absurd y z⟩⟩
  obtain ⟨x, C, b1, b2, b3, b4⟩ := key
  rw [b1] at a1
  cases a1
  exact ⟨x, C, b1, h.same q a6, q, b2, b3, b4⟩
/-! ways -/
theorem q_apart {M Mm : Mem} (h : Rl M Mm) {u v : Nat} (hu : u < 36) (hv : v < 36) : ∃ C : Mem, fX5_apart M (u : Int) (v : Int) = some (0, dsF (coM Mm) u v, C) ∧ Rl C Mm ∧ Qf M C := by
  have hP := h.2.1.PR
  have e4 : ∀ e, e < 60 → M 4 e = coM Mm e := fun e he => (h.2.2.2.1 e he).2
  have hG := (dsF_is hP hu).gc hP hu (B := 1000000) (by decide)
  have hG2 : GC (M 4) (stR u 1000000) (dsF (coM Mm) u) := ⟨fun e he => by rw [e4 e he]; exact hG.1 e he, hG.2.1, fun g h1 h2 => hG.2.2 g (fun e he => by rw [← e4 e he]; exact h1 e he) h2⟩
  obtain ⟨C, a1, a2, a3⟩ := meaC (M := M) (tb := 5) (b := 0) ⟨⟨by decide, by decide⟩, by decide, by decide, by decide, by decide, by decide⟩ h.1 hu hG2
  refine ⟨C, ?_, h.keep (fun a ha => a2.arr (by intro q; subst q; revert ha; decide)) (fun _ _ => rfl), fun a ha => a2.arr (by intro q; subst q; exact ha (by decide))⟩
  unfold fX5_apart
  refine w_bind (chN_y M hu) (w_t rfl (w_bind (chN_y M hv) (w_t rfl (w_bind (t := (dsF (coM Mm) u v, C)) ?_ rfl))))
  unfold fX4_cheapest
  refine w_bind a1 (w_gdB (by omega) (by omega) ?_)
  have := a3 v hv
  unfold rowOf at this
  rw [Nat.zero_add] at this
  rw [Int.toNat_natCast, this]
/-- what two ways cost: the least of all flows of two that go along an edge once at most -/
def Two (p : Nat → Int) (s t : Nat) (w : Int) : Prop := (∃ x, uni x ∧ stO x s t 2 ∧ cst p x = w) ∧ ∀ x, uni x → stO x s t 2 → w ≤ cst p x
theorem q_two {M Mm : Mem} (h : Rl M Mm) {s t : Nat} (hs : s < 36) (ht : t < 36) (hne : s ≠ t) : ∃ (w : Int) (C : Mem), fX5_twoWays M (s : Int) (t : Int) = some (0, w, C) ∧ Rl C Mm ∧ Qf M C ∧ (2 * dsF (coM Mm) s t ≤ w ∧ w ≤ 10000) ∧ Two (coM Mm) s t w := by
  have hp : p159 (coM Mm) := fun e he => coM_bd h.2.1 he
  obtain ⟨f, ρ, C, a1, a2, a3, a4, a5, a6, a7, a8, a9⟩ := twC h hs ht
  have ρ0 : 0 ≤ ρ s := by have := a7 s hs; have := (a5.2.2 s hs).1; omega
  have c5 : fX5_twoWays M (s : Int) (t : Int) = some (0, dsF (coM Mm) s t + ρ t, C) := by
    unfold fX5_twoWays
    exact w_bind (chN_y M hs) (w_t rfl (w_bind (chN_y M ht) (w_t rfl (w_gdR (by omega) (by omega) (w_gdR (by omega) (by omega) (w_f (by omega) (w_bind a1 rfl)))))))
  have q := wq_X5_twoWays c5
  have b := dsF_bd h.2.1.PR hs ht
  have l7 := a7 t ht
  have l8 := a8 t ht
  refine ⟨_, C, c5, h.keep (fun a ha => a9 a (by intro q; subst q; revert ha; decide) (by intro q; subst q; revert ha; decide)) (fun _ _ => rfl), q, ⟨by omega, by omega⟩, ?_, fun x x1 x2 => ?_⟩
  · have hmN : MR (fun a => if a = 9 then f else Mm a) := h.2.1
    have cN : coM (fun a => if a = 9 then f else Mm a) = coM Mm := rfl
    obtain ⟨M4, e1, e2, e3, e4, e5⟩ := owM (M := fun a => if a = 9 then f else Mm a) hmN a2 hs ht (π := dsF (coM Mm) s) (ρ := ρ) (by rw [cN]; exact a5) (by rw [cN]; exact a6) a7 a8
    rw [cN] at e5
    have e5 : cst (coM Mm) (M4 9) = cst (coM Mm) f + ρ t := e5
    refine ⟨M4 9, e3, fun v hv => ?_, by rw [e5, a4]⟩
    have k : outF (M4 9) v = outF f v + (if v = s then 1 else 0) - (if v = t then 1 else 0) := e4 v hv
    rw [k, a3 v hv]
    by_cases q1 : v = s
    · by_cases q2 : v = t
      · rw [if_pos q1, if_pos q2, if_pos q1, if_pos q2]; omega
      · rw [if_pos q1, if_neg q2, if_pos q1, if_neg q2]; omega
    · by_cases q2 : v = t
      · rw [if_neg q1, if_pos q2, if_neg q1, if_pos q2]; omega
      · rw [if_neg q1, if_neg q2, if_neg q1, if_neg q2]; omega
  · have l1 := two_low hp hs ht a2 x1 a3 x2 a6 ρ0
    omega
theorem out_neg (f : Nat → Int) (v : Nat) : outF (fun e => -(f e)) v = -(outF f v) := by
  unfold outF
  have e : ∀ (m a : Nat), ss (fun e => if lo e = v then -(f e) else if hi e = v then -(-(f e)) else 0) a m = -(ss (fun e => if lo e = v then f e else if hi e = v then -(f e) else 0) a m) := by
    intro m
    induction m with
    | zero => intro a; rfl
    | succ m ih =>
      intro a
      rw [ss, ss, ih (a + 1)]
      by_cases q1 : lo a = v
      · rw [if_pos q1, if_pos q1]; omega
      · rw [if_neg q1, if_neg q1]
        by_cases q2 : hi a = v
        · rw [if_pos q2, if_pos q2]; omega
        · rw [if_neg q2, if_neg q2]; omega
  exact e 60 0
theorem Two.symm {p : Nat → Int} {s t : Nat} {w z : Int} (h : Two p s t w) (k : Two p t s z) : w = z := by
  have flip : ∀ {s t : Nat} {x : Nat → Int}, uni x → stO x s t 2 → uni (fun e => -(x e)) ∧ stO (fun e => -(x e)) t s 2 ∧ cst p (fun e => -(x e)) = cst p x := by
    intro s t x h1 h2
    refine ⟨fun e he => ?_, fun v hv => ?_, ?_⟩
    · have := h1 e he
      show -(x e) = -1 ∨ -(x e) = 0 ∨ -(x e) = 1
      omega
    · rw [out_neg, h2 v hv]
      by_cases q1 : v = s
      · by_cases q2 : v = t
        · (rw [if_pos q1, if_pos q2]) <;> omega
        · (rw [if_pos q1, if_neg q2]) <;> omega
      · by_cases q2 : v = t
        · (rw [if_neg q1, if_pos q2]) <;> omega
        · (rw [if_neg q1, if_neg q2]) <;> omega
    · unfold cst
      refine ss_congr 60 0 (fun e _ _ => ?_)
      have : ab (-(x e)) = ab (x e) := by
        unfold ab
        by_cases q : x e < 0
        · rw [if_pos q, if_neg (by omega)]
        · rw [if_neg q]
          by_cases q2 : -(x e) < 0
          · rw [if_pos q2]; omega
          · rw [if_neg q2]; omega
      show p e * ab (-(x e)) = p e * ab (x e)
      rw [this]
  obtain ⟨⟨x, x1, x2, x3⟩, x4⟩ := h
  obtain ⟨⟨y, y1, y2, y3⟩, y4⟩ := k
  obtain ⟨a1, a2, a3⟩ := flip x1 x2
  obtain ⟨b1, b2, b3⟩ := flip y1 y2
  have l1 := y4 _ a1 a2
  have l2 := x4 _ b1 b2
  omega
