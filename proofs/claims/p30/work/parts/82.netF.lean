/-! nets as sets of edges: the table tells the cheapest -/
theorem pa6 : ∀ W : Nat, W < 128 → ∀ S : Nat, S < 128 → S &&& W = S → ∀ i : Nat, i < 7 → (W - S).testBit i = (W.testBit i && !(S.testBit i)) := by decide +kernel
noncomputable def eT (p : Nat → Int) (F : Nat → Prop) (e : Nat) : Int := @ite _ (F e) (Classical.propDecidable _) (p e) 0
theorem eT_t {p : Nat → Int} {F : Nat → Prop} {e : Nat} (h : F e) : eT p F e = p e := by unfold eT; exact if_pos h
theorem eT_f {p : Nat → Int} {F : Nat → Prop} {e : Nat} (h : ¬ F e) : eT p F e = 0 := by unfold eT; exact if_neg h
theorem eT_nn {p : Nat → Int} {F : Nat → Prop} {e : Nat} (h : 0 ≤ p e) : 0 ≤ eT p F e := by
  by_cases c : F e
  · rw [eT_t c]; exact h
  · rw [eT_f c]; exact Int.le_refl 0
noncomputable def eC (p : Nat → Int) (F : Nat → Prop) : Int := ss (eT p F) 0 60
def pNN (p : Nat → Int) : Prop := ∀ e, e < 60 → 0 ≤ p e
theorem eC_nn {p : Nat → Int} (hp : pNN p) (F : Nat → Prop) : 0 ≤ eC p F := ss_nn 60 0 (fun e _ he => eT_nn (hp e (by omega)))
theorem eC_mono {p : Nat → Int} (hp : pNN p) {F G : Nat → Prop} (h : ∀ e, e < 60 → F e → G e) : eC p F ≤ eC p G := ss_le 60 0 (fun e _ he => by
  have he : e < 60 := by omega
  by_cases c : F e
  · rw [eT_t c, eT_t (h e he c)]; exact Int.le_refl _
  · rw [eT_f c]; exact eT_nn (hp e he))
theorem eC_or {p : Nat → Int} (hp : pNN p) (F G : Nat → Prop) : eC p (fun e => F e ∨ G e) ≤ eC p F + eC p G := by
  unfold eC
  rw [← ss_add]
  refine ss_le 60 0 (fun e _ he => ?_)
  have he : e < 60 := by omega
  have a := eT_nn (F := F) (hp e he)
  have b := eT_nn (F := G) (hp e he)
  show eT p (fun e => F e ∨ G e) e ≤ eT p F e + eT p G e
  by_cases c : F e ∨ G e
  · rw [eT_t c]
    rcases c with c | c
    · rw [eT_t c]; omega
    · rw [eT_t c]; omega
  · rw [eT_f c]; omega
theorem eC_one {p : Nat → Int} {x : Nat} (hx : x < 60) : eC p (fun e => e = x) = p x := by
  unfold eC
  rw [ss_congr (g := fun e => if e = x then p x else 0) 60 0 (fun e _ _ => by
    by_cases c : e = x
    · rw [eT_t (F := fun e => e = x) c, if_pos c, c]
    · rw [eT_f (F := fun e => e = x) c, if_neg c]), ss_one (p x) (Nat.zero_le _) (by omega)]
theorem eC_empty (p : Nat → Int) : eC p (fun _ => False) = 0 := ss_zero 60 0 (fun e _ _ => eT_f (fun h => h))
/-- a set without one of its edges -/
theorem eC_del {p : Nat → Int} {F : Nat → Prop} {x : Nat} (hx : x < 60) (h : F x) : eC p (fun e => F e ∧ e ≠ x) = eC p F - p x := by
  have e : eC p F = eC p (fun e => F e ∧ e ≠ x) + eC p (fun e => e = x) := by
    unfold eC
    rw [← ss_add]
    refine ss_congr 60 0 (fun e _ _ => ?_)
    show eT p F e = eT p (fun e => F e ∧ e ≠ x) e + eT p (fun e => e = x) e
    by_cases c : e = x
    · rw [eT_t (F := fun e => e = x) c, eT_f (F := fun e => F e ∧ e ≠ x) (fun z => z.2 c), c, eT_t h]; omega
    · rw [eT_f (F := fun e => e = x) c]
      by_cases d : F e
      · rw [eT_t d, eT_t (F := fun e => F e ∧ e ≠ x) ⟨d, c⟩]; omega
      · rw [eT_f d, eT_f (F := fun e => F e ∧ e ≠ x) (fun z => d z.1)]; rfl
  rw [eC_one hx] at e
  omega
theorem eC_two {p : Nat → Int} (hp : pNN p) {F F1 F2 : Nat → Prop} (h1 : ∀ e, e < 60 → F1 e → F e) (h2 : ∀ e, e < 60 → F2 e → F e) (h3 : ∀ e, e < 60 → F1 e → ¬ F2 e) : eC p F1 + eC p F2 ≤ eC p F := by
  unfold eC
  rw [← ss_add]
  refine ss_le 60 0 (fun e _ he => ?_)
  have he : e < 60 := by omega
  have a := eT_nn (F := F) (hp e he)
  show eT p F1 e + eT p F2 e ≤ eT p F e
  by_cases c : F1 e
  · rw [eT_t c, eT_f (h3 e he c), eT_t (h1 e he c)]; omega
  · rw [eT_f c]
    by_cases d : F2 e
    · rw [eT_t d, eT_t (h2 e he d)]; omega
    · rw [eT_f d]; omega
/-- joined by edges of a set -/
def Cn (F : Nat → Prop) (u v : Nat) : Prop := ∀ J : Nat → Prop, (∀ e, e < 60 → F e → (J (lo e) ↔ J (hi e))) → J u → J v
theorem Cn.refl (F : Nat → Prop) (u : Nat) : Cn F u u := fun _ _ h => h
theorem Cn.symm {F : Nat → Prop} {u v : Nat} (h : Cn F u v) : Cn F v u := fun J hJ hv => Classical.byContradiction fun hu => h (fun x => ¬ J x) (fun e he hF => not_congr (hJ e he hF)) hu hv
theorem Cn.trans {F : Nat → Prop} {u v w : Nat} (h : Cn F u v) (k : Cn F v w) : Cn F u w := fun J hJ hu => k J hJ (h J hJ hu)
theorem Cn.mono {F G : Nat → Prop} {u v : Nat} (hs : ∀ e, e < 60 → F e → G e) (h : Cn F u v) : Cn G u v := fun J hJ hu => h J (fun e he hF => hJ e he (hs e he hF)) hu
theorem Cn.edge {F : Nat → Prop} {e : Nat} (he : e < 60) (h : F e) : Cn F (lo e) (hi e) := fun _ hJ hu => (hJ e he h).mp hu
theorem Cn.step {F : Nat → Prop} {u e : Nat} (he : e < 60) (h : F e) : Cn F u (lo e) ↔ Cn F u (hi e) := ⟨fun q => q.trans (Cn.edge he h), fun q => q.trans (Cn.edge he h).symm⟩
def Conn (F : Nat → Prop) (k : Nat) (tw : Nat → Nat) (S v : Nat) : Prop := ∀ i, i < k → S.testBit i = true → Cn F v (tw i)
theorem Cn_all {u v : Nat} (hu : u < 36) (hv : v < 36) : Cn (fun _ => True) u v := by
  intro J hJ h
  obtain ⟨g, hg⟩ : ∃ g : Nat → Int, ∀ x, (J x → g x = 0) ∧ (¬ J x → g x = 1000) := ⟨fun x => @ite _ (J x) (Classical.propDecidable _) 0 1000, fun _ => ⟨fun q => if_pos q, fun q => if_neg q⟩⟩
  have c : CLo (fun _ => 0) g := fun e he => by
    have q := hJ e he trivial
    by_cases z : J (lo e)
    · rw [(hg _).1 z, (hg _).1 (q.mp z)]; show (0 : Int) ≤ 0 + 0 ∧ (0 : Int) ≤ 0 + 0; decide
    · rw [(hg _).2 z, (hg _).2 (fun y => z (q.mpr y))]; show (1000 : Int) ≤ 1000 + 0 ∧ (1000 : Int) ≤ 1000 + 0; decide
  have n := near (p := fun _ => 0) (fun _ _ => ⟨Int.le_refl 0, (by decide : (0 : Int) ≤ 59)⟩) c hu hv
  rw [(hg u).1 h] at n
  exact Classical.byContradiction fun z => by
    rw [(hg v).2 z] at n
    omega
theorem mask_ex (Q : Nat → Prop) : ∀ k : Nat, ∃ P : Nat, P < 2 ^ k ∧ ∀ i, P.testBit i = true ↔ (i < k ∧ Q i)
  | 0 => ⟨0, by decide, fun i => ⟨fun q => by rw [Nat.zero_testBit] at q; exact absurd q (by decide), fun q => absurd q.1 (by omega)⟩⟩
  | k + 1 => by
    obtain ⟨P, h1, h2⟩ := mask_ex Q k
    have lt : 2 ^ k < 2 ^ (k + 1) := pow_mono (by omega)
    by_cases c : Q k
    · refine ⟨P ||| 2 ^ k, Nat.or_lt_two_pow (by omega) lt, fun i => ?_⟩
      rw [zorT, h2 i]
      constructor
      · rintro (z | z)
        · exact ⟨by omega, z.2⟩
        · rw [← z]; exact ⟨by omega, c⟩
      · intro z
        by_cases e : k = i
        · exact Or.inr e
        · exact Or.inl ⟨by omega, z.2⟩
    · refine ⟨P, by omega, fun i => ?_⟩
      rw [h2 i]
      refine ⟨fun z => ⟨by omega, z.2⟩, fun z => ⟨?_, z.2⟩⟩
      by_cases e : i = k
      · rw [e] at z; exact absurd z.2 c
      · omega
theorem sub_and {S W : Nat} (h : ∀ i, S.testBit i = true → W.testBit i = true) : S &&& W = S := by
  refine Nat.eq_of_testBit_eq fun i => ?_
  rw [Nat.testBit_and]
  by_cases c : S.testBit i = true
  · rw [c, h i c]; rfl
  · have c : S.testBit i = false := by simpa using c
    rw [c]; rfl
theorem and_sub {S W i : Nat} (h : S &&& W = S) (hi : S.testBit i = true) : W.testBit i = true := by
  rw [← h, Nat.testBit_and] at hi
  exact (Bool.and_eq_true_iff.mp hi).2
theorem zeroS {p : Nat → Int} {k : Nat} {tw : Nat → Nat} {g : Nat → Nat → Int} (hk : k ≤ 7) (h : STf p k tw g) {v : Nat} (hv : v < 36) : ∀ S, 0 < S → S < 2 ^ k → (∀ i, i < k → S.testBit i = true → tw i = v) → g S v ≤ 0 := by
  intro S
  induction S using Nat.strongRecOn with
  | ind S ih =>
    intro h1 h2 h3
    have hS : S < 128 := by have := (pow7 k (by omega)).1; omega
    rcases pa3 S hS h1 with ⟨i, i1, i2⟩ | ⟨R, r1, r2, r3⟩
    · have hik : i < k := pow_lt (by rw [← i2]; exact h2)
      have e := h3 i hik (by rw [i2]; exact Nat.testBit_two_pow_self)
      have a := h.2.1 i hik
      rw [← i2, e] at a
      exact a
    · have a := h.2.2 S h2 R r2 r1 r3 v hv
      have b := ih R r1 r2 (by omega) (fun i hi q => h3 i hi (and_sub r3 q))
      have c := ih (S - R) (by omega) (by omega) (by omega) (fun i hi q => h3 i hi (and_sub (pa1 S hS R r1 r3) q))
      omega
/-- no set of edges that joins costs less than the table tells -/
theorem netLow {p : Nat → Int} {k : Nat} {tw : Nat → Nat} {g : Nat → Nat → Int} (hp : pNN p) (hk : k ≤ 7) (h : STf p k tw g) : ∀ (n : Nat) (F : Nat → Prop), eC (fun _ => 1) F ≤ (n : Int) → ∀ S, 0 < S → S < 2 ^ k → ∀ v, v < 36 → Conn F k tw S v → g S v ≤ eC p F := by
  intro n
  have h1p : pNN (fun _ => (1 : Int)) := fun _ _ => (by decide : (0 : Int) ≤ 1)
  -- an edge at the node, or none
  have alone : ∀ (F : Nat → Prop) S, 0 < S → S < 2 ^ k → ∀ v, v < 36 → Conn F k tw S v → (¬ ∃ e, e < 60 ∧ F e ∧ (lo e = v ∨ hi e = v)) → g S v ≤ eC p F := by
    intro F S h1 h2 v hv hC hno
    have z := zeroS hk h hv S h1 h2 (fun i hi q => hC i hi q (fun x => x = v) (fun e he hF => ⟨fun y => absurd ⟨e, he, hF, Or.inl y⟩ hno, fun y => absurd ⟨e, he, hF, Or.inr y⟩ hno⟩) rfl)
    have := eC_nn hp F
    omega
  induction n with
  | zero =>
    intro F hc S h1 h2 v hv hC
    refine alone F S h1 h2 v hv hC (fun ⟨e, he, hF, _⟩ => ?_)
    have a := eC_del (p := fun _ => (1 : Int)) he hF
    have b := eC_nn h1p (fun x => F x ∧ x ≠ e)
    omega
  | succ n ih =>
    intro F hc S h1 h2 v hv hC
    by_cases hno : ∃ e, e < 60 ∧ F e ∧ (lo e = v ∨ hi e = v)
    · obtain ⟨e, he, hF, hev⟩ := hno
      have hS : S < 128 := by have := (pow7 k (by omega)).1; omega
      have dc := eC_del (p := fun _ => (1 : Int)) he hF
      have dp := eC_del (p := p) he hF
      have hpe := hp e he
      obtain ⟨w, hw⟩ : ∃ w, w = oth e v := ⟨_, rfl⟩
      have hw36 : w < 36 := by rw [hw]; exact oth_lt he
      have ends : (lo e = v ∧ hi e = w) ∨ (hi e = v ∧ lo e = w) := by
        rcases oth_of he hev with ⟨q1, q2⟩ | ⟨q1, q2⟩
        · exact Or.inl ⟨q1, by rw [hw, q2]⟩
        · exact Or.inr ⟨q1, by rw [hw, q2]⟩
      have cost : ∀ S, 0 < S → S < 2 ^ k → g S v ≤ g S w + p e := fun S s1 s2 => by
        have := h.1 S s1 s2 e he
        rcases ends with ⟨q1, q2⟩ | ⟨q1, q2⟩
        · rw [q1, q2] at this; omega
        · rw [q1, q2] at this; omega
      by_cases hcy : Cn (fun x => F x ∧ x ≠ e) v w
      · have := ih (fun x => F x ∧ x ≠ e) (by omega) S h1 h2 v hv (fun i hi q J hJ hv1 => hC i hi q J (fun x hx hFx => by
          by_cases c : x = e
          · have jw := hcy J hJ hv1
            rw [c]
            rcases ends with ⟨q1, q2⟩ | ⟨q1, q2⟩
            · rw [q1, q2]; exact ⟨fun _ => jw, fun _ => hv1⟩
            · rw [q1, q2]; exact ⟨fun _ => hv1, fun _ => jw⟩
          · exact hJ x hx ⟨hFx, c⟩) hv1)
        omega
      · -- the two sides
        have stepA : ∀ x, x < 60 → (F x ∧ x ≠ e) → (Cn (fun x => F x ∧ x ≠ e) v (lo x) ↔ Cn (fun x => F x ∧ x ≠ e) v (hi x)) := fun x hx hFx => Cn.step hx hFx
        have stepB : ∀ x, x < 60 → (F x ∧ x ≠ e) → (Cn (fun x => F x ∧ x ≠ e) w (lo x) ↔ Cn (fun x => F x ∧ x ≠ e) w (hi x)) := fun x hx hFx => Cn.step hx hFx
        have split : ∀ u, Cn F v u → Cn (fun x => F x ∧ x ≠ e) v u ∨ Cn (fun x => F x ∧ x ≠ e) w u := fun u hu => hu (fun x => Cn (fun x => F x ∧ x ≠ e) v x ∨ Cn (fun x => F x ∧ x ≠ e) w x) (fun x hx hFx => by
          by_cases c : x = e
          · rw [c]
            rcases ends with ⟨q1, q2⟩ | ⟨q1, q2⟩
            · rw [q1, q2]; exact ⟨fun _ => Or.inr (Cn.refl _ _), fun _ => Or.inl (Cn.refl _ _)⟩
            · rw [q1, q2]; exact ⟨fun _ => Or.inl (Cn.refl _ _), fun _ => Or.inr (Cn.refl _ _)⟩
          · exact or_congr (stepA x hx ⟨hFx, c⟩) (stepB x hx ⟨hFx, c⟩)) (Or.inl (Cn.refl _ _))
        have hdis : ∀ x, Cn (fun x => F x ∧ x ≠ e) v x → ¬ Cn (fun x => F x ∧ x ≠ e) w x := fun x a b => hcy (a.trans b.symm)
        have inA : ∀ u, Cn (fun x => F x ∧ x ≠ e) v u → Cn (fun x => (F x ∧ x ≠ e) ∧ Cn (fun x => F x ∧ x ≠ e) v (lo x)) v u := fun u hu J hJ hv1 => (hu (fun x => J x ∧ Cn (fun x => F x ∧ x ≠ e) v x) (fun x hx hFx => by
          have s := stepA x hx hFx
          constructor
          · rintro ⟨a, b⟩; exact ⟨(hJ x hx ⟨hFx, b⟩).mp a, s.mp b⟩
          · rintro ⟨a, b⟩; exact ⟨(hJ x hx ⟨hFx, s.mpr b⟩).mpr a, s.mpr b⟩) ⟨hv1, Cn.refl _ _⟩).1
        have inB : ∀ u, Cn (fun x => F x ∧ x ≠ e) w u → Cn (fun x => (F x ∧ x ≠ e) ∧ Cn (fun x => F x ∧ x ≠ e) w (lo x)) w u := fun u hu J hJ hv1 => (hu (fun x => J x ∧ Cn (fun x => F x ∧ x ≠ e) w x) (fun x hx hFx => by
          have s := stepB x hx hFx
          constructor
          · rintro ⟨a, b⟩; exact ⟨(hJ x hx ⟨hFx, b⟩).mp a, s.mp b⟩
          · rintro ⟨a, b⟩; exact ⟨(hJ x hx ⟨hFx, s.mpr b⟩).mpr a, s.mpr b⟩) ⟨hv1, Cn.refl _ _⟩).1
        have sum := eC_two hp (F := fun x => F x ∧ x ≠ e) (F1 := fun x => (F x ∧ x ≠ e) ∧ Cn (fun x => F x ∧ x ≠ e) v (lo x)) (F2 := fun x => (F x ∧ x ≠ e) ∧ Cn (fun x => F x ∧ x ≠ e) w (lo x)) (fun x _ q => q.1) (fun x _ q => q.1) (fun x _ a b => hdis _ a.2 b.2)
        have c1 := eC_mono h1p (F := fun x => (F x ∧ x ≠ e) ∧ Cn (fun x => F x ∧ x ≠ e) v (lo x)) (G := fun x => F x ∧ x ≠ e) (fun x _ q => q.1)
        have c2 := eC_mono h1p (F := fun x => (F x ∧ x ≠ e) ∧ Cn (fun x => F x ∧ x ≠ e) w (lo x)) (G := fun x => F x ∧ x ≠ e) (fun x _ q => q.1)
        have n1 := eC_nn hp (fun x => (F x ∧ x ≠ e) ∧ Cn (fun x => F x ∧ x ≠ e) v (lo x))
        have n2 := eC_nn hp (fun x => (F x ∧ x ≠ e) ∧ Cn (fun x => F x ∧ x ≠ e) w (lo x))
        have useA := ih (fun x => (F x ∧ x ≠ e) ∧ Cn (fun x => F x ∧ x ≠ e) v (lo x)) (by omega)
        have useB := ih (fun x => (F x ∧ x ≠ e) ∧ Cn (fun x => F x ∧ x ≠ e) w (lo x)) (by omega)
        obtain ⟨P, p1, p2⟩ := mask_ex (fun i => S.testBit i = true ∧ Cn (fun x => F x ∧ x ≠ e) v (tw i)) k
        have pS : P &&& S = P := sub_and (fun i q => ((p2 i).mp q).2.1)
        have ple : P ≤ S := by rw [← pS]; exact Nat.and_le_right
        have inP : ∀ i, i < k → P.testBit i = true → Cn (fun x => F x ∧ x ≠ e) v (tw i) := fun i _ q => ((p2 i).mp q).2.2
        have notP : ∀ i, i < k → S.testBit i = true → ¬ P.testBit i = true → Cn (fun x => F x ∧ x ≠ e) w (tw i) := fun i hi q1 q2 => (split _ (hC i hi q1)).resolve_left (fun z => q2 ((p2 i).mpr ⟨hi, q1, z⟩))
        by_cases z1 : P = 0
        · have a := useB S h1 h2 w hw36 (fun i hi q => inB _ (notP i hi q (by rw [z1, Nat.zero_testBit]; decide)))
          have b := cost S h1 h2
          omega
        · by_cases z2 : P = S
          · have a := useA S h1 h2 v hv (fun i hi q => inA _ (inP i hi (by rw [z2]; exact q)))
            omega
          · have a := useA P (by omega) p1 v hv (fun i hi q => inA _ (inP i hi q))
            have b := useB (S - P) (by omega) (by omega) w hw36 (fun i hi q => by
              have d := pa6 S hS P (by omega) pS i (by omega)
              rw [d] at q
              have q := Bool.and_eq_true_iff.mp q
              exact inB _ (notP i hi q.1 (by have := q.2; simpa using this)))
            have c := cost (S - P) (by omega) (by omega)
            have d := h.2.2 S h2 P (by omega) (by omega) pS v hv
            omega
    · exact alone F S h1 h2 v hv hC hno
theorem netLow' {p : Nat → Int} {k : Nat} {tw : Nat → Nat} {g : Nat → Nat → Int} (hp : pNN p) (hk : k ≤ 7) (h : STf p k tw g) {F : Nat → Prop} {S v : Nat} (h1 : 0 < S) (h2 : S < 2 ^ k) (hv : v < 36) (hC : Conn F k tw S v) : g S v ≤ eC p F :=
  netLow hp hk h (eC (fun _ => 1) F).toNat F (by have := eC_nn (p := fun _ => (1 : Int)) (fun _ _ => (by decide : (0 : Int) ≤ 1)) F; omega) S h1 h2 v hv hC
theorem minF_ex {p : Nat → Int} (hp : pNN p) (Q : (Nat → Prop) → Prop) : ∀ (n : Nat) (F : Nat → Prop), Q F → eC p F ≤ (n : Int) → ∃ G, Q G ∧ ∀ H, Q H → eC p G ≤ eC p H := by
  intro n
  induction n with
  | zero =>
    intro F hF hc
    refine ⟨F, hF, fun H _ => ?_⟩
    have := eC_nn hp H
    omega
  | succ n ih =>
    intro F hF hc
    by_cases c : ∃ H, Q H ∧ eC p H ≤ (n : Int)
    · obtain ⟨H, h1, h2⟩ := c
      exact ih H h1 h2
    · refine ⟨F, hF, fun H hH => ?_⟩
      have : ¬ eC p H ≤ (n : Int) := fun z => c ⟨H, hH, z⟩
      omega
/-- and some set of edges costs just that -/
theorem netUp {p : Nat → Int} {k : Nat} {tw : Nat → Nat} {T : Nat → Nat → Int} (hp : pNN p) (hk : k ≤ 7) (htw : ∀ i, i < k → tw i < 36) (h : STt p k tw T) {S v : Nat} (h1 : 0 < S) (h2 : S < 2 ^ k) (hv : v < 36) : ∃ F, Conn F k tw S v ∧ eC p F ≤ T S v := by
  have ex : ∀ S v, ∃ G : Nat → Prop, v < 36 → (Conn G k tw S v ∧ ∀ H, Conn H k tw S v → eC p G ≤ eC p H) := by
    intro S v
    by_cases c : v < 36
    · obtain ⟨G, g1, g2⟩ := minF_ex hp (fun F => Conn F k tw S v) (eC p (fun _ => True)).toNat (fun _ => True) (fun i hi _ => Cn_all c (htw i hi)) (by have := eC_nn hp (fun _ => True); omega)
      exact ⟨G, fun _ => ⟨g1, g2⟩⟩
    · exact ⟨fun _ => True, fun q => absurd q c⟩
  obtain ⟨N, hN⟩ : ∃ N : Nat → Nat → (Nat → Prop), ∀ S v, v < 36 → (Conn (N S v) k tw S v ∧ ∀ H, Conn H k tw S v → eC p (N S v) ≤ eC p H) := ⟨fun S v => Classical.choose (ex S v), fun S v => Classical.choose_spec (ex S v)⟩
  have feas : STf p k tw (fun S v => eC p (N S v)) := by
    refine ⟨fun S _ _ e he => ?_, fun i hi => ?_, fun W hW S s1 s2 s3 v hv => ?_⟩
    · have hl := lo_lt he
      have hh := hi_lt he
      have a := (hN S _ hl).1
      have b := (hN S _ hh).1
      have c1 := eC_or hp (N S (lo e)) (fun x => x = e)
      have c2 := eC_or hp (N S (hi e)) (fun x => x = e)
      rw [eC_one he] at c1 c2
      have d1 := (hN S _ hh).2 (fun x => N S (lo e) x ∨ x = e) (fun i hik q => (Cn.edge (F := fun x => N S (lo e) x ∨ x = e) he (Or.inr rfl)).symm.trans ((a i hik q).mono (fun x _ y => Or.inl y)))
      have d2 := (hN S _ hl).2 (fun x => N S (hi e) x ∨ x = e) (fun i hik q => (Cn.edge (F := fun x => N S (hi e) x ∨ x = e) he (Or.inr rfl)).trans ((b i hik q).mono (fun x _ y => Or.inl y)))
      show eC p (N S (hi e)) ≤ eC p (N S (lo e)) + p e ∧ eC p (N S (lo e)) ≤ eC p (N S (hi e)) + p e
      omega
    · have a := (hN (2 ^ i) _ (htw i hi)).2 (fun _ => False) (fun j hj q => by
        rw [Nat.testBit_two_pow] at q
        have : i = j := by simpa using q
        rw [this]; exact Cn.refl _ _)
      rw [eC_empty] at a
      exact a
    · have a := (hN S v hv).1
      have b := (hN (W - S) v hv).1
      have c := eC_or hp (N S v) (N (W - S) v)
      have W128 : W < 128 := by have := (pow7 k (by omega)).1; omega
      have d := (hN W v hv).2 (fun x => N S v x ∨ N (W - S) v x) (fun i hi q => by
        by_cases z : S.testBit i = true
        · exact (a i hi z).mono (fun x _ y => Or.inl y)
        · refine (b i hi ?_).mono (fun x _ y => Or.inr y)
          rw [pa6 W W128 S (by omega) s3 i (by omega), q]
          simpa using z)
      show eC p (N W v) ≤ eC p (N S v) + eC p (N (W - S) v)
      omega
  exact ⟨N S v, (hN S v hv).1, h.2 _ feas S h1 h2 v hv⟩
/-- from a town of its own a set costs no more than from elsewhere -/
theorem reroot {p : Nat → Int} {k : Nat} {tw : Nat → Nat} {T : Nat → Nat → Int} (hp : pNN p) (hk : k ≤ 7) (htw : ∀ i, i < k → tw i < 36) (h : STt p k tw T) {S R v j : Nat} (h1 : 0 < S) (h2 : S < 2 ^ k) (hv : v < 36) (hj : j < k) (hjS : S.testBit j = true) (r1 : 0 < R) (r2 : R < 2 ^ k) (hRS : ∀ i, i < k → R.testBit i = true → S.testBit i = true) : T R (tw j) ≤ T S v := by
  obtain ⟨F, f1, f2⟩ := netUp hp hk htw h h1 h2 hv
  have := netLow' hp hk h.1 r1 r2 (htw j hj) (F := F) (fun i hi q => (f1 j hj hjS).symm.trans (f1 i hi (hRS i hi q)))
  omega
