/-! the bound is at most the least: functions below the table of nets -/
theorem tri3 {p : Nat → Int} (hp : PR p) {a b v : Nat} (ha : a < 36) (hb : b < 36) (hv : v < 36) : dsF p a b ≤ dsF p a v + dsF p b v := by
  have t := dsF_tri hp ha hv hb
  have s := dsF_sym hp hv hb
  omega
theorem one_bit {m i : Nat} : (2 ^ m).testBit i = true ↔ m = i := by
  rw [Nat.testBit_two_pow]
  simp
/-- half the way around three towns, as far as they are in the set, and a node -/
noncomputable def PrS (p : Nat → Int) (tw : Nat → Nat) (i j l : Nat) (a b c : Bool) (v : Nat) : Int :=
  if a = true then (if b = true then (if c = true then Dt p tw i j + Dt p tw j l + Dt p tw l i else Dt p tw i j + dsF p (tw i) v + dsF p (tw j) v)
    else (if c = true then Dt p tw l i + dsF p (tw i) v + dsF p (tw l) v else 2 * dsF p (tw i) v))
  else (if b = true then (if c = true then Dt p tw j l + dsF p (tw j) v + dsF p (tw l) v else 2 * dsF p (tw j) v)
    else (if c = true then 2 * dsF p (tw l) v else 0))
theorem PrS_step {p : Nat → Int} {tw : Nat → Nat} {i j l : Nat} {u v : Nat} {w : Int} (h0 : 0 ≤ w) (h1 : dsF p (tw i) u ≤ dsF p (tw i) v + w) (h2 : dsF p (tw j) u ≤ dsF p (tw j) v + w) (h3 : dsF p (tw l) u ≤ dsF p (tw l) v + w) (a b c : Bool) : PrS p tw i j l a b c u ≤ PrS p tw i j l a b c v + 2 * w := by
  unfold PrS
  cases a <;> cases b <;> cases c <;> simp <;> omega
theorem PrS_sub {p : Nat → Int} (hp : PR p) {tw : Nat → Nat} {i j l : Nat} (hi : tw i < 36) (hj : tw j < 36) (hl : tw l < 36) {v : Nat} (hv : v < 36) {a b c a1 b1 c1 a2 b2 c2 : Bool} (ea : a2 = (a && !a1)) (eb : b2 = (b && !b1)) (ec : c2 = (c && !c1)) (sa : a1 = true → a = true) (sb : b1 = true → b = true) (sc : c1 = true → c = true) : PrS p tw i j l a b c v ≤ PrS p tw i j l a1 b1 c1 v + PrS p tw i j l a2 b2 c2 v := by
  have t1 := tri3 hp hi hj hv
  have t2 := tri3 hp hj hl hv
  have t3 := tri3 hp hl hi hv
  have n1 := (dsF_bd hp hi hv).1
  have n2 := (dsF_bd hp hj hv).1
  have n3 := (dsF_bd hp hl hv).1
  subst ea
  subst eb
  subst ec
  have n4 := (dsF_bd hp hi hj).1
  have n5 := (dsF_bd hp hj hl).1
  have n6 := (dsF_bd hp hl hi).1
  unfold PrS Dt
  generalize dsF p (tw i) v = di at *
  generalize dsF p (tw j) v = dj at *
  generalize dsF p (tw l) v = dl at *
  generalize dsF p (tw i) (tw j) = dij at *
  generalize dsF p (tw j) (tw l) = djl at *
  generalize dsF p (tw l) (tw i) = dli at *
  cases a <;> cases a1 <;> first | (exact absurd (sa rfl) (by decide)) | skip
  all_goals (cases b <;> cases b1 <;> first | (exact absurd (sb rfl) (by decide)) | skip)
  all_goals (cases c <;> cases c1 <;> first | (exact absurd (sc rfl) (by decide)) | skip)
  all_goals (simp <;> omega)
theorem three_le {p : Nat → Int} (hp : PR p) {k : Nat} (hk : k ≤ 6) {tw : Nat → Nat} (htw : ∀ i, i < k → tw i < 36) {T : Nat → Nat → Int} (h : STt p k tw T) (h2 : 2 ≤ k) {i j l : Nat} (ki : i < k) (kj : j < k) (kl : l < k) : (Dt p tw i j + Dt p tw j l + Dt p tw l i + 1) / 2 ≤ T (2 ^ k - 1) (tw 0) := by
  have pw := pow_ge2 h2 (by omega)
  have f : STf p k tw (fun S v => (PrS p tw i j l (S.testBit i) (S.testBit j) (S.testBit l) v + 1) / 2) := by
    refine ⟨fun S _ _ e he => ?_, fun m hm => ?_, fun W hW S s0 sW sub v hv => ?_⟩
    · have c1 := (dsF_is hp (htw i ki)).1 e he
      have c2 := (dsF_is hp (htw j kj)).1 e he
      have c3 := (dsF_is hp (htw l kl)).1 e he
      have pe := hp e he
      have a1 := PrS_step (tw := tw) (i := i) (j := j) (l := l) (u := hi e) (v := lo e) (w := p e) pe.1 c1.1 c2.1 c3.1 (S.testBit i) (S.testBit j) (S.testBit l)
      have a2 := PrS_step (tw := tw) (i := i) (j := j) (l := l) (u := lo e) (v := hi e) (w := p e) pe.1 c1.2 c2.2 c3.2 (S.testBit i) (S.testBit j) (S.testBit l)
      show (PrS p tw i j l (S.testBit i) (S.testBit j) (S.testBit l) (hi e) + 1) / 2 ≤ (PrS p tw i j l (S.testBit i) (S.testBit j) (S.testBit l) (lo e) + 1) / 2 + p e ∧ (PrS p tw i j l (S.testBit i) (S.testBit j) (S.testBit l) (lo e) + 1) / 2 ≤ (PrS p tw i j l (S.testBit i) (S.testBit j) (S.testBit l) (hi e) + 1) / 2 + p e
      omega
    · have z := dsF_self hp (htw m hm)
      have key : PrS p tw i j l ((2 ^ m).testBit i) ((2 ^ m).testBit j) ((2 ^ m).testBit l) (tw m) = 0 := by
        unfold PrS Dt
        by_cases q1 : (2 ^ m).testBit i = true
        · have e1 := one_bit.mp q1
          rw [if_pos q1, ← e1, z]
          by_cases q2 : (2 ^ m).testBit j = true
          · have e2 := one_bit.mp q2
            rw [if_pos q2, ← e2, z]
            by_cases q3 : (2 ^ m).testBit l = true
            · have e3 := one_bit.mp q3
              rw [if_pos q3, ← e3, z]; rfl
            · rw [if_neg q3]; rfl
          · rw [if_neg q2]
            by_cases q3 : (2 ^ m).testBit l = true
            · have e3 := one_bit.mp q3
              rw [if_pos q3, ← e3, z]; rfl
            · rw [if_neg q3]; rfl
        · rw [if_neg q1]
          by_cases q2 : (2 ^ m).testBit j = true
          · have e2 := one_bit.mp q2
            rw [if_pos q2, ← e2, z]
            by_cases q3 : (2 ^ m).testBit l = true
            · have e3 := one_bit.mp q3
              rw [if_pos q3, ← e3, z]; rfl
            · rw [if_neg q3]; rfl
          · rw [if_neg q2]
            by_cases q3 : (2 ^ m).testBit l = true
            · have e3 := one_bit.mp q3
              rw [if_pos q3, ← e3, z]; rfl
            · rw [if_neg q3]
      show (PrS p tw i j l ((2 ^ m).testBit i) ((2 ^ m).testBit j) ((2 ^ m).testBit l) (tw m) + 1) / 2 ≤ 0
      rw [key]; decide
    · have b1 := fun x (hx : x < 7) => pa6 W (by omega) S (by omega) sub x hx
      have s := PrS_sub hp (htw i ki) (htw j kj) (htw l kl) hv (b1 i (by omega)) (b1 j (by omega)) (b1 l (by omega)) (fun q => and_sub sub q) (fun q => and_sub sub q) (fun q => and_sub sub q)
      show (PrS p tw i j l (W.testBit i) (W.testBit j) (W.testBit l) v + 1) / 2 ≤ (PrS p tw i j l (S.testBit i) (S.testBit j) (S.testBit l) v + 1) / 2 + (PrS p tw i j l ((W - S).testBit i) ((W - S).testBit j) ((W - S).testBit l) v + 1) / 2
      omega
  have g := h.2 _ f (2 ^ k - 1) (by omega) (by omega) (tw 0) (htw 0 (by omega))
  have g : (PrS p tw i j l ((2 ^ k - 1).testBit i) ((2 ^ k - 1).testBit j) ((2 ^ k - 1).testBit l) (tw 0) + 1) / 2 ≤ T (2 ^ k - 1) (tw 0) := g
  rw [allB.mpr ki, allB.mpr kj, allB.mpr kl] at g
  exact g
/-! the tree of pairs -/
theorem ind_bd (P : Prop) : 0 ≤ ind P ∧ ind P ≤ 1 := by
  by_cases q : P
  · rw [ind_t q]; omega
  · rw [ind_f q]; omega
theorem tc_single {D : Nat → Nat → Int} {k : Nat} (hD : ∀ i, i < k → ∀ j, j < k → D i j = D j i) {n : Nat} (hn : n < k) (th : Int) : tc D k (fun i => i = n) th = 1 := by
  obtain ⟨r, r1, r2, r3⟩ := rep_ex (th := th) hD hn
  unfold tc
  rw [← ss_one 1 (k := r) (m := k) (a := 0) (Nat.zero_le _) (by omega)]
  refine ss_congr k 0 (fun i _ hi => ?_)
  by_cases q : i = r
  · rw [if_pos q, q]
    exact ind_t ⟨r3, n, hn, rfl, r2⟩
  · rw [if_neg q]
    refine ind_f (fun ⟨a, j, j1, j2, j3⟩ => ?_)
    subst j2
    have x : Er D k th i r := Er.trans (Er.symm hD j3) r2
    rcases Nat.lt_or_ge r i with z | z
    · exact a r z x
    · exact r3 i (by omega) (Er.symm hD x)
theorem Phi_single {D : Nat → Nat → Int} {k : Nat} (hD : ∀ i, i < k → ∀ j, j < k → D i j = D j i) {n : Nat} (hn : n < k) : Phi D k (fun i => i = n) = 1000 := by
  unfold Phi
  rw [ss_congr 1000 1 (fun th _ _ => tc_single hD hn (th : Int))]
  exact ss_ones 1000 1
theorem tc_or {D : Nat → Nat → Int} {k : Nat} (hD : ∀ i, i < k → ∀ j, j < k → D i j = D j i) {J A B : Nat → Prop} (hJ : ∀ i, i < k → J i → A i ∨ B i) {i j : Nat} (hi : i < k) (hj : j < k) (hA : A i) (hB : B j) (th : Int) : tc D k J th + (if th ≤ D i j then 0 else 1) ≤ tc D k A th + tc D k B th := by
  unfold tc
  rw [← ss_add]
  have pt : ∀ x, ind (rep D k th x ∧ tch D k th J x) ≤ ind (rep D k th x ∧ tch D k th A x) + ind (rep D k th x ∧ tch D k th B x) := fun x => by
    have a := ind_bd (rep D k th x ∧ tch D k th A x)
    have b := ind_bd (rep D k th x ∧ tch D k th B x)
    by_cases q : rep D k th x ∧ tch D k th J x
    · obtain ⟨q1, y, y1, y2, y3⟩ := q
      rw [ind_t ⟨q1, y, y1, y2, y3⟩]
      rcases hJ y y1 y2 with z | z
      · have e := ind_t (P := rep D k th x ∧ tch D k th A x) ⟨q1, y, y1, z, y3⟩; omega
      · have e := ind_t (P := rep D k th x ∧ tch D k th B x) ⟨q1, y, y1, z, y3⟩; omega
    · rw [ind_f q]; omega
  by_cases q : th ≤ D i j
  · rw [if_pos q, Int.add_zero]
    exact ss_le k 0 (fun x _ _ => pt x)
  · rw [if_neg q]
    obtain ⟨r, r1, r2, r3⟩ := rep_ex (th := th) hD hi
    have eij : Er D k th j i := fun K hK kj => hK j hj i hi kj (by rw [hD j hj i hi]; omega)
    rw [← ss_one 1 (k := r) (m := k) (a := 0) (Nat.zero_le _) (by omega), ← ss_add]
    refine ss_le k 0 (fun x _ _ => ?_)
    show ind (rep D k th x ∧ tch D k th J x) + (if x = r then 1 else 0) ≤ ind (rep D k th x ∧ tch D k th A x) + ind (rep D k th x ∧ tch D k th B x)
    by_cases z : x = r
    · rw [if_pos z, z, ind_t (P := rep D k th r ∧ tch D k th A r) ⟨r3, i, hi, hA, r2⟩, ind_t (P := rep D k th r ∧ tch D k th B r) ⟨r3, j, hj, hB, Er.trans eij r2⟩]
      have := (ind_bd (rep D k th r ∧ tch D k th J r)).2
      omega
    · rw [if_neg z]; have := pt x; omega
theorem Phi_or {D : Nat → Nat → Int} {k : Nat} (hD : ∀ i, i < k → ∀ j, j < k → D i j = D j i) {J A B : Nat → Prop} (hJ : ∀ i, i < k → J i → A i ∨ B i) {i j : Nat} (hi : i < k) (hj : j < k) (hA : A i) (hB : B j) (hb : 0 ≤ D i j ∧ D i j ≤ 590) : Phi D k J + 1000 ≤ Phi D k A + Phi D k B + D i j := by
  have c := cnt_th 1000 1 (D i j) (by omega) (by omega)
  have o := ss_ones 1000 1
  have le : ss (fun th => tc D k J (th : Int) + (1 - if (th : Int) ≤ D i j then (1 : Int) else 0)) 1 1000 ≤ ss (fun th => tc D k A (th : Int) + tc D k B (th : Int)) 1 1000 := ss_le 1000 1 (fun th _ _ => by
    have t := tc_or hD hJ hi hj hA hB (th : Int)
    show tc D k J (th : Int) + (1 - if (th : Int) ≤ D i j then (1 : Int) else 0) ≤ tc D k A (th : Int) + tc D k B (th : Int)
    by_cases q : (th : Int) ≤ D i j
    · rw [if_pos q] at t ⊢; omega
    · rw [if_neg q] at t ⊢; omega)
  rw [ss_add, ss_add, ss_sub] at le
  unfold Phi
  rw [o, c] at le
  omega
theorem bit_ex {k S : Nat} (h0 : 0 < S) (hS : S < 2 ^ k) : ∃ i, i < k ∧ S.testBit i = true := by
  obtain ⟨i, hi⟩ := Nat.exists_testBit_of_ne_zero (show S ≠ 0 by omega)
  refine ⟨i, ?_, hi⟩
  rcases Nat.lt_or_ge i k with q | q
  · exact q
  · have : S < 2 ^ i := Nat.lt_of_lt_of_le hS (Nat.pow_le_pow_right (by decide) q)
    rw [Nat.testBit_lt_two_pow this] at hi
    exact absurd hi (by decide)
theorem near_ex (d : Nat → Int) (Q : Nat → Prop) : ∀ k : Nat, (∃ i, i < k ∧ Q i) → ∃ i, i < k ∧ Q i ∧ ∀ j, j < k → Q j → d i ≤ d j := by
  intro k
  induction k with
  | zero => rintro ⟨i, hi, _⟩; exact absurd hi (by omega)
  | succ k ih =>
    rintro ⟨i, hi, hq⟩
    by_cases c : ∃ i, i < k ∧ Q i
    · obtain ⟨x, x1, x2, x3⟩ := ih c
      by_cases q : Q k ∧ d k < d x
      · refine ⟨k, by omega, q.1, fun j hj hj2 => ?_⟩
        by_cases e : j = k
        · rw [e]; omega
        · have := x3 j (by omega) hj2; omega
      · refine ⟨x, by omega, x2, fun j hj hj2 => ?_⟩
        by_cases e : j = k
        · rw [e] at hj2 ⊢
          by_cases l : d k < d x
          · exact absurd ⟨hj2, l⟩ q
          · omega
        · exact x3 j (by omega) hj2
    · have e : i = k := by
        by_cases e : i = k
        · exact e
        · exact absurd ⟨i, by omega, hq⟩ c
      subst e
      refine ⟨i, by omega, hq, fun j hj hj2 => ?_⟩
      by_cases e : j = i
      · rw [e]; omega
      · exact absurd ⟨j, by omega, hj2⟩ c
theorem tree_le {p : Nat → Int} (hp : PR p) {k : Nat} (hk : k ≤ 6) {tw : Nat → Nat} (htw : ∀ i, i < k → tw i < 36) (hD : DOK (Dt p tw) k) {T : Nat → Nat → Int} (h : STt p k tw T) (h2 : 2 ≤ k) : (TreeS (Dt p tw) k + 1) / 2 ≤ T (2 ^ k - 1) (tw 0) := by
  have pw := pow_ge2 h2 (by omega)
  have hs : ∀ i, i < k → ∀ j, j < k → Dt p tw i j = Dt p tw j i := fun i hi j hj => (hD i hi j hj).1
  have ex : ∀ q : Nat × Nat, ∃ m : Int, (0 < q.1 ∧ q.1 < 2 ^ k) → (∃ i, i < k ∧ q.1.testBit i = true ∧ m = dsF p (tw i) q.2) ∧ ∀ i, i < k → q.1.testBit i = true → m ≤ dsF p (tw i) q.2 := fun q => by
    by_cases c : 0 < q.1 ∧ q.1 < 2 ^ k
    · obtain ⟨i, i1, i2, i3⟩ := near_ex (fun i => dsF p (tw i) q.2) (fun i => q.1.testBit i = true) k (bit_ex c.1 c.2)
      exact ⟨dsF p (tw i) q.2, fun _ => ⟨⟨i, i1, i2, rfl⟩, fun j j1 j2 => i3 j j1 j2⟩⟩
    · exact ⟨0, fun z => absurd z c⟩
  obtain ⟨m, hm⟩ := Classical.axiomOfChoice ex
  obtain ⟨ph, hph⟩ : ∃ ph : Nat → Int, ∀ S, ph S = Phi (Dt p tw) k (fun i => S.testBit i = true) := ⟨fun S => Phi (Dt p tw) k (fun i => S.testBit i = true), fun _ => rfl⟩
  have f : STf p k tw (fun S v => (ph S - 1000 + 2 * m (S, v) + 1) / 2) := by
    refine ⟨fun S s0 s1 e he => ?_, fun l hl => ?_, fun W hW S s0 sW sub v hv => ?_⟩
    · have pe := hp e he
      have st : ∀ u v : Nat, (∀ i, i < k → dsF p (tw i) u ≤ dsF p (tw i) v + p e) → m (S, u) ≤ m (S, v) + p e := fun u v huv => by
        obtain ⟨⟨i, i1, i2, i3⟩, _⟩ := hm (S, v) ⟨s0, s1⟩
        have a := (hm (S, u) ⟨s0, s1⟩).2 i i1 i2
        have b := huv i i1
        have i3 : m (S, v) = dsF p (tw i) v := i3
        have a : m (S, u) ≤ dsF p (tw i) u := a
        omega
      have a1 := st (hi e) (lo e) (fun i hi => ((dsF_is hp (htw i hi)).1 e he).1)
      have a2 := st (lo e) (hi e) (fun i hi => ((dsF_is hp (htw i hi)).1 e he).2)
      show (ph S - 1000 + 2 * m (S, hi e) + 1) / 2 ≤ (ph S - 1000 + 2 * m (S, lo e) + 1) / 2 + p e ∧ (ph S - 1000 + 2 * m (S, lo e) + 1) / 2 ≤ (ph S - 1000 + 2 * m (S, hi e) + 1) / 2 + p e
      omega
    · have z := dsF_self hp (htw l hl)
      have q1 := (hm (2 ^ l, tw l) ⟨Nat.pow_pos (by decide), pow_mono hl⟩).2 l hl (one_bit.mpr rfl)
      have q1 : m (2 ^ l, tw l) ≤ dsF p (tw l) (tw l) := q1
      have pl : ph (2 ^ l) = 1000 := (hph _).trans ((Phi_congr (fun i _ => ⟨fun y => (one_bit.mp y).symm, fun y => one_bit.mpr y.symm⟩)).trans (Phi_single hs hl))
      show (ph (2 ^ l) - 1000 + 2 * m (2 ^ l, tw l) + 1) / 2 ≤ 0
      rw [pl]
      clear hm
      omega
    · have b1 := fun x (hx : x < 7) => pa6 W (by omega) S (by omega) sub x hx
      obtain ⟨⟨i, i1, i2, i3⟩, _⟩ := hm (S, v) ⟨s0, by omega⟩
      obtain ⟨⟨j, j1, j2, j3⟩, _⟩ := hm (W - S, v) ⟨by omega, by omega⟩
      have i2 : S.testBit i = true := i2
      have j2 : (W - S).testBit j = true := j2
      have i3 : m (S, v) = dsF p (tw i) v := i3
      have j3 : m (W - S, v) = dsF p (tw j) v := j3
      have jW : W.testBit j = true := by
        have := b1 j (by omega)
        rw [j2] at this
        cases hW2 : W.testBit j with
        | true => rfl
        | false => rw [hW2] at this; exact absurd this (by simp)
      have mW := (hm (W, v) ⟨by omega, hW⟩).2
      have w1 := mW i i1 (and_sub sub i2)
      have w2 := mW j j1 jW
      have w1 : m (W, v) ≤ dsF p (tw i) v := w1
      have w2 : m (W, v) ≤ dsF p (tw j) v := w2
      have t := tri3 hp (htw i i1) (htw j j1) hv
      have po := Phi_or (D := Dt p tw) (k := k) hs (J := fun x => W.testBit x = true) (A := fun x => S.testBit x = true) (B := fun x => (W - S).testBit x = true) (fun x hx y => by
        have := b1 x (by omega)
        cases hS2 : S.testBit x with
        | true => exact Or.inl rfl
        | false =>
          rw [hS2, y] at this
          exact Or.inr this) i1 j1 i2 j2 (hD i i1 j j1).2.1
      have e : Dt p tw i j = dsF p (tw i) (tw j) := rfl
      show (ph W - 1000 + 2 * m (W, v) + 1) / 2 ≤ (ph S - 1000 + 2 * m (S, v) + 1) / 2 + (ph (W - S) - 1000 + 2 * m (W - S, v) + 1) / 2
      rw [e, ← hph W, ← hph S, ← hph (W - S)] at po
      clear hph
      clear b1 hm mW
      omega
  have g := h.2 _ f (2 ^ k - 1) (by omega) (by omega) (tw 0) (htw 0 (by omega))
  have g : (ph (2 ^ k - 1) - 1000 + 2 * m (2 ^ k - 1, tw 0) + 1) / 2 ≤ T (2 ^ k - 1) (tw 0) := g
  have e1 : ph (2 ^ k - 1) = Phi (Dt p tw) k (fun _ => True) := (hph _).trans (Phi_congr (fun i hi => ⟨fun _ => trivial, fun _ => allB.mpr hi⟩))
  have e2 := Phi_single hs (show 0 < k by omega)
  obtain ⟨⟨i, i1, i2, i3⟩, _⟩ := hm (2 ^ k - 1, tw 0) ⟨by show 0 < 2 ^ k - 1; omega, by show 2 ^ k - 1 < 2 ^ k; omega⟩
  have i3 : m (2 ^ k - 1, tw 0) = dsF p (tw i) (tw 0) := i3
  have n := (dsF_bd hp (htw i i1) (htw 0 (by omega))).1
  unfold TreeS
  rw [e1] at g
  clear hm hph f
  omega
theorem bound_le {M Mm : Mem} (h : Rl M Mm) {r s : Int} (hr : Lst Mm r) (hs : Bnd Mm s) (h0 : 0 ≤ r) : s ≤ r := by
  obtain ⟨k, k1, k2, k3, k4, k5⟩ := h.tws
  have hD := h.DOK k3
  have hP := h.2.1.PR
  refine (hs k k3 r).mpr ?_
  by_cases c : k < 2
  · rw [if_pos c]
    refine ⟨h0, fun i hi j hj l hl => ?_⟩
    have e1 : i = j := by omega
    have e2 : j = l := by omega
    have d1 := (hD i hi j hj).2.2.1 e1
    have d2 := (hD j hj l hl).2.2.1 e2
    have d3 := (hD l hl i hi).2.2.1 (by omega)
    omega
  · rw [if_neg c]
    obtain ⟨T, t1, t2⟩ := (hr k k3).2 (by omega)
    have tw := fun i hi => (k4 i hi).2.2
    rw [t2]
    refine ⟨tree_le hP k1 tw hD t1 (by omega), fun i hi j hj l hl => ⟨?_, three_le hP k1 tw t1 (by omega) hi hj hl⟩⟩
    have a := three_le hP k1 tw t1 (by omega) hi hj hi
    have d1 := (hD i hi i hi).2.2.1 rfl
    have d2 := (hD i hi j hj).1
    rw [d1, ← d2] at a
    omega
theorem two_towns {M Mm : Mem} (h : Rl M Mm) (hk : Mm 101 0 = 2) {r s : Int} (hr : Lst Mm r) (hs : Bnd Mm s) (h0 : 0 ≤ r) : s = r ∧ r = dsF (coM Mm) (tn Mm 0) (tn Mm 1) := by
  obtain ⟨k, k1, k2, k3, k4, k5⟩ := h.tws
  have e : k = 2 := by omega
  subst e
  have hP := h.2.1.PR
  have tw := fun i hi => (k4 i hi).2.2
  obtain ⟨T, t1, t2⟩ := (hr 2 k3).2 (by omega)
  have le := bound_le h hr hs h0
  have ge := (((hs 2 k3 s).mp (Int.le_refl _)).2 0 (by omega) 1 (by omega) 0 (by omega)).1
  have ge : dsF (coM Mm) (tn Mm 0) (tn Mm 1) ≤ s := ge
  have s2 := T_single hP (k := 2) (by omega) tw t1 (i := 1) (by omega) (tw 0 (by omega))
  have s2 : T 2 (tn Mm 0) = dsF (coM Mm) (tn Mm 1) (tn Mm 0) := s2
  have s1 := t1.1.2.1 0 (by omega)
  have s1 : T 1 (tn Mm 0) ≤ 0 := s1
  have sp := t1.1.2.2 3 (by decide) 1 (by decide) (by decide) (by decide) (tn Mm 0) (tw 0 (by omega))
  have sp : T 3 (tn Mm 0) ≤ T 1 (tn Mm 0) + T 2 (tn Mm 0) := sp
  have t2 : r = T 3 (tn Mm 0) := t2
  have sy := dsF_sym hP (tw 0 (by omega)) (tw 1 (by omega))
  omega
theorem used_some {M Mm : Mem} (h : Rl M Mm) {k : Nat} (hk : Mm 101 0 = (k : Int)) (h2 : 2 ≤ k) {r : Int} (hr : Lst Mm r) : ∃ e, e < 60 ∧ Used (coM Mm) k (tn Mm) r e := by
  obtain ⟨k', k1, k2, k3, k4, k5⟩ := h.tws
  have ek : k' = k := by omega
  subst ek
  have pw := pow_ge2 h2 (by omega)
  have tw := fun i hi => (k4 i hi).2.2
  obtain ⟨T, t1, t2⟩ := (hr k' k3).2 h2
  obtain ⟨F, f1, f2⟩ := netUp (p := coM Mm) (fun e he => (h.2.1.PR e he).1) (by omega) tw t1 (S := 2 ^ k' - 1) (v := tn Mm 0) (by omega) (by omega) (tw 0 (by omega))
  rw [← t2] at f2
  refine Classical.byContradiction fun no => ?_
  have nF : ∀ e, e < 60 → ¬ F e := fun e he z => no ⟨e, he, F, z, f1, f2⟩
  have c := f1 1 (by omega) (allB.mpr (by omega))
  have := c (fun v => v = tn Mm 0) (fun e he z => absurd z (nF e he)) rfl
  have := k5 1 (by omega) 0 (by omega) this
  omega
