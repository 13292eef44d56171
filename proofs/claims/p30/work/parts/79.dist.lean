/-! distances, and the sum of a tree that grows by the nearest -/
noncomputable def dsF (p : Nat → Int) (u : Nat) : Nat → Int := @dite _ (∃ t, Dst p u t) (Classical.propDecidable _) (fun h => Classical.choose h) (fun _ _ => 0)
theorem dsF_is {p : Nat → Int} (hp : PR p) {u : Nat} (hu : u < 36) : Dst p u (dsF p u) := by
  obtain ⟨t, h, _⟩ := Dst_ex hp hu
  have e : ∃ t, Dst p u t := ⟨t, h⟩
  unfold dsF
  rw [dif_pos e]
  exact Classical.choose_spec e
theorem dsF_bd {p : Nat → Int} (hp : PR p) {u v : Nat} (hu : u < 36) (hv : v < 36) : 0 ≤ dsF p u v ∧ dsF p u v ≤ 590 := by
  obtain ⟨t, h, h2⟩ := Dst_ex hp hu
  rw [Dst_one (dsF_is hp hu) h v hv]
  exact h2 v hv
theorem dsF_self {p : Nat → Int} (hp : PR p) {u : Nat} (hu : u < 36) : dsF p u u = 0 := by
  have a := (dsF_is hp hu).2.1
  have b := (dsF_bd hp hu hu).1
  omega
theorem dst_le {p t s : Nat → Int} {u v : Nat} (h : Dst p u t) (k : Dst p v s) (hs : 0 ≤ s v) (hv : v < 36) : s u ≤ t v := by
  have c : CLo p (fun x => s u - s x) := fun e he => by
    have := k.1 e he
    show s u - s (hi e) ≤ s u - s (lo e) + p e ∧ s u - s (lo e) ≤ s u - s (hi e) + p e
    omega
  have := h.2.2 _ c (by show s u - s u ≤ 0; omega) v hv
  have z := k.2.1
  have this : s u - s v ≤ t v := this
  omega
theorem dsF_sym {p : Nat → Int} (hp : PR p) {u v : Nat} (hu : u < 36) (hv : v < 36) : dsF p u v = dsF p v u :=
  Int.le_antisymm (dst_le (dsF_is hp hv) (dsF_is hp hu) (dsF_bd hp hu hu).1 hu) (dst_le (dsF_is hp hu) (dsF_is hp hv) (dsF_bd hp hv hv).1 hv)
theorem dsF_tri {p : Nat → Int} (hp : PR p) {u v w : Nat} (hu : u < 36) (hv : v < 36) (hw : w < 36) : dsF p u w ≤ dsF p u v + dsF p v w := by
  have c : CLo p (fun x => dsF p u x - dsF p u v) := fun e he => by
    have := (dsF_is hp hu).1 e he
    show dsF p u (hi e) - dsF p u v ≤ dsF p u (lo e) - dsF p u v + p e ∧ dsF p u (lo e) - dsF p u v ≤ dsF p u (hi e) - dsF p u v + p e
    omega
  have := (dsF_is hp hv).2.2 _ c (by show dsF p u v - dsF p u v ≤ 0; omega) w hw
  have this : dsF p u w - dsF p u v ≤ dsF p v w := this
  omega
theorem dsF_pos {p : Nat → Int} (hp : PR p) (hp1 : ∀ e, e < 60 → 1 ≤ p e) {u v : Nat} (hu : u < 36) (hv : v < 36) (hne : v ≠ u) : 1 ≤ dsF p u v := by
  have c : CLo p (fun x => if x = u then 0 else 1) := fun e he => by
    have := hp1 e he
    show (if hi e = u then (0 : Int) else 1) ≤ (if lo e = u then 0 else 1) + p e ∧ (if lo e = u then (0 : Int) else 1) ≤ (if hi e = u then 0 else 1) + p e
    constructor <;> split <;> split <;> omega
  have := (dsF_is hp hu).2.2 _ c (by show (if u = u then (0 : Int) else 1) ≤ 0; rw [if_pos rfl]; exact Int.le_refl 0) v hv
  have this : (if v = u then (0 : Int) else 1) ≤ dsF p u v := this
  rw [if_neg hne] at this
  exact this
theorem dsF_congr {p p2 : Nat → Int} (hp : PR p) (hp2 : PR p2) (h : ∀ e, e < 60 → p e = p2 e) {u v : Nat} (hu : u < 36) (hv : v < 36) : dsF p u v = dsF p2 u v := by
  have c : ∀ g, CLo p g ↔ CLo p2 g := fun g => ⟨fun z e he => by rw [← h e he]; exact z e he, fun z e he => by rw [h e he]; exact z e he⟩
  have a := dsF_is hp hu
  exact Dst_one ⟨(c _).mp a.1, a.2.1, fun g g1 g2 => a.2.2 g ((c g).mpr g1) g2⟩ (dsF_is hp2 hu) v hv
/-! the tree: nearer than a threshold -/
def Ecl (D : Nat → Nat → Int) (k : Nat) (th : Int) (J : Nat → Prop) : Prop := ∀ i, i < k → ∀ j, j < k → J i → D i j < th → J j
def Er (D : Nat → Nat → Int) (k : Nat) (th : Int) (i j : Nat) : Prop := ∀ J : Nat → Prop, Ecl D k th J → J i → J j
theorem Er.symm {D : Nat → Nat → Int} {k : Nat} {th : Int} (hD : ∀ i, i < k → ∀ j, j < k → D i j = D j i) {i j : Nat} (h : Er D k th i j) : Er D k th j i := by
  intro J hJ hj
  refine Classical.byContradiction fun hi => ?_
  have c : Ecl D k th (fun x => ¬ J x) := fun a ha b hb na hd nb => na (hJ b hb a ha nb (by rw [hD b hb a ha]; exact hd))
  exact h _ c hi hj
theorem Er.trans {D : Nat → Nat → Int} {k : Nat} {th : Int} {i j l : Nat} (h : Er D k th i j) (g : Er D k th j l) : Er D k th i l := fun J hJ hi => g J hJ (h J hJ hi)
noncomputable def ind (P : Prop) : Int := @ite _ P (Classical.propDecidable _) 1 0
theorem ind_t {P : Prop} (h : P) : ind P = 1 := by unfold ind; exact if_pos h
theorem ind_f {P : Prop} (h : ¬ P) : ind P = 0 := by unfold ind; exact if_neg h
theorem ind_iff {P Q : Prop} (h : P ↔ Q) : ind P = ind Q := by rw [propext h]
def rep (D : Nat → Nat → Int) (k : Nat) (th : Int) (i : Nat) : Prop := ∀ j, j < i → ¬ Er D k th i j
def tch (D : Nat → Nat → Int) (k : Nat) (th : Int) (J : Nat → Prop) (i : Nat) : Prop := ∃ j, j < k ∧ J j ∧ Er D k th j i
noncomputable def tc (D : Nat → Nat → Int) (k : Nat) (J : Nat → Prop) (th : Int) : Int := ss (fun i => ind (rep D k th i ∧ tch D k th J i)) 0 k
theorem rep_ex {D : Nat → Nat → Int} {k : Nat} {th : Int} (hD : ∀ i, i < k → ∀ j, j < k → D i j = D j i) {n : Nat} (hn : n < k) : ∃ r, r < k ∧ Er D k th n r ∧ rep D k th r := by
  have key : ∀ m x, x ≤ m → x < k → Er D k th n x → ∃ r, r < k ∧ Er D k th n r ∧ rep D k th r := by
    intro m
    induction m with
    | zero => intro x h1 h2 h3; exact ⟨x, h2, h3, fun j hj => absurd hj (by omega)⟩
    | succ m ih =>
      intro x h1 h2 h3
      by_cases c : rep D k th x
      · exact ⟨x, h2, h3, c⟩
      · obtain ⟨j, hj⟩ := Classical.not_forall.mp c
        have hj1 : j < x := Classical.byContradiction fun q => hj (fun z => absurd z q)
        have hj2 : Er D k th x j := Classical.byContradiction fun q => hj (fun _ => q)
        exact ih j (by omega) (by omega) (h3.trans hj2)
  exact key n n (Nat.le_refl _) hn (fun _ _ h => h)
theorem tc_near {D : Nat → Nat → Int} {k : Nat} {th : Int} {J : Nat → Prop} {n j0 : Nat} (hn : n < k) (h0 : j0 < k) (hj : J j0) (hd : D j0 n < th) : tc D k (fun x => J x ∨ x = n) th = tc D k J th := by
  have e0 : Er D k th j0 n := fun Q hQ hq => hQ j0 h0 n hn hq hd
  unfold tc
  refine ss_congr k 0 (fun i _ _ => ind_iff ⟨fun ⟨a, j, j1, j2, j3⟩ => ?_, fun ⟨a, j, j1, j2, j3⟩ => ⟨a, j, j1, Or.inl j2, j3⟩⟩)
  rcases j2 with q | q
  · exact ⟨a, j, j1, q, j3⟩
  · rw [q] at j3
    exact ⟨a, j0, h0, hj, e0.trans j3⟩
theorem tc_far {D : Nat → Nat → Int} {k : Nat} {th : Int} (hD : ∀ i, i < k → ∀ j, j < k → D i j = D j i) {J : Nat → Prop} {n : Nat} (hn : n < k) (hJn : ¬ J n) (hfar : ∀ i, i < k → J i → ∀ j, j < k → ¬ J j → th ≤ D i j) : tc D k (fun x => J x ∨ x = n) th = tc D k J th + 1 := by
  have cl : Ecl D k th J := fun i hi j hj h1 h2 => Classical.byContradiction fun q => by
    have := hfar i hi h1 j hj q
    omega
  obtain ⟨r, r1, r2, r3⟩ := rep_ex (th := th) hD hn
  have apart : ∀ i, i < k → tch D k th J i → ¬ Er D k th n i := fun i hi ⟨j, j1, j2, j3⟩ h => hJn ((j3.trans (h.symm hD)) J cl j2)
  have key : ∀ i, i < k → ind (rep D k th i ∧ tch D k th (fun x => J x ∨ x = n) i) = ind (rep D k th i ∧ tch D k th J i) + (if i = r then 1 else 0) := by
    intro i hi
    by_cases c : i = r
    · have t1 : tch D k th (fun x => J x ∨ x = n) i := ⟨n, hn, Or.inr rfl, by rw [c]; exact r2⟩
      rw [if_pos c, ind_t ⟨by rw [c]; exact r3, t1⟩, ind_f (fun z => apart i hi z.2 (by rw [c]; exact r2))]
      rfl
    · rw [if_neg c, Int.add_zero]
      refine ind_iff ⟨fun ⟨a, j, j1, j2, j3⟩ => ?_, fun ⟨a, j, j1, j2, j3⟩ => ⟨a, j, j1, Or.inl j2, j3⟩⟩
      rcases j2 with q | q
      · exact ⟨a, j, j1, q, j3⟩
      · rw [q] at j3
        exfalso
        rcases Nat.lt_or_ge i r with z | z
        · exact r3 i z ((r2.symm hD).trans j3)
        · exact a r (by omega) ((j3.symm hD).trans r2)
  unfold tc
  rw [ss_congr (g := fun i => ind (rep D k th i ∧ tch D k th J i) + (if i = r then 1 else 0)) k 0 (fun i _ hi => key i (by omega)), ss_add (fun i => ind (rep D k th i ∧ tch D k th J i)) (fun i => if i = r then 1 else 0), ss_one 1 (Nat.zero_le _) (by omega)]
noncomputable def Phi (D : Nat → Nat → Int) (k : Nat) (J : Nat → Prop) : Int := ss (fun th => tc D k J (th : Int)) 1 1000
theorem cnt_th : ∀ (m a : Nat) (w : Int), (a : Int) ≤ w + 1 → w < (a : Int) + m → ss (fun th => if (th : Int) ≤ w then (1 : Int) else 0) a m = w + 1 - a
  | 0, a, w, h1, h2 => by rw [ss]; omega
  | m + 1, a, w, h1, h2 => by
    rw [ss]
    by_cases c : (a : Int) ≤ w
    · rw [if_pos c, cnt_th m (a + 1) w (by omega) (by omega)]; omega
    · rw [if_neg c, ss_zero m (a + 1) (fun i i1 _ => if_neg (by omega))]; omega
/-- a town more, the nearest: the sum grows by its distance, whichever of the nearest it is -/
theorem Phi_step {D : Nat → Nat → Int} {k : Nat} (hD : ∀ i, i < k → ∀ j, j < k → D i j = D j i) {J : Nat → Prop} {n j0 : Nat} {w : Int} (hn : n < k) (hJn : ¬ J n) (h0 : j0 < k) (hj : J j0) (hw : w = D j0 n) (hb : 0 ≤ w ∧ w ≤ 1000) (hmin : ∀ i, i < k → J i → ∀ j, j < k → ¬ J j → w ≤ D i j) : Phi D k (fun x => J x ∨ x = n) = Phi D k J + w := by
  have key : ∀ th : Nat, tc D k (fun x => J x ∨ x = n) (th : Int) = tc D k J (th : Int) + (if (th : Int) ≤ w then 1 else 0) := by
    intro th
    by_cases c : (th : Int) ≤ w
    · rw [if_pos c]
      exact tc_far hD hn hJn (fun i hi h1 j hj1 h2 => by have := hmin i hi h1 j hj1 h2; omega)
    · rw [if_neg c, Int.add_zero]
      exact tc_near hn h0 hj (by omega)
  unfold Phi
  rw [ss_congr (g := fun th => tc D k J (th : Int) + (if (th : Int) ≤ w then 1 else 0)) 1000 1 (fun th _ _ => key th), ss_add (fun th => tc D k J (th : Int)) (fun th => if (th : Int) ≤ w then 1 else 0), cnt_th 1000 1 w (by omega) (by omega)]
  omega
theorem Phi_congr {D : Nat → Nat → Int} {k : Nat} {J J2 : Nat → Prop} (h : ∀ i, i < k → (J i ↔ J2 i)) : Phi D k J = Phi D k J2 := by
  unfold Phi tc
  refine ss_congr 1000 1 (fun th _ _ => ss_congr k 0 (fun i _ _ => ind_iff ⟨fun ⟨a, j, j1, j2, j3⟩ => ⟨a, j, j1, (h j j1).mp j2, j3⟩, fun ⟨a, j, j1, j2, j3⟩ => ⟨a, j, j1, (h j j1).mpr j2, j3⟩⟩))
