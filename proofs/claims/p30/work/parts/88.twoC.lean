/-! the class's two ways -/
/-- the tight edge to a node that is not the start -/
theorem tightE {p : Nat → Int} (hp : p159 p) {s v : Nat} (hs : s < 36) (hv : v < 36) (hne : v ≠ s) : ∃ i, i < 4 ∧ bes v i ≠ 60 ∧ dsF p s (oth (bes v i) v) + p (bes v i) = dsF p s v := by
  have hP : PR p := fun e he => by have := hp e he; omega
  have d := dsF_is hP hs
  have G := d.gc hP hs (B := 1000000) (by decide)
  have b := dsF_bd hP hs hv
  obtain ⟨e, he, h⟩ := GC_tight G hv (by unfold stR; rw [if_neg hne]; omega)
  have inc : lo e = v ∨ hi e = v := by rcases h with ⟨q, _⟩ | ⟨q, _⟩; exact Or.inr q; exact Or.inl q
  obtain ⟨i, i1, i2⟩ := inc_bes e he v hv inc
  refine ⟨i, i1, by omega, ?_⟩
  rw [i2]
  have hlh := lo_hi he
  rcases h with ⟨q1, q2⟩ | ⟨q1, q2⟩
  · have : oth e v = lo e := by unfold oth; exact if_neg (by omega)
    rw [this]; omega
  · have : oth e v = hi e := by unfold oth; exact if_pos q1.symm
    rw [this]; omega
theorem sb_L {M : Mem} (hg : GR M) {p : Nat → Int} (hp : p159 p) (h4 : ∀ e, e < 60 → M 4 e = p e) {s v : Nat} (hs : s < 36) (hv : v < 36) (h5 : ∀ u, u < 36 → M 5 u = dsF p s u) : ∀ (m i n : Nat), i + m = 4 → m < n → (∃ k, i ≤ k ∧ k < 4 ∧ bes v k ≠ 60 ∧ dsF p s (oth (bes v k) v) + p (bes v k) = dsF p s v) →
    ∃ e, e < 60 ∧ (lo e = v ∨ hi e = v) ∧ dsF p s (oth e v) + p e = dsF p s v ∧ fX4_stepBack_L2 n M (v : Int) (i : Int) = some (.inl ((oth e v : Int), wr M 6 e (if v ≤ oth e v then -1 else 1))) := by
  have hP : PR p := fun e he => by have := hp e he; omega
  intro m
  induction m with
  | zero =>
    intro i n h hn ⟨k, k1, k2, _⟩
    omega
  | succ m ih =>
    intro i n h hn hex
    obtain ⟨n, rfl⟩ : ∃ k, n = k + 1 := ⟨n - 1, by omega⟩
    have hi4 : i < 4 := by omega
    by_cases c : bes v i = 60
    · have hex2 : ∃ k, i + 1 ≤ k ∧ k < 4 ∧ bes v k ≠ 60 ∧ dsF p s (oth (bes v k) v) + p (bes v k) = dsF p s v := by
        obtain ⟨k, k1, k2, k3, k4⟩ := hex
        refine ⟨k, ?_, k2, k3, k4⟩
        by_cases q : k = i
        · rw [q] at k3; exact absurd c k3
        · omega
      clear hex
      obtain ⟨e, e1, e2, e3, e4⟩ := ih (i + 1) n (by omega) (by omega) hex2
      refine ⟨e, e1, e2, e3, ?_⟩
      clear hex2
      rw [fX4_stepBack_L2]
      refine w_gdR (by omega) (by omega) (w_f (by omega) (w_bind (gr_beside hg hv hi4) ?_))
      rw [if_pos c, show (i : Int) + 1 = ((i + 1 : Nat) : Int) by omega]
      exact w_gdR (by omega) (by omega) (w_t rfl e4)
    · obtain ⟨he, ho⟩ := bes_oth hv hi4 c
      have hu := oth_lt (v := v) he
      have b1 := dsF_bd hP hs hu
      have b2 := dsF_bd hP hs hv
      have pe := hp _ he
      by_cases d : dsF p s (oth (bes v i) v) + p (bes v i) = dsF p s v
      · refine ⟨bes v i, he, by rcases ho with q | q; exact Or.inl q.1; exact Or.inr q.1, d, ?_⟩
        clear hex
        rw [fX4_stepBack_L2]
        refine w_gdR (by omega) (by omega) (w_f (by omega) (w_bind (gr_beside hg hv hi4) ?_))
        rw [if_neg c]
        refine w_gdR (by omega) (by omega) (w_f (by omega) (w_bind (gr_other hg he hv) (w_gdB (by omega) (by omega) (w_bind (gr_price he) (w_gdB (by omega) (by omega) ?_)))))
        rw [Int.toNat_natCast, Int.toNat_natCast, h5 _ hu, h5 v hv, h4 _ he]
        refine w_gdR (by omega) (by omega) (w_gdR (by omega) (by omega) (w_t d (w_bind (t := if v ≤ oth (bes v i) v then -1 else 1) ?_ (w_gdB (by omega) (by omega) ?_))))
        · by_cases q : v ≤ oth (bes v i) v
          · rw [if_pos q]; exact w_t (by omega) rfl
          · rw [if_neg q]; exact w_f (by omega) rfl
        · rw [Int.toNat_natCast]
      · have hex2 : ∃ k, i + 1 ≤ k ∧ k < 4 ∧ bes v k ≠ 60 ∧ dsF p s (oth (bes v k) v) + p (bes v k) = dsF p s v := by
          obtain ⟨k, k1, k2, k3, k4⟩ := hex
          refine ⟨k, ?_, k2, k3, k4⟩
          by_cases q : k = i
          · rw [q] at k4; exact absurd k4 d
          · omega
        clear hex
        obtain ⟨e, e1, e2, e3, e4⟩ := ih (i + 1) n (by omega) (by omega) hex2
        refine ⟨e, e1, e2, e3, ?_⟩
        clear hex2
        rw [fX4_stepBack_L2]
        refine w_gdR (by omega) (by omega) (w_f (by omega) (w_bind (gr_beside hg hv hi4) ?_))
        rw [if_neg c]
        refine w_gdR (by omega) (by omega) (w_f (by omega) (w_bind (gr_other hg he hv) (w_gdB (by omega) (by omega) (w_bind (gr_price he) (w_gdB (by omega) (by omega) ?_)))))
        rw [Int.toNat_natCast, Int.toNat_natCast, h5 _ hu, h5 v hv, h4 _ he, show (i : Int) + 1 = ((i + 1 : Nat) : Int) by omega]
        exact w_gdR (by omega) (by omega) (w_gdR (by omega) (by omega) (w_f d e4))
def cntD (d : Nat → Int) (x : Int) : Int := ss (fun v => if d v ≤ x then 1 else 0) 0 36
def WbI (p d : Nat → Int) (t cur : Nat) (f : Nat → Int) : Prop := uni f ∧ (∀ v, v < 36 → outF f v = (if v = cur then 1 else 0) - (if v = t then 1 else 0)) ∧ (∀ e, e < 60 → d (lo e) ≤ d cur → d (hi e) ≤ d cur → f e = 0) ∧ cst p f = d t - d cur
theorem WbI.step {p d f f2 : Nat → Int} {t cur e : Nat} (hp : p159 p) (h : WbI p d t cur f) (he : e < 60) (hi0 : lo e = cur ∨ hi e = cur) (hd : d (oth e cur) + p e = d cur) (h2 : ∀ x, x < 60 → f2 x = put f e (if cur ≤ oth e cur then -1 else 1) x) : WbI p d t (oth e cur) f2 := by
  obtain ⟨a1, a2, a3, a4⟩ := h
  have pe := hp e he
  have hlh := lo_hi he
  have fe : f e = 0 := by
    refine a3 e he ?_ ?_
    · rcases oth_of he hi0 with ⟨q1, q2⟩ | ⟨q1, q2⟩
      · rw [q1]; exact Int.le_refl _
      · rw [← q2]; omega
    · rcases oth_of he hi0 with ⟨q1, q2⟩ | ⟨q1, q2⟩
      · rw [← q2]; omega
      · rw [q1]; exact Int.le_refl _
  have o2 : ∀ v, outF f2 v = outF (put f e (if cur ≤ oth e cur then -1 else 1)) v := fun v => by
    unfold outF
    exact ss_congr 60 0 (fun x _ hx => by rw [h2 x (by omega)])
  refine ⟨fun x hx => ?_, fun v hv => ?_, fun x hx z1 z2 => ?_, ?_⟩
  · rw [h2 x hx]
    by_cases q : x = e
    · rw [q, put_at]; split <;> omega
    · rw [put_ne q]; exact a1 x hx
  · rw [o2, out_put f he, a2 v hv, fe]
    rcases oth_of he hi0 with ⟨q1, q2⟩ | ⟨q1, q2⟩
    · rw [q2, if_pos (show cur ≤ hi e by omega)]
      by_cases z1 : v = cur
      · rw [if_pos z1, if_pos (show lo e = v by omega), if_neg (show ¬ v = hi e by omega)]; omega
      · rw [if_neg z1, if_neg (show ¬ lo e = v by omega)]
        by_cases z2 : v = hi e
        · rw [if_pos z2, if_pos z2.symm]; omega
        · rw [if_neg z2, if_neg (show ¬ hi e = v from fun y => z2 y.symm)]; omega
    · rw [q2, if_neg (show ¬ cur ≤ lo e by omega)]
      by_cases z1 : v = cur
      · rw [if_pos z1, if_neg (show ¬ lo e = v by omega), if_pos (show hi e = v by omega), if_neg (show ¬ v = lo e by omega)]; omega
      · rw [if_neg z1]
        by_cases z2 : v = lo e
        · rw [if_pos z2, if_pos z2.symm]; omega
        · rw [if_neg z2, if_neg (show ¬ lo e = v from fun y => z2 y.symm), if_neg (show ¬ hi e = v by omega)]; omega
  · have ne : x ≠ e := fun q => by
      rw [q] at z1 z2
      rcases oth_of he hi0 with ⟨q1, q2⟩ | ⟨q1, q2⟩
      · rw [q1] at z1; omega
      · rw [q1] at z2; omega
    rw [h2 x hx, put_ne ne]
    exact a3 x hx (by omega) (by omega)
  · rw [cst_congr (p := p) (p2 := p) (fun _ _ => rfl) h2, cst_put p f he, a4, fe]
    have m1 : ab (-1) = 1 := rfl
    have m0 : ab 0 = 0 := rfl
    have m2 : ab 1 = 1 := rfl
    by_cases q : cur ≤ oth e cur
    · rw [if_pos q, m1, m0]; omega
    · rw [if_neg q, m2, m0]; omega
theorem wb_L {M0 : Mem} (hg : GR M0) {p : Nat → Int} (hp : p159 p) (h4 : ∀ e, e < 60 → M0 4 e = p e) {s t : Nat} (hs : s < 36) (h5 : ∀ u, u < 36 → M0 5 u = dsF p s u) : ∀ (m j n : Nat) (M : Mem) (cur : Nat), j + m = 36 → m < n → (∀ a, a ≠ 6 → M a = M0 a) → cur < 36 → (j : Int) + cntD (dsF p s) (dsF p s cur) ≤ 36 → WbI p (dsF p s) t cur (M 6) →
    ∃ M', fX4_takeWayBack_L26 n M (cur : Int) (j : Int) = some M' ∧ (∀ a, a ≠ 6 → M' a = M0 a) ∧ WbI p (dsF p s) t s (M' 6) := by
  have hP : PR p := fun e he => by have := hp e he; omega
  have one : ∀ cur, cur < 36 → 1 ≤ cntD (dsF p s) (dsF p s cur) := fun cur hc => by
    have ge := ss_ge (f := fun v => if dsF p s v ≤ dsF p s cur then (1 : Int) else 0) (m := 36) (a := 0) (k := cur) (Nat.zero_le _) (by omega) (fun i _ _ => by show 0 ≤ (if dsF p s i ≤ dsF p s cur then (1 : Int) else 0); split <;> decide)
    have ge : (if dsF p s cur ≤ dsF p s cur then (1 : Int) else 0) ≤ cntD (dsF p s) (dsF p s cur) := ge
    rw [if_pos (Int.le_refl _)] at ge
    exact ge
  intro m
  induction m with
  | zero =>
    intro j n M cur h hn ha hc hcnt hI
    exfalso
    have := one cur hc
    omega
  | succ m ih =>
    intro j n M cur h hn ha hc hcnt hI
    obtain ⟨n, rfl⟩ : ∃ k, n = k + 1 := ⟨n - 1, by omega⟩
    have e5 : M 5 = M0 5 := ha 5 (by decide)
    have bd := dsF_bd hP hs hc
    by_cases c : cur = s
    · have z := dsF_self hP hs
      rw [c] at hI ⊢
      refine ⟨M, ?_, ha, hI⟩
      rw [fX4_takeWayBack_L26]
      refine w_gdR (by omega) (by omega) (w_f (by omega) (w_gdB (by omega) (by omega) ?_))
      rw [Int.toNat_natCast, e5, h5 s hs, z]
      exact w_gdR (by decide) (by decide) (w_t (by decide) rfl)
    · have pos := dsF_pos hP (fun e he => (hp e he).1) hs hc c
      have hgM : GR M := by
        unfold GR
        rw [ha 0 (by decide), ha 1 (by decide), ha 2 (by decide), ha 4 (by decide)]
        exact hg
      obtain ⟨i, i1, i2, i3⟩ := tightE hp hs hc c
      obtain ⟨e, e1, e2, e3, e4⟩ := sb_L hgM hp (by rw [ha 4 (by decide)]; exact h4) hs hc (by rw [e5]; exact h5) 4 0 FU (by omega) (by have := FU_big; omega) ⟨i, Nat.zero_le _, i1, i2, i3⟩
      have pe := hp e e1
      have hu := oth_lt (v := cur) e1
      have hI2 := hI.step hp e1 e2 e3 (f2 := wr M 6 e (if cur ≤ oth e cur then -1 else 1) 6) (fun x _ => by rw [wr_put])
      have less : cntD (dsF p s) (dsF p s (oth e cur)) + 1 ≤ cntD (dsF p s) (dsF p s cur) := by
        have a := ss_upd (f := fun v => if v = cur then (1 : Int) else if dsF p s v ≤ dsF p s (oth e cur) then 1 else 0) (g := fun v => if dsF p s v ≤ dsF p s (oth e cur) then (1 : Int) else 0) (k := cur) 36 0 (Nat.zero_le _) (by omega) (fun i hi0 => if_neg hi0)
        have b := ss_le (f := fun v => if v = cur then (1 : Int) else if dsF p s v ≤ dsF p s (oth e cur) then 1 else 0) (g := fun v => if dsF p s v ≤ dsF p s cur then (1 : Int) else 0) 36 0 (fun i _ _ => by
          show (if i = cur then (1 : Int) else if dsF p s i ≤ dsF p s (oth e cur) then 1 else 0) ≤ (if dsF p s i ≤ dsF p s cur then (1 : Int) else 0)
          by_cases q : i = cur
          · rw [if_pos q, q, if_pos (Int.le_refl _)]; exact Int.le_refl _
          · rw [if_neg q]
            by_cases q2 : dsF p s i ≤ dsF p s (oth e cur)
            · rw [if_pos q2, if_pos (by omega)]; exact Int.le_refl _
            · rw [if_neg q2]; split <;> decide)
        simp only [if_neg (show ¬ dsF p s cur ≤ dsF p s (oth e cur) by omega), if_pos] at a
        unfold cntD
        omega
      obtain ⟨M', g1, g2⟩ := ih (j + 1) n _ (oth e cur) (by omega) (by omega) (fun a h6 => (wr_row M _ h6).trans (ha a h6)) hu (by omega) hI2
      refine ⟨M', ?_, g2⟩
      rw [fX4_takeWayBack_L26]
      refine w_gdR (by omega) (by omega) (w_f (by omega) (w_gdB (by omega) (by omega) ?_))
      rw [Int.toNat_natCast, e5, h5 cur hc]
      refine w_gdR (by omega) (by omega) (w_f (by omega) (w_bind (t := ((oth e cur : Int), wr M 6 e (if cur ≤ oth e cur then -1 else 1))) ?_ ?_))
      · unfold fX4_stepBack
        exact w_bind e4 rfl
      · rw [show (j : Int) + 1 = ((j + 1 : Nat) : Int) by omega]
        exact g1
theorem wbZ_L {M0 : Mem} (x2 : Int) : ∀ (m e n : Nat) (M : Mem), e + m = 60 → m < n → (∀ a, a ≠ 6 → M a = M0 a) → (∀ i, i < e → M 6 i = 0) →
    ∃ M', fX4_takeWayBack_L2 n M x2 (e : Int) = some M' ∧ (∀ a, a ≠ 6 → M' a = M0 a) ∧ ∀ i, i < 60 → M' 6 i = 0 := by
  intro m
  induction m with
  | zero =>
    intro e n M h hn ha hz
    obtain ⟨n, rfl⟩ : ∃ k, n = k + 1 := ⟨n - 1, by omega⟩
    refine ⟨M, ?_, ha, fun i hi => hz i (by omega)⟩
    rw [fX4_takeWayBack_L2]
    exact w_gdR (by omega) (by omega) (w_t (by omega) rfl)
  | succ m ih =>
    intro e n M h hn ha hz
    obtain ⟨n, rfl⟩ : ∃ k, n = k + 1 := ⟨n - 1, by omega⟩
    obtain ⟨M', g1, g2⟩ := ih (e + 1) n (wr M 6 e 0) (by omega) (by omega) (fun a h1 => (wr_row M _ h1).trans (ha a h1)) (fun i hi => by
      rw [wr_put]
      by_cases q : i = e
      · rw [q, put_at]
      · rw [put_ne q]; exact hz i (by omega))
    refine ⟨M', ?_, g2⟩
    rw [fX4_takeWayBack_L2]
    refine w_gdR (by omega) (by omega) (w_f (by omega) (w_gdB (by omega) (by omega) ?_))
    rw [show (e : Int) + 1 = ((e + 1 : Nat) : Int) by omega, Int.toNat_natCast]
    exact g1
theorem out0 {f : Nat → Int} (h : ∀ e, e < 60 → f e = 0) (v : Nat) : outF f v = 0 := ss_zero 60 0 (fun e _ he => by
  rw [h e (by omega)]
  split
  · rfl
  · split
    · rfl
    · rfl)
theorem cst0 {p f : Nat → Int} (h : ∀ e, e < 60 → f e = 0) : cst p f = 0 := ss_zero 60 0 (fun e _ he => by
  rw [h e (by omega)]
  exact Int.mul_zero _)
/-- the first way of the class, taken back -/
theorem tbC {M0 : Mem} (hg : GR M0) {p : Nat → Int} (hp : p159 p) (h4 : ∀ e, e < 60 → M0 4 e = p e) {s t : Nat} (hs : s < 36) (ht : t < 36) (h5 : ∀ u, u < 36 → M0 5 u = dsF p s u) : ∃ M', fX4_takeWayBack M0 (t : Int) = some M' ∧ (∀ a, a ≠ 6 → M' a = M0 a) ∧ uni (M' 6) ∧ stO (M' 6) s t 1 ∧ cst p (M' 6) = dsF p s t := by
  have hP : PR p := fun e he => by have := hp e he; omega
  obtain ⟨M1, a1, a2, a3⟩ := wbZ_L (M0 := M0) (t : Int) 60 0 FU M0 (by omega) (by have := FU_big; omega) (fun _ _ => rfl) (fun i hi => absurd hi (by omega))
  have hI : WbI p (dsF p s) t t (M1 6) := by
    refine ⟨fun e he => Or.inr (Or.inl (a3 e he)), fun v _ => ?_, fun e he _ _ => a3 e he, ?_⟩
    · rw [out0 a3]; omega
    · rw [cst0 a3]; omega
  have hg1 : GR M1 := by
    unfold GR
    rw [a2 0 (by decide), a2 1 (by decide), a2 2 (by decide), a2 4 (by decide)]
    exact hg
  have ub := ss_ub (f := fun v => if dsF p s v ≤ dsF p s t then (1 : Int) else 0) (c := 1) 36 0 (fun i _ _ => by show (if dsF p s i ≤ dsF p s t then (1 : Int) else 0) ≤ 1; split <;> decide)
  obtain ⟨M', g1, g2, g3⟩ := wb_L hg1 hp (by rw [a2 4 (by decide)]; exact h4) hs (by rw [a2 5 (by decide)]; exact h5) 36 0 FU M1 t (by omega) (by have := FU_big; omega) (fun _ _ => rfl) ht (by unfold cntD; omega) hI
  have z := dsF_self hP hs
  refine ⟨M', ?_, fun a h6 => by rw [g2 a h6, a2 a h6], g3.1, g3.2.1, by rw [g3.2.2.2, z]; omega⟩
  unfold fX4_takeWayBack
  exact w_bind a1 (w_bind g1 rfl)
/-- one arc laid on -/
def DLo (p f ρ : Nat → Int) (s : Nat) (M : Mem) : Prop := LE36 ρ (M 5) ∧ (∀ v, v < 36 → M 5 v ≤ 1000000) ∧ M 5 s = 0
theorem dlC {M : Mem} {p f ρ : Nat → Int} (hp : p159 p) (h4 : ∀ e, e < 60 → M 4 e = p e) (h6 : ∀ e, e < 60 → M 6 e = f e) (hu : uni f) {s : Nat} (hs : s < 36) (hρ : Dsd p f s ρ) (hρ0 : ∀ v, v < 36 → 0 ≤ ρ v) (h : DLo p f ρ s M) {j : Nat} (hj : j < 120) :
    ∃ ch M', fX4_lower M ((j / 2 : Nat) : Int) (arF j : Int) (arT j : Int) = some (ch, M') ∧ (ch = 0 ∨ ch = 1) ∧ onlyRow M M' 5 0 ∧ DLo p f ρ s M' ∧ LE36 (M' 5) (M 5) ∧ (alA f j → M 5 (arF j) ≠ 1000000 → M' 5 (arT j) ≤ M 5 (arF j) + rcL p f (j / 2)) ∧ (ch = 0 → M' = M) := by
  obtain ⟨f1, f2, f3, f4, f5⟩ := ar_lt hj
  have he : j / 2 < 60 := by omega
  have hne := lo_hi he
  have pe := hp _ he
  have u := hu _ he
  have b1 := h.2.1 _ f1
  have b2 := h.2.1 _ f2
  have l1 := h.1 _ f1
  have l2 := h.1 _ f2
  have z1 := hρ0 _ f1
  have z2 := hρ0 _ f2
  obtain ⟨al, hal⟩ : ∃ al : Int, al = if j % 2 = 0 then f (j / 2) else -(f (j / 2)) := ⟨_, rfl⟩
  have alb : -1 ≤ al ∧ al ≤ 1 := by rw [hal]; split <;> omega
  have aiff : alA f j ↔ al ≤ 0 := by
    unfold alA
    rw [hal]
    by_cases q : j % 2 = 0
    · rw [if_pos q, if_pos q]
    · rw [if_neg q, if_neg q]; omega
  have rc : alA f j → rcL p f (j / 2) = if 0 ≤ al then p (j / 2) else -(p (j / 2)) := fun a => by
    have a := aiff.mp a
    unfold rcL
    rw [hal] at a ⊢
    by_cases q : j % 2 = 0
    · rw [if_pos q] at a ⊢
      split <;> split <;> omega
    · rw [if_neg q] at a ⊢
      split <;> split <;> omega
  have front : ∀ r, (if 0 < al then some ((0 : Int), M) else (if M 5 (arF j) = 1000000 then some (0, M) else (if M 5 (arF j) + (if 0 ≤ al then p (j / 2) else -(p (j / 2))) < M 5 (arT j) then some (1, wr M 5 (arT j) (M 5 (arF j) + (if 0 ≤ al then p (j / 2) else -(p (j / 2))))) else some (0, M)))) = some r → fX4_lower M ((j / 2 : Nat) : Int) (arF j : Int) (arT j : Int) = some r := by
    intro r hr
    unfold fX4_lower
    refine w_gdR (by omega) (by omega) (w_gdR (by omega) (by omega) (w_bind (t := al) ?_ (w_gdR (by omega) (by omega) ?_)))
    · rw [Int.toNat_natCast, h6 _ he, hal]
      unfold arT arF
      by_cases q : j % 2 = 0
      · rw [if_pos q, if_pos q, if_pos q]; exact w_f (by omega) (w_gdB (by omega) (by omega) rfl)
      · rw [if_neg q, if_neg q, if_neg q]; exact w_t (by omega) (w_gdB (by omega) (by omega) rfl)
    · by_cases c1 : 0 < al
      · rw [if_pos c1] at hr ⊢; exact hr
      · rw [if_neg c1] at hr ⊢
        refine w_gdB (by omega) (by omega) ?_
        rw [Int.toNat_natCast, Int.toNat_natCast]
        refine w_gdR (by omega) (by omega) ?_
        by_cases c2 : M 5 (arF j) = 1000000
        · rw [if_pos c2] at hr ⊢; exact hr
        · rw [if_neg c2] at hr ⊢
          refine w_gdB (by omega) (by omega) (w_bind (t := if 0 ≤ al then p (j / 2) else -(p (j / 2))) ?_ (w_gdB (by omega) (by omega) (w_gdR (by split <;> omega) (by split <;> omega) (w_gdR (by omega) (by omega) ?_))))
          · by_cases c3 : 0 ≤ al
            · rw [if_pos c3, if_pos c3]
              exact w_bind (gr_price he) (by rw [h4 _ he])
            · rw [if_neg c3, if_neg c3]
              exact w_bind (gr_price he) (by rw [h4 _ he])
          · by_cases c4 : M 5 (arF j) + (if 0 ≤ al then p (j / 2) else -(p (j / 2))) < M 5 (arT j)
            · rw [if_pos c4] at hr ⊢
              exact w_gdB (by omega) (by omega) hr
            · rw [if_neg c4] at hr ⊢; exact hr
  by_cases c1 : 0 < al
  · exact ⟨0, M, front _ (w_t c1 rfl), Or.inl rfl, onlyRow.refl _ _ _, h, fun _ _ => Int.le_refl _, fun a => absurd (aiff.mp a) (by omega), fun _ => rfl⟩
  · have a : alA f j := aiff.mpr (by omega)
    have r := rc a
    have cl := hρ.1 j hj a
    by_cases c2 : M 5 (arF j) = 1000000
    · exact ⟨0, M, front _ (w_f c1 (w_t c2 rfl)), Or.inl rfl, onlyRow.refl _ _ _, h, fun _ _ => Int.le_refl _, fun _ z => absurd c2 z, fun _ => rfl⟩
    · by_cases c4 : M 5 (arF j) + (if 0 ≤ al then p (j / 2) else -(p (j / 2))) < M 5 (arT j)
      · have ns : arT j ≠ s := fun q => by
          rw [← r] at c4
          rw [q, h.2.2] at c4
          rw [q] at cl
          have := hρ0 s hs
          omega
        have e5 : wr M 5 (arT j) (M 5 (arF j) + rcL p f (j / 2)) 5 = put (M 5) (arT j) (M 5 (arF j) + rcL p f (j / 2)) := wr_put _ _ _ _
        rw [← r] at c4
        refine ⟨1, wr M 5 (arT j) (M 5 (arF j) + rcL p f (j / 2)), front _ ?_, Or.inr rfl, only_wr0 M 5 _ f2, ⟨fun v hv => ?_, fun v hv => ?_, ?_⟩, fun v hv => ?_, fun _ _ => by rw [e5, put_at]; exact Int.le_refl _, fun q => absurd q (by decide)⟩
        · rw [← r]
          exact w_f c1 (w_f c2 (w_t c4 rfl))
        · rw [e5]
          by_cases q : v = arT j
          · rw [q, put_at]; omega
          · rw [put_ne q]; exact h.1 v hv
        · rw [e5]
          by_cases q : v = arT j
          · rw [q, put_at]; omega
          · rw [put_ne q]; exact h.2.1 v hv
        · rw [e5, put_ne (fun q => ns q.symm)]; exact h.2.2
        · rw [e5]
          by_cases q : v = arT j
          · rw [q, put_at]; omega
          · rw [put_ne q]; exact Int.le_refl _
      · exact ⟨0, M, front _ (w_f c1 (w_f c2 (w_f c4 rfl))), Or.inl rfl, onlyRow.refl _ _ _, h, fun _ _ => Int.le_refl _, fun _ _ => by rw [r]; omega, fun _ => rfl⟩
theorem mbP_L {Ms : Mem} {p f ρ : Nat → Int} (hg : GR Ms) (hp : p159 p) (h4 : ∀ e, e < 60 → Ms 4 e = p e) (h6 : ∀ e, e < 60 → Ms 6 e = f e) (hu : uni f) {s : Nat} (hs : s < 36) (hρ : Dsd p f s ρ) (hρ0 : ∀ v, v < 36 → 0 ≤ ρ v) (hB : ∀ v, v < 36 → Ms 5 v ≤ 1000000) (x4 : Int) : ∀ (m e n : Nat) (M : Mem) (x3 : Int), e + m = 60 → m < n → (x3 = 0 ∨ x3 = 1) → onlyRow Ms M 5 0 → DLo p f ρ s M → DPs p f 1000000 (fun i => i < 2 * e) (Ms 5) (M 5) → (x3 = 0 → M = Ms) →
    ∃ (y : Int) (M' : Mem), fX4_measureBesideTaken_L52 n M x3 x4 (e : Int) = some (y, M') ∧ (y = 0 ∨ y = 1) ∧ onlyRow Ms M' 5 0 ∧ DLo p f ρ s M' ∧ DPs p f 1000000 (fun _ => True) (Ms 5) (M' 5) ∧ (y = 0 → M' = Ms) := by
  intro m
  induction m with
  | zero =>
    intro e n M x3 h hn hx ho hI hD hk
    obtain ⟨n, rfl⟩ : ∃ k, n = k + 1 := ⟨n - 1, by omega⟩
    refine ⟨x3, M, ?_, hx, ho, hI, ⟨hD.1, fun i hi _ => hD.2 i hi (show i < 2 * e by omega)⟩, hk⟩
    rw [fX4_measureBesideTaken_L52]
    exact w_gdR (by omega) (by omega) (w_t (by omega) rfl)
  | succ m ih =>
    intro e n M x3 h hn hx ho hI hD hk
    obtain ⟨n, rfl⟩ : ∃ k, n = k + 1 := ⟨n - 1, by omega⟩
    have he : e < 60 := by omega
    have e4 : M 4 = Ms 4 := ho.arr (by decide)
    have e6 : M 6 = Ms 6 := ho.arr (by decide)
    have hgM : GR M := by
      unfold GR
      rw [ho.arr (show 0 ≠ 5 by decide), ho.arr (show 1 ≠ 5 by decide), ho.arr (show 2 ≠ 5 by decide), e4]
      exact hg
    obtain ⟨c1, M1, a1, a2, a3, a4, a5, a6, a7⟩ := dlC hp (by rw [e4]; exact h4) (by rw [e6]; exact h6) hu hs hρ hρ0 hI (j := 2 * e) (by omega)
    have D1 := hD.step (G := fun i => i < 2 * e + 1) hB (by omega) a5 a6 (fun i hi => by omega)
    have o1 := ho.trans a3
    obtain ⟨c2, M2, b1, b2, b3, b4, b5, b6, b7⟩ := dlC hp (by rw [o1.arr (show 4 ≠ 5 by decide)]; exact h4) (by rw [o1.arr (show 6 ≠ 5 by decide)]; exact h6) hu hs hρ hρ0 a4 (j := 2 * e + 1) (by omega)
    have D2 := D1.step (G := fun i => i < 2 * (e + 1)) hB (by omega) b5 b6 (fun i hi => by omega)
    have zz1 := zor01 hx a2
    have zz2 := zor01 zz1.1 b2
    obtain ⟨y, M', g1, g2⟩ := ih (e + 1) n M2 (zor (zor x3 c1) c2) (by omega) (by omega) zz2.1 (o1.trans b3) b4 D2 (fun q => by
      have q1 := zz2.2 q
      have q2 := zz1.2 q1.1
      rw [b7 q1.2, a7 q2.2, hk q2.1])
    refine ⟨y, M', ?_, g2⟩
    unfold arF arT at a1 b1
    rw [if_pos (show 2 * e % 2 = 0 by omega), if_pos (show 2 * e % 2 = 0 by omega), show 2 * e / 2 = e by omega] at a1
    rw [if_neg (show ¬ (2 * e + 1) % 2 = 0 by omega), if_neg (show ¬ (2 * e + 1) % 2 = 0 by omega), show (2 * e + 1) / 2 = e by omega] at b1
    rw [fX4_measureBesideTaken_L52]
    refine w_gdR (by omega) (by omega) (w_f (by omega) (w_bind (gr_low hgM he) (w_bind (gr_high hgM he) (w_bind a1 (w_bind b1 ?_)))))
    rw [show (e : Int) + 1 = ((e + 1 : Nat) : Int) by omega]
    exact g1
theorem mbR_L {M0 : Mem} {p f ρ : Nat → Int} (hg : GR M0) (hp : p159 p) (h4 : ∀ e, e < 60 → M0 4 e = p e) (h6 : ∀ e, e < 60 → M0 6 e = f e) (hu : uni f) {s : Nat} (hs : s < 36) (hρ : Dsd p f s ρ) (hρ0 : ∀ v, v < 36 → 0 ≤ ρ v ∧ ρ v ≤ 2124) : ∀ (m k n : Nat) (M : Mem) (x3 : Int), k + m = 36 → m < n → (x3 = 0 ∨ x3 = 1) → onlyRow M0 M 5 0 → DLo p f ρ s M → (x3 = 0 → ∀ v, v < 36 → M 5 v = ρ v) → ((k : Int) ≤ nFin (M 5) ρ ∨ ∀ v, v < 36 → M 5 v = ρ v) →
    ∃ M', fX4_measureBesideTaken_L36 n M x3 (k : Int) = some M' ∧ onlyRow M0 M' 5 0 ∧ ∀ v, v < 36 → M' 5 v = ρ v := by
  intro m
  induction m with
  | zero =>
    intro k n M x3 h hn hx ho hI hz hN
    obtain ⟨n, rfl⟩ : ∃ k, n = k + 1 := ⟨n - 1, by omega⟩
    refine ⟨M, ?_, ho, ?_⟩
    · rw [fX4_measureBesideTaken_L36]
      exact w_gdR (by omega) (by omega) (w_t (by omega) rfl)
    · rcases hN with q | q
      · exact nFin_full (by omega)
      · exact q
  | succ m ih =>
    intro k n M x3 h hn hx ho hI hz hN
    obtain ⟨n, rfl⟩ : ∃ k, n = k + 1 := ⟨n - 1, by omega⟩
    by_cases c : x3 = 0
    · refine ⟨M, ?_, ho, hz c⟩
      rw [fX4_measureBesideTaken_L36]
      exact w_gdR (by omega) (by omega) (w_f (by omega) (w_gdR (by omega) (by omega) (w_t c rfl)))
    · have hgM : GR M := by
        unfold GR
        rw [ho.arr (show 0 ≠ 5 by decide), ho.arr (show 1 ≠ 5 by decide), ho.arr (show 2 ≠ 5 by decide), ho.arr (show 4 ≠ 5 by decide)]
        exact hg
      have ρs : ρ s = 0 := by have := hρ.2.1; have := (hρ0 s hs).1; omega
      obtain ⟨y, M1, g1, g2, g3, g4, g5, g6⟩ := mbP_L (Ms := M) hgM hp (by rw [ho.arr (show 4 ≠ 5 by decide)]; exact h4) (by rw [ho.arr (show 6 ≠ 5 by decide)]; exact h6) hu hs hρ (fun v hv => (hρ0 v hv).1) hI.2.1 (k : Int) 60 0 FU M 0 (by omega) (by have := FU_big; omega) (Or.inl rfl) (onlyRow.refl _ _ _) hI ⟨fun _ _ => Int.le_refl _, fun i _ hi => absurd hi (by omega)⟩ (fun _ => rfl)
      have more : (∃ v, v < 36 ∧ M 5 v ≠ ρ v) → nFin (M 5) ρ + 1 ≤ nFin (M1 5) ρ := fun d => dpass_more hs hρ (B := 1000000) (fun v hv => by have := (hρ0 v hv).2; omega) ρs hI.1 g4.1 hI.2.2 g5 d
      have allM : (¬ ∃ v, v < 36 ∧ M 5 v ≠ ρ v) → ∀ v, v < 36 → M1 5 v = ρ v := fun d v hv => by
        have e : M 5 v = ρ v := Classical.byContradiction fun q => d ⟨v, hv, q⟩
        have u1 := g5.1 v hv
        have u2 := g4.1 v hv
        omega
      obtain ⟨M', k1, k2⟩ := ih (k + 1) n M1 y (by omega) (by omega) g2 (ho.trans g3) g4 (fun q => by
        have e := g6 q
        refine allM (fun d => ?_)
        have := more d
        rw [e] at this
        omega) (by
        by_cases d : ∃ v, v < 36 ∧ M 5 v ≠ ρ v
        · left
          have p1 := more d
          rcases hN with q | q
          · omega
          · obtain ⟨v, v1, v2⟩ := d
            exact absurd (q v v1) v2
        · exact Or.inr (allM d))
      refine ⟨M', ?_, k2⟩
      rw [fX4_measureBesideTaken_L36]
      refine w_gdR (by omega) (by omega) (w_f (by omega) (w_gdR (by omega) (by omega) (w_f c (w_bind g1 ?_))))
      rw [show (k : Int) + 1 = ((k + 1 : Nat) : Int) by omega]
      exact k1
theorem mbI_L {M0 : Mem} {s : Nat} (hs : s < 36) : ∀ (m k n : Nat) (M : Mem), k + m = 36 → m < n → onlyRow M0 M 5 0 → (∀ v, v < k → M 5 v = stR s 1000000 v) →
    ∃ M', fX4_measureBesideTaken_L2 n M (s : Int) (k : Int) = some M' ∧ onlyRow M0 M' 5 0 ∧ ∀ v, v < 36 → M' 5 v = stR s 1000000 v := by
  intro m
  induction m with
  | zero =>
    intro k n M h hn ho hk
    obtain ⟨n, rfl⟩ : ∃ k, n = k + 1 := ⟨n - 1, by omega⟩
    refine ⟨M, ?_, ho, fun v hv => hk v (by omega)⟩
    rw [fX4_measureBesideTaken_L2]
    exact w_gdR (by omega) (by omega) (w_t (by omega) rfl)
  | succ m ih =>
    intro k n M h hn ho hk
    obtain ⟨n, rfl⟩ : ∃ k, n = k + 1 := ⟨n - 1, by omega⟩
    obtain ⟨M', g1, g2⟩ := ih (k + 1) n (wr M 5 k (stR s 1000000 k)) (by omega) (by omega) (ho.trans (only_wr0 M 5 _ (by omega))) (fun v hv => by
      rw [wr_put]
      by_cases q : v = k
      · rw [q, put_at]
      · rw [put_ne q]; exact hk v (by omega))
    refine ⟨M', ?_, g2⟩
    rw [fX4_measureBesideTaken_L2]
    refine w_gdR (by omega) (by omega) (w_f (by omega) (w_gdR (by omega) (by omega) (w_bind (t := stR s 1000000 k) ?_ (w_gdB (by omega) (by omega) ?_))))
    · unfold stR
      by_cases q : k = s
      · rw [if_pos q]; exact w_t (by omega) rfl
      · rw [if_neg q]; exact w_f (by omega) rfl
    · rw [Int.toNat_natCast, show (k : Int) + 1 = ((k + 1 : Nat) : Int) by omega]
      exact g1
theorem mbC {M : Mem} {p f ρ : Nat → Int} (hg : GR M) (hp : p159 p) (h4 : ∀ e, e < 60 → M 4 e = p e) (h6 : ∀ e, e < 60 → M 6 e = f e) (hu : uni f) {s : Nat} (hs : s < 36) (hρ : Dsd p f s ρ) (hρ0 : ∀ v, v < 36 → 0 ≤ ρ v ∧ ρ v ≤ 2124) : ∃ M', fX4_measureBesideTaken M (s : Int) = some M' ∧ onlyRow M M' 5 0 ∧ ∀ v, v < 36 → M' 5 v = ρ v := by
  have ρs : ρ s = 0 := by have := hρ.2.1; have := (hρ0 s hs).1; omega
  obtain ⟨M1, a1, a2, a3⟩ := mbI_L (M0 := M) hs 36 0 FU M (by omega) (by have := FU_big; omega) (onlyRow.refl _ _ _) (fun v hv => absurd hv (by omega))
  have hI : DLo p f ρ s M1 := by
    refine ⟨fun v hv => ?_, fun v hv => ?_, ?_⟩
    · rw [a3 v hv]
      unfold stR
      have := hρ0 v hv
      by_cases q : v = s
      · rw [if_pos q, q, ρs]; exact Int.le_refl _
      · rw [if_neg q]; omega
    · rw [a3 v hv]; unfold stR; split <;> decide
    · rw [a3 s hs]; unfold stR; exact if_pos rfl
  have hg1 : GR M1 := by
    unfold GR
    rw [a2.arr (show 0 ≠ 5 by decide), a2.arr (show 1 ≠ 5 by decide), a2.arr (show 2 ≠ 5 by decide), a2.arr (show 4 ≠ 5 by decide)]
    exact hg
  have n0 : 0 ≤ nFin (M1 5) ρ := ss_nn 36 0 (fun i _ _ => by show 0 ≤ (if M1 5 i = ρ i then (1 : Int) else 0); split <;> decide)
  obtain ⟨M2, b1, b2, b3⟩ := mbR_L hg1 hp (by rw [a2.arr (show 4 ≠ 5 by decide)]; exact h4) (by rw [a2.arr (show 6 ≠ 5 by decide)]; exact h6) hu hs hρ hρ0 36 0 FU M1 1 (by omega) (by have := FU_big; omega) (Or.inr rfl) (onlyRow.refl _ _ _) hI (fun q => absurd q (by decide)) (Or.inl n0)
  refine ⟨M2, ?_, a2.trans b2, b3⟩
  unfold fX4_measureBesideTaken
  exact w_bind a1 (w_bind b1 rfl)
