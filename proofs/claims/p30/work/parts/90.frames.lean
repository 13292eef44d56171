/-! the arrays that a question may write; what a question keeps -/
def scA : List Nat := [5, 6, 8, 9, 10, 11, 13, 14, 15, 17, 19, 20, 103]
def Qf (M M' : Mem) : Prop := ∀ a, a ∉ scA → M' a = M a
theorem Qf.refl (M : Mem) : Qf M M := fun _ _ => rfl
theorem Qf.trans {M M1 M2 : Mem} (h : Qf M M1) (k : Qf M1 M2) : Qf M M2 := fun a ha => (k a ha).trans (h a ha)
theorem Qf.wr {M M1 : Mem} (h : Qf M M1) {b : Nat} (hb : b ∈ scA) (i : Nat) (v : Int) : Qf M (wr M1 b i v) := fun a ha => (wr_row M1 v (fun q => ha (by rw [q]; exact hb))).trans (h a ha)
theorem Qf.cp {M M1 : Mem} (h : Qf M M1) {b : Nat} (hb : b ∈ scA) (x n : Nat) : Qf M (cpA M1 x b n) := fun a ha => by
  refine Eq.trans ?_ (h a ha)
  funext j
  unfold cpA
  exact if_neg (fun q => ha (by rw [q.1]; exact hb))
theorem wq_X2_lower {tb : Nat} (htb : tb ∈ scA) {M : Mem} {x2 : Int} {x3 : Int} {T : Int × Mem} (h : fX2_lower M tb x2 x3 = some T) : Qf M (T.2) := by
  unfold fX2_lower at h
  obtain ⟨g1, h⟩ := gd_some h
  obtain ⟨g2, h⟩ := gd_some h
  obtain ⟨g3, h⟩ := gd_some h
  obtain ⟨g4, h⟩ := gd_some h
  obtain ⟨g5, h⟩ := gd_some h
  obtain ⟨g6, h⟩ := gd_some h
  obtain ⟨g7, h⟩ := gd_some h
  obtain ⟨g8, h⟩ := gd_some h
  by_cases c9 : M tb (x2 + (M 1 x3.toNat)).toNat ≤ (M tb (x2 + (M 0 x3.toNat)).toNat) + (M 4 x3.toNat)
  · rw [if_pos c9] at h
    obtain ⟨g10, h⟩ := gd_some h
    obtain ⟨g11, h⟩ := gd_some h
    obtain ⟨g12, h⟩ := gd_some h
    obtain ⟨g13, h⟩ := gd_some h
    by_cases c14 : M tb (x2 + (M 0 x3.toNat)).toNat ≤ (M tb (x2 + (M 1 x3.toNat)).toNat) + (M 4 x3.toNat)
    · rw [if_pos c14] at h
      cases h
      exact Qf.refl _
    · rw [if_neg c14] at h
      obtain ⟨g15, h⟩ := gd_some h
      obtain ⟨g16, h⟩ := gd_some h
      cases h
      exact (Qf.wr (Qf.refl _) htb _ _)
  · rw [if_neg c9] at h
    obtain ⟨g17, h⟩ := gd_some h
    obtain ⟨g18, h⟩ := gd_some h
    cases h
    exact (Qf.wr (Qf.refl _) htb _ _)
theorem wqX2_settle_L21 {tb : Nat} (htb : tb ∈ scA) : ∀ (n : Nat) {M : Mem} {x2 : Int} {x3 : Int} {x4 : Int} {x5 : Int} {T : Int × Mem}, fX2_settle_L21 n M tb x2 x3 x4 x5 = some T → Qf M (T.2) := by
  intro n
  induction n with
  | zero =>
    intro M x2 x3 x4 x5 T h
    exact absurd h (by simp [fX2_settle_L21])
  | succ n ih =>
    intro M x2 x3 x4 x5 T h
    rw [fX2_settle_L21] at h
    obtain ⟨g1001, h⟩ := gd_some h
    by_cases c1002 : 60 ≤ x5
    · rw [if_pos c1002] at h
      cases h
      exact Qf.refl _
    · rw [if_neg c1002] at h
      obtain ⟨t1003, e1004, h⟩ := ob h
      have qt1003 : Qf M t1003.2 := (Qf.refl _).trans (wq_X2_lower htb e1004)
      exact (qt1003).trans (ih h)
theorem wqX2_settle_L49 {tb : Nat} (htb : tb ∈ scA) : ∀ (n : Nat) {M : Mem} {x2 : Int} {x3 : Int} {x4 : Int} {x5 : Int} {T : Int × Mem}, fX2_settle_L49 n M tb x2 x3 x4 x5 = some T → Qf M (T.2) := by
  intro n
  induction n with
  | zero =>
    intro M x2 x3 x4 x5 T h
    exact absurd h (by simp [fX2_settle_L49])
  | succ n ih =>
    intro M x2 x3 x4 x5 T h
    rw [fX2_settle_L49] at h
    obtain ⟨g2001, h⟩ := gd_some h
    by_cases c2002 : x5 < 0
    · rw [if_pos c2002] at h
      cases h
      exact Qf.refl _
    · rw [if_neg c2002] at h
      obtain ⟨t2003, e2004, h⟩ := ob h
      have qt2003 : Qf M t2003.2 := (Qf.refl _).trans (wq_X2_lower htb e2004)
      exact (qt2003).trans (ih h)
theorem wqX2_settle_L5 {tb : Nat} (htb : tb ∈ scA) : ∀ (n : Nat) {M : Mem} {x2 : Int} {x3 : Int} {x4 : Int} {T : Mem}, fX2_settle_L5 n M tb x2 x3 x4 = some T → Qf M (T) := by
  intro n
  induction n with
  | zero =>
    intro M x2 x3 x4 T h
    exact absurd h (by simp [fX2_settle_L5])
  | succ n ih =>
    intro M x2 x3 x4 T h
    rw [fX2_settle_L5] at h
    obtain ⟨g3001, h⟩ := gd_some h
    by_cases c3002 : 36 ≤ x4
    · rw [if_pos c3002] at h
      cases h
      exact Qf.refl _
    · rw [if_neg c3002] at h
      obtain ⟨g3003, h⟩ := gd_some h
      by_cases c3004 : x3 = 0
      · rw [if_pos c3004] at h
        cases h
        exact Qf.refl _
      · rw [if_neg c3004] at h
        obtain ⟨t3005, e3006, h⟩ := ob h
        have qt3005 : Qf M t3005.2 := (Qf.refl _).trans (wqX2_settle_L21 htb _ e3006)
        obtain ⟨t3008, e3009, h⟩ := ob h
        have qt3008 : Qf M t3008.2 := (qt3005).trans (wqX2_settle_L49 htb _ e3009)
        exact (qt3008).trans (ih h)
theorem wq_X2_settle {tb : Nat} (htb : tb ∈ scA) {M : Mem} {x2 : Int} {T : Mem} (h : fX2_settle M tb x2 = some T) : Qf M (T) := by
  unfold fX2_settle at h
  obtain ⟨t22, e23, h⟩ := ob h
  have qt22 : Qf M t22 := (Qf.refl _).trans (wqX2_settle_L5 htb _ e23)
  cases h
  exact qt22
theorem wqX2_measure_L3 {tb : Nat} (htb : tb ∈ scA) : ∀ (n : Nat) {M : Mem} {x2 : Int} {x3 : Int} {x4 : Int} {T : Mem}, fX2_measure_L3 n M tb x2 x3 x4 = some T → Qf M (T) := by
  intro n
  induction n with
  | zero =>
    intro M x2 x3 x4 T h
    exact absurd h (by simp [fX2_measure_L3])
  | succ n ih =>
    intro M x2 x3 x4 T h
    rw [fX2_measure_L3] at h
    obtain ⟨g1001, h⟩ := gd_some h
    by_cases c1002 : 36 ≤ x4
    · rw [if_pos c1002] at h
      cases h
      exact Qf.refl _
    · rw [if_neg c1002] at h
      obtain ⟨g1003, h⟩ := gd_some h
      obtain ⟨t1005, e1007, h⟩ := ob h
      obtain ⟨g1008, h⟩ := gd_some h
      obtain ⟨g1009, h⟩ := gd_some h
      exact ((Qf.wr (Qf.refl _) htb _ _)).trans (ih h)
theorem wq_X2_measure {tb : Nat} (htb : tb ∈ scA) {M : Mem} {x2 : Int} {x3 : Int} {T : Mem} (h : fX2_measure M tb x2 x3 = some T) : Qf M (T) := by
  unfold fX2_measure at h
  obtain ⟨t11, e12, h⟩ := ob h
  have qt11 : Qf M t11 := (Qf.refl _).trans (wqX2_measure_L3 htb _ e12)
  obtain ⟨t14, e15, h⟩ := ob h
  have qt14 : Qf M t14 := (qt11).trans (wq_X2_settle htb e15)
  cases h
  exact qt14
theorem wq_X4_cheapest {M : Mem} {x2 : Int} {x3 : Int} {T : Int × Mem} (h : fX4_cheapest M x2 x3 = some T) : Qf M (T.2) := by
  unfold fX4_cheapest at h
  obtain ⟨t1, e2, h⟩ := ob h
  have qt1 : Qf M t1 := (Qf.refl _).trans (wq_X2_measure (by decide) e2)
  obtain ⟨g3, h⟩ := gd_some h
  cases h
  exact qt1
theorem wq_X5_apart {M : Mem} {x1 : Int} {x2 : Int} {T : Nat × Int × Mem} (h : fX5_apart M x1 x2 = some T) : Qf M (T.2.2) := by
  unfold fX5_apart at h
  obtain ⟨t1, e2, h⟩ := ob h
  by_cases z3 : t1.1 = 0
  · rw [if_pos z3] at h
    obtain ⟨t4, e5, h⟩ := ob h
    by_cases z6 : t4.1 = 0
    · rw [if_pos z6] at h
      obtain ⟨t7, e8, h⟩ := ob h
      have qt7 : Qf M t7.2 := (Qf.refl _).trans (wq_X4_cheapest e8)
      cases h
      exact qt7
    · rw [if_neg z6] at h
      cases h
      exact Qf.refl _
  · rw [if_neg z3] at h
    cases h
    exact Qf.refl _
theorem wqX3_joinParts_L7 : ∀ (n : Nat) {M : Mem} {x1 : Int} {x2 : Int} {x3 : Int} {T : Mem}, fX3_joinParts_L7 n M x1 x2 x3 = some T → Qf M (T) := by
  intro n
  induction n with
  | zero =>
    intro M x1 x2 x3 T h
    exact absurd h (by simp [fX3_joinParts_L7])
  | succ n ih =>
    intro M x1 x2 x3 T h
    rw [fX3_joinParts_L7] at h
    obtain ⟨g1001, h⟩ := gd_some h
    by_cases c1002 : 36 ≤ x3
    · rw [if_pos c1002] at h
      cases h
      exact Qf.refl _
    · rw [if_neg c1002] at h
      obtain ⟨g1003, h⟩ := gd_some h
      exact ((Qf.wr (Qf.refl _) (by decide) _ _)).trans (ih h)
theorem wqX3_joinParts_L57 : ∀ (n : Nat) {M : Mem} {x1 : Int} {x2 : Int} {x3 : Int} {x4 : Int} {x5 : Int} {T : Mem}, fX3_joinParts_L57 n M x1 x2 x3 x4 x5 = some T → Qf M (T) := by
  intro n
  induction n with
  | zero =>
    intro M x1 x2 x3 x4 x5 T h
    exact absurd h (by simp [fX3_joinParts_L57])
  | succ n ih =>
    intro M x1 x2 x3 x4 x5 T h
    rw [fX3_joinParts_L57] at h
    obtain ⟨g2001, h⟩ := gd_some h
    by_cases c2002 : 36 ≤ x5
    · rw [if_pos c2002] at h
      cases h
      exact Qf.refl _
    · rw [if_neg c2002] at h
      obtain ⟨g2003, h⟩ := gd_some h
      obtain ⟨g2004, h⟩ := gd_some h
      obtain ⟨g2005, h⟩ := gd_some h
      obtain ⟨g2006, h⟩ := gd_some h
      obtain ⟨g2007, h⟩ := gd_some h
      obtain ⟨g2008, h⟩ := gd_some h
      exact ((Qf.wr (Qf.refl _) (by decide) _ _)).trans (ih h)
theorem wqX3_joinParts_L31 : ∀ (n : Nat) {M : Mem} {x1 : Int} {x2 : Int} {x3 : Int} {T : Mem}, fX3_joinParts_L31 n M x1 x2 x3 = some T → Qf M (T) := by
  intro n
  induction n with
  | zero =>
    intro M x1 x2 x3 T h
    exact absurd h (by simp [fX3_joinParts_L31])
  | succ n ih =>
    intro M x1 x2 x3 T h
    rw [fX3_joinParts_L31] at h
    obtain ⟨g3001, h⟩ := gd_some h
    obtain ⟨g3002, h⟩ := gd_some h
    by_cases c3003 : x1 ≤ x3
    · rw [if_pos c3003] at h
      cases h
      exact Qf.refl _
    · rw [if_neg c3003] at h
      obtain ⟨g3004, h⟩ := gd_some h
      obtain ⟨t3011, e3013, h⟩ := ob h
      have qt3011 : Qf M t3011 := by
        clear h
        have h := e3013
        by_cases c3005 : zand x3 x1 = x3
        · rw [if_pos c3005] at h
          obtain ⟨g3006, h⟩ := gd_some h
          by_cases c3007 : x1 - x3 ≤ x3
          · rw [if_pos c3007] at h
            cases h
            exact Qf.refl _
          · rw [if_neg c3007] at h
            obtain ⟨t3008, e3009, h⟩ := ob h
            have qt3008 : Qf M t3008 := (Qf.refl _).trans (wqX3_joinParts_L57 _ e3009)
            cases h
            exact qt3008
        · rw [if_neg c3005] at h
          cases h
          exact Qf.refl _
      exact (qt3011).trans (ih h)
theorem wq_X3_joinParts {M : Mem} {x1 : Int} {T : Mem} (h : fX3_joinParts M x1 = some T) : Qf M (T) := by
  unfold fX3_joinParts at h
  obtain ⟨t5, e6, h⟩ := ob h
  have qt5 : Qf M t5 := (Qf.refl _).trans (wqX3_joinParts_L7 _ e6)
  obtain ⟨t31, e32, h⟩ := ob h
  have qt31 : Qf M t31 := (qt5).trans (wqX3_joinParts_L31 _ e32)
  cases h
  exact qt31
theorem wqX3_joinAll_L10 : ∀ (n : Nat) {M : Mem} {x2 : Int} {T : Mem}, fX3_joinAll_L10 n M x2 = some T → Qf M (T) := by
  intro n
  induction n with
  | zero =>
    intro M x2 T h
    exact absurd h (by simp [fX3_joinAll_L10])
  | succ n ih =>
    intro M x2 T h
    rw [fX3_joinAll_L10] at h
    obtain ⟨g1001, h⟩ := gd_some h
    obtain ⟨g1002, h⟩ := gd_some h
    by_cases c1003 : M 102 0 ≤ x2
    · rw [if_pos c1003] at h
      cases h
      exact Qf.refl _
    · rw [if_neg c1003] at h
      obtain ⟨g1004, h⟩ := gd_some h
      obtain ⟨t1005, e1006, h⟩ := ob h
      have qt1005 : Qf M t1005 := (Qf.refl _).trans (wq_X2_measure (by decide) e1006)
      exact (qt1005).trans (ih h)
theorem wqX3_joinAll_L51 : ∀ (n : Nat) {M : Mem} {x2 : Int} {x3 : Int} {T : Mem}, fX3_joinAll_L51 n M x2 x3 = some T → Qf M (T) := by
  intro n
  induction n with
  | zero =>
    intro M x2 x3 T h
    exact absurd h (by simp [fX3_joinAll_L51])
  | succ n ih =>
    intro M x2 x3 T h
    rw [fX3_joinAll_L51] at h
    obtain ⟨g2001, h⟩ := gd_some h
    obtain ⟨g2002, h⟩ := gd_some h
    by_cases c2003 : x2 < x3
    · rw [if_pos c2003] at h
      cases h
      exact Qf.refl _
    · rw [if_neg c2003] at h
      obtain ⟨t2004, e2005, h⟩ := ob h
      obtain ⟨g2006, h⟩ := gd_some h
      obtain ⟨t2012, e2014, h⟩ := ob h
      have qt2012 : Qf M t2012 := by
        clear h
        have h := e2014
        by_cases c2007 : t2004 ≤ 1
        · rw [if_pos c2007] at h
          cases h
          exact Qf.refl _
        · rw [if_neg c2007] at h
          obtain ⟨t2008, e2009, h⟩ := ob h
          have qt2008 : Qf M t2008 := (Qf.refl _).trans (wq_X3_joinParts e2009)
          obtain ⟨t2010, e2011, h⟩ := ob h
          have qt2010 : Qf M t2010 := (qt2008).trans (wq_X2_settle (by decide) e2011)
          cases h
          exact qt2010
      exact (qt2012).trans (ih h)
theorem wq_X3_joinAll {M : Mem} {T : Mem} (h : fX3_joinAll M  = some T) : Qf M (T) := by
  unfold fX3_joinAll at h
  obtain ⟨g1, h⟩ := gd_some h
  by_cases c2 : M 103 0 = 0
  · rw [if_pos c2] at h
    obtain ⟨t10, e11, h⟩ := ob h
    have qt10 : Qf M t10 := (Qf.refl _).trans (wqX3_joinAll_L10 _ e11)
    obtain ⟨t13, e14, h⟩ := ob h
    obtain ⟨t30, e31, h⟩ := ob h
    have qt30 : Qf M t30 := (qt10).trans (wqX3_joinAll_L51 _ e31)
    cases h
    exact (Qf.wr (qt30) (by decide) _ _)
  · rw [if_neg c2] at h
    cases h
    exact Qf.refl _
theorem wq_X3_cheapest {M : Mem} {T : Int × Mem} (h : fX3_cheapest M  = some T) : Qf M (T.2) := by
  unfold fX3_cheapest at h
  obtain ⟨g1, h⟩ := gd_some h
  by_cases c2 : 2 ≤ M 102 0
  · rw [if_pos c2] at h
    obtain ⟨t3, e4, h⟩ := ob h
    have qt3 : Qf M t3 := (Qf.refl _).trans (wq_X3_joinAll e4)
    obtain ⟨t5, e6, h⟩ := ob h
    obtain ⟨g7, h⟩ := gd_some h
    cases h
    exact qt3
  · rw [if_neg c2] at h
    cases h
    exact Qf.refl _
theorem wq_X5_least {M : Mem} {T : Int × Mem} (h : fX5_least M  = some T) : Qf M (T.2) := by
  unfold fX5_least at h
  obtain ⟨t1, e2, h⟩ := ob h
  have qt1 : Qf M t1.2 := (Qf.refl _).trans (wq_X3_cheapest e2)
  cases h
  exact qt1
theorem wqX3_measureTowns_L2 : ∀ (n : Nat) {M : Mem} {x2 : Int} {T : Mem}, fX3_measureTowns_L2 n M x2 = some T → Qf M (T) := by
  intro n
  induction n with
  | zero =>
    intro M x2 T h
    exact absurd h (by simp [fX3_measureTowns_L2])
  | succ n ih =>
    intro M x2 T h
    rw [fX3_measureTowns_L2] at h
    obtain ⟨g1001, h⟩ := gd_some h
    obtain ⟨g1002, h⟩ := gd_some h
    by_cases c1003 : M 102 0 ≤ x2
    · rw [if_pos c1003] at h
      cases h
      exact Qf.refl _
    · rw [if_neg c1003] at h
      obtain ⟨g1004, h⟩ := gd_some h
      obtain ⟨t1005, e1006, h⟩ := ob h
      have qt1005 : Qf M t1005 := (Qf.refl _).trans (wq_X2_measure (by decide) e1006)
      exact (qt1005).trans (ih h)
theorem wq_X3_measureTowns {M : Mem} {T : Mem} (h : fX3_measureTowns M  = some T) : Qf M (T) := by
  unfold fX3_measureTowns at h
  obtain ⟨t8, e9, h⟩ := ob h
  have qt8 : Qf M t8 := (Qf.refl _).trans (wqX3_measureTowns_L2 _ e9)
  cases h
  exact qt8
theorem wqX3_cheapestOfShapes_L30 : ∀ (n : Nat) {M : Mem} {x2 : Int} {x3 : Int} {T : Int × Mem}, fX3_cheapestOfShapes_L30 n M x2 x3 = some T → Qf M (T.2) := by
  intro n
  induction n with
  | zero =>
    intro M x2 x3 T h
    exact absurd h (by simp [fX3_cheapestOfShapes_L30])
  | succ n ih =>
    intro M x2 x3 T h
    rw [fX3_cheapestOfShapes_L30] at h
    obtain ⟨g2001, h⟩ := gd_some h
    by_cases c2002 : 36 ≤ x3
    · rw [if_pos c2002] at h
      cases h
      exact Qf.refl _
    · rw [if_neg c2002] at h
      obtain ⟨t2003, e2004, h⟩ := ob h
      have qt2003 : Qf M t2003 := (Qf.refl _).trans (wq_X2_measure (by decide) e2004)
      obtain ⟨t2005, e2006, h⟩ := ob h
      exact (qt2003).trans (ih h)
theorem wq_X3_cheapestOfShapes {M : Mem} {T : Int × Mem} (h : fX3_cheapestOfShapes M  = some T) : Qf M (T.2) := by
  unfold fX3_cheapestOfShapes at h
  obtain ⟨g1, h⟩ := gd_some h
  by_cases c2 : M 102 0 ≤ 4
  · rw [if_pos c2] at h
    by_cases c3 : 2 ≤ M 102 0
    · rw [if_pos c3] at h
      obtain ⟨t4, e5, h⟩ := ob h
      have qt4 : Qf M t4 := (Qf.refl _).trans (wq_X3_measureTowns e5)
      obtain ⟨t22, e23, h⟩ := ob h
      have qt22 : Qf M t22.2 := (qt4).trans (wqX3_cheapestOfShapes_L30 _ e23)
      cases h
      exact qt22
    · rw [if_neg c3] at h
      cases h
      exact Qf.refl _
  · rw [if_neg c2] at h
    cases h
    exact Qf.refl _
theorem wq_X5_leastAnew {M : Mem} {T : Int × Mem} (h : fX5_leastAnew M  = some T) : Qf M (T.2) := by
  unfold fX5_leastAnew at h
  obtain ⟨t1, e2, h⟩ := ob h
  have qt1 : Qf M t1.2 := (Qf.refl _).trans (wq_X3_cheapestOfShapes e2)
  cases h
  exact qt1
theorem wqX3_cheapestPairs_L2 : ∀ (n : Nat) {M : Mem} {x1 : Int} {T : Mem}, fX3_cheapestPairs_L2 n M x1 = some T → Qf M (T) := by
  intro n
  induction n with
  | zero =>
    intro M x1 T h
    exact absurd h (by simp [fX3_cheapestPairs_L2])
  | succ n ih =>
    intro M x1 T h
    rw [fX3_cheapestPairs_L2] at h
    obtain ⟨g1001, h⟩ := gd_some h
    obtain ⟨g1002, h⟩ := gd_some h
    by_cases c1003 : M 102 0 ≤ x1
    · rw [if_pos c1003] at h
      cases h
      exact Qf.refl _
    · rw [if_neg c1003] at h
      obtain ⟨t1004, e1005, h⟩ := ob h
      obtain ⟨g1006, h⟩ := gd_some h
      exact ((Qf.wr (Qf.refl _) (by decide) _ _)).trans (ih h)
theorem wqX3_cheapestPairs_L57 : ∀ (n : Nat) {M : Mem} {x1 : Int} {x2 : Int} {x3 : Int} {x4 : Int} {T : Mem}, fX3_cheapestPairs_L57 n M x1 x2 x3 x4 = some T → Qf M (T) := by
  intro n
  induction n with
  | zero =>
    intro M x1 x2 x3 x4 T h
    exact absurd h (by simp [fX3_cheapestPairs_L57])
  | succ n ih =>
    intro M x1 x2 x3 x4 T h
    rw [fX3_cheapestPairs_L57] at h
    obtain ⟨g2001, h⟩ := gd_some h
    obtain ⟨g2002, h⟩ := gd_some h
    by_cases c2003 : M 102 0 ≤ x4
    · rw [if_pos c2003] at h
      cases h
      exact Qf.refl _
    · rw [if_neg c2003] at h
      obtain ⟨g2004, h⟩ := gd_some h
      obtain ⟨t2005, e2006, h⟩ := ob h
      obtain ⟨g2007, h⟩ := gd_some h
      obtain ⟨g2008, h⟩ := gd_some h
      obtain ⟨g2009, h⟩ := gd_some h
      exact ((Qf.wr (Qf.refl _) (by decide) _ _)).trans (ih h)
theorem wqX3_cheapestPairs_L32 : ∀ (n : Nat) {M : Mem} {x1 : Int} {x2 : Int} {T : Int × Mem}, fX3_cheapestPairs_L32 n M x1 x2 = some T → Qf M (T.2) := by
  intro n
  induction n with
  | zero =>
    intro M x1 x2 T h
    exact absurd h (by simp [fX3_cheapestPairs_L32])
  | succ n ih =>
    intro M x1 x2 T h
    rw [fX3_cheapestPairs_L32] at h
    obtain ⟨g3001, h⟩ := gd_some h
    obtain ⟨g3002, h⟩ := gd_some h
    by_cases c3003 : M 102 0 ≤ x2
    · rw [if_pos c3003] at h
      cases h
      exact Qf.refl _
    · rw [if_neg c3003] at h
      obtain ⟨t3004, e3005, h⟩ := ob h
      obtain ⟨g3006, h⟩ := gd_some h
      obtain ⟨t3007, e3008, h⟩ := ob h
      have qt3007 : Qf M t3007 := (Qf.refl _).trans (wqX3_cheapestPairs_L57 _ e3008)
      exact (qt3007).trans (ih h)
theorem wq_X3_cheapestPairs {M : Mem} {T : Int × Mem} (h : fX3_cheapestPairs M  = some T) : Qf M (T.2) := by
  unfold fX3_cheapestPairs at h
  obtain ⟨t8, e9, h⟩ := ob h
  have qt8 : Qf M t8 := (Qf.refl _).trans (wqX3_cheapestPairs_L2 _ e9)
  obtain ⟨t31, e32, h⟩ := ob h
  have qt31 : Qf M t31.2 := (qt8).trans (wqX3_cheapestPairs_L32 _ e32)
  cases h
  exact qt31
theorem wq_X3_lowerBound {M : Mem} {T : Int × Mem} (h : fX3_lowerBound M  = some T) : Qf M (T.2) := by
  unfold fX3_lowerBound at h
  obtain ⟨g1, h⟩ := gd_some h
  by_cases c2 : 2 ≤ M 102 0
  · rw [if_pos c2] at h
    obtain ⟨t3, e4, h⟩ := ob h
    have qt3 : Qf M t3 := (Qf.refl _).trans (wq_X3_measureTowns e4)
    obtain ⟨t5, e6, h⟩ := ob h
    have qt5 : Qf M t5.2 := (qt3).trans (wq_X3_cheapestPairs e6)
    obtain ⟨t7, e8, h⟩ := ob h
    obtain ⟨t9, e10, h⟩ := ob h
    obtain ⟨t11, e12, h⟩ := ob h
    obtain ⟨t13, e14, h⟩ := ob h
    obtain ⟨g15, h⟩ := gd_some h
    obtain ⟨g16, h⟩ := gd_some h
    obtain ⟨g17, h⟩ := gd_some h
    obtain ⟨g18, h⟩ := gd_some h
    cases h
    exact qt5
  · rw [if_neg c2] at h
    cases h
    exact Qf.refl _
theorem wq_X5_bound {M : Mem} {T : Int × Mem} (h : fX5_bound M  = some T) : Qf M (T.2) := by
  unfold fX5_bound at h
  obtain ⟨t1, e2, h⟩ := ob h
  have qt1 : Qf M t1.2 := (Qf.refl _).trans (wq_X3_lowerBound e2)
  cases h
  exact qt1
theorem wq_X5_gap {M : Mem} {T : Int × Mem} (h : fX5_gap M  = some T) : Qf M (T.2) := by
  unfold fX5_gap at h
  obtain ⟨t1, e2, h⟩ := ob h
  have qt1 : Qf M t1.2 := (Qf.refl _).trans (wq_X3_cheapest e2)
  obtain ⟨t3, e4, h⟩ := ob h
  have qt3 : Qf M t3.2 := (qt1).trans (wq_X3_lowerBound e4)
  cases h
  exact qt3
theorem wqX3_isInCheapest_L55 : ∀ (n : Nat) {M : Mem} {x2 : Int} {x3 : Int} {x4 : Int} {x5 : Int} {x6 : Int} {x7 : Int} {T : (Int × Mem) ⊕ (Unit)}, fX3_isInCheapest_L55 n M x2 x3 x4 x5 x6 x7 = some T → (∀ rr, T = .inl rr → Qf M (rr.2)) ∧ (∀ o, T = .inr o → Qf M (M)) := by
  intro n
  induction n with
  | zero =>
    intro M x2 x3 x4 x5 x6 x7 T h
    exact absurd h (by simp [fX3_isInCheapest_L55])
  | succ n ih =>
    intro M x2 x3 x4 x5 x6 x7 T h
    rw [fX3_isInCheapest_L55] at h
    obtain ⟨g1001, h⟩ := gd_some h
    obtain ⟨g1002, h⟩ := gd_some h
    by_cases c1003 : x3 ≤ x7
    · rw [if_pos c1003] at h
      cases h
      exact ⟨fun rr e9 => (by cases e9), fun o e9 => (by cases e9; exact Qf.refl _)⟩
    · rw [if_neg c1003] at h
      obtain ⟨g1004, h⟩ := gd_some h
      obtain ⟨g1005, h⟩ := gd_some h
      obtain ⟨t1006, e1007, h⟩ := ob h
      obtain ⟨g1008, h⟩ := gd_some h
      obtain ⟨g1009, h⟩ := gd_some h
      by_cases c1010 : ((M 8 ((x7 * 36) + x5).toNat) + (M 8 (((x3 - x7) * 36) + x6).toNat)) + t1006 = x4
      · rw [if_pos c1010] at h
        cases h
        exact ⟨fun rr e9 => by cases e9; exact Qf.refl _, fun o e9 => by cases e9⟩
      · rw [if_neg c1010] at h
        exact ⟨fun rr e9 => (Qf.refl _).trans ((ih h).1 rr e9), fun o e9 => (Qf.refl _).trans ((ih h).2 o e9)⟩
theorem wq_X3_isInCheapest {M : Mem} {x2 : Int} {T : Int × Mem} (h : fX3_isInCheapest M x2 = some T) : Qf M (T.2) := by
  unfold fX3_isInCheapest at h
  obtain ⟨g1, h⟩ := gd_some h
  by_cases c2 : 2 ≤ M 102 0
  · rw [if_pos c2] at h
    obtain ⟨t3, e4, h⟩ := ob h
    have qt3 : Qf M t3 := (Qf.refl _).trans (wq_X3_joinAll e4)
    obtain ⟨t5, e6, h⟩ := ob h
    obtain ⟨g7, h⟩ := gd_some h
    obtain ⟨t8, e9, h⟩ := ob h
    obtain ⟨t10, e11, h⟩ := ob h
    obtain ⟨t23, e24, h⟩ := ob h
    cases t23 with
    | inl rr =>
      cases h
      exact (qt3).trans ((wqX3_isInCheapest_L55 _ e24).1 _ rfl)
    | inr o25 =>
      cases h
      exact qt3
  · rw [if_neg c2] at h
    cases h
    exact Qf.refl _
theorem wq_X5_isUsed {M : Mem} {x1 : Int} {T : Nat × Int × Mem} (h : fX5_isUsed M x1 = some T) : Qf M (T.2.2) := by
  unfold fX5_isUsed at h
  obtain ⟨t1, e2, h⟩ := ob h
  by_cases z3 : t1.1 = 0
  · rw [if_pos z3] at h
    obtain ⟨t4, e5, h⟩ := ob h
    have qt4 : Qf M t4.2 := (Qf.refl _).trans (wq_X3_isInCheapest e5)
    obtain ⟨g6, h⟩ := gd_some h
    cases h
    exact qt4
  · rw [if_neg z3] at h
    cases h
    exact Qf.refl _
theorem wqX4_stepBack_L2 : ∀ (n : Nat) {M : Mem} {x2 : Int} {x3 : Int} {T : (Int × Mem) ⊕ (Mem)}, fX4_stepBack_L2 n M x2 x3 = some T → (∀ rr, T = .inl rr → Qf M (rr.2)) ∧ (∀ o, T = .inr o → Qf M (o)) := by
  intro n
  induction n with
  | zero =>
    intro M x2 x3 T h
    exact absurd h (by simp [fX4_stepBack_L2])
  | succ n ih =>
    intro M x2 x3 T h
    rw [fX4_stepBack_L2] at h
    obtain ⟨g1001, h⟩ := gd_some h
    by_cases c1002 : 4 ≤ x3
    · rw [if_pos c1002] at h
      cases h
      exact ⟨fun rr e9 => (by cases e9), fun o e9 => (by cases e9; exact Qf.refl _)⟩
    · rw [if_neg c1002] at h
      obtain ⟨t1003, e1004, h⟩ := ob h
      obtain ⟨g1005, h⟩ := gd_some h
      by_cases c1006 : t1003 = (-1)
      · rw [if_pos c1006] at h
        exact ⟨fun rr e9 => (Qf.refl _).trans ((ih h).1 rr e9), fun o e9 => (Qf.refl _).trans ((ih h).2 o e9)⟩
      · rw [if_neg c1006] at h
        obtain ⟨t1007, e1008, h⟩ := ob h
        obtain ⟨g1009, h⟩ := gd_some h
        obtain ⟨t1010, e1011, h⟩ := ob h
        obtain ⟨g1012, h⟩ := gd_some h
        obtain ⟨g1013, h⟩ := gd_some h
        obtain ⟨g1014, h⟩ := gd_some h
        by_cases c1015 : (M 5 t1007.toNat) + t1010 = M 5 x2.toNat
        · rw [if_pos c1015] at h
          obtain ⟨t1017, e1019, h⟩ := ob h
          obtain ⟨g1020, h⟩ := gd_some h
          cases h
          exact ⟨fun rr e9 => by cases e9; exact (Qf.wr (Qf.refl _) (by decide) _ _), fun o e9 => by cases e9⟩
        · rw [if_neg c1015] at h
          exact ⟨fun rr e9 => (Qf.refl _).trans ((ih h).1 rr e9), fun o e9 => (Qf.refl _).trans ((ih h).2 o e9)⟩
theorem wq_X4_stepBack {M : Mem} {x2 : Int} {T : Int × Mem} (h : fX4_stepBack M x2 = some T) : Qf M (T.2) := by
  unfold fX4_stepBack at h
  obtain ⟨t22, e23, h⟩ := ob h
  cases t22 with
  | inl rr =>
    cases h
    exact (Qf.refl _).trans ((wqX4_stepBack_L2 _ e23).1 _ rfl)
  | inr o24 =>
    have qo24 : Qf M o24 := (Qf.refl _).trans ((wqX4_stepBack_L2 _ e23).2 _ rfl)
    cases h
    exact qo24
theorem wqX4_takeWayBack_L2 : ∀ (n : Nat) {M : Mem} {x2 : Int} {x3 : Int} {T : Mem}, fX4_takeWayBack_L2 n M x2 x3 = some T → Qf M (T) := by
  intro n
  induction n with
  | zero =>
    intro M x2 x3 T h
    exact absurd h (by simp [fX4_takeWayBack_L2])
  | succ n ih =>
    intro M x2 x3 T h
    rw [fX4_takeWayBack_L2] at h
    obtain ⟨g1001, h⟩ := gd_some h
    by_cases c1002 : 60 ≤ x3
    · rw [if_pos c1002] at h
      cases h
      exact Qf.refl _
    · rw [if_neg c1002] at h
      obtain ⟨g1003, h⟩ := gd_some h
      exact ((Qf.wr (Qf.refl _) (by decide) _ _)).trans (ih h)
theorem wqX4_takeWayBack_L26 : ∀ (n : Nat) {M : Mem} {x3 : Int} {x4 : Int} {T : Mem}, fX4_takeWayBack_L26 n M x3 x4 = some T → Qf M (T) := by
  intro n
  induction n with
  | zero =>
    intro M x3 x4 T h
    exact absurd h (by simp [fX4_takeWayBack_L26])
  | succ n ih =>
    intro M x3 x4 T h
    rw [fX4_takeWayBack_L26] at h
    obtain ⟨g2001, h⟩ := gd_some h
    by_cases c2002 : 36 ≤ x4
    · rw [if_pos c2002] at h
      cases h
      exact Qf.refl _
    · rw [if_neg c2002] at h
      obtain ⟨g2003, h⟩ := gd_some h
      obtain ⟨g2004, h⟩ := gd_some h
      by_cases c2005 : M 5 x3.toNat ≤ 0
      · rw [if_pos c2005] at h
        cases h
        exact Qf.refl _
      · rw [if_neg c2005] at h
        obtain ⟨t2006, e2007, h⟩ := ob h
        have qt2006 : Qf M t2006.2 := (Qf.refl _).trans (wq_X4_stepBack e2007)
        exact (qt2006).trans (ih h)
theorem wq_X4_takeWayBack {M : Mem} {x2 : Int} {T : Mem} (h : fX4_takeWayBack M x2 = some T) : Qf M (T) := by
  unfold fX4_takeWayBack at h
  obtain ⟨t5, e6, h⟩ := ob h
  have qt5 : Qf M t5 := (Qf.refl _).trans (wqX4_takeWayBack_L2 _ e6)
  obtain ⟨t16, e17, h⟩ := ob h
  have qt16 : Qf M t16 := (qt5).trans (wqX4_takeWayBack_L26 _ e17)
  cases h
  exact qt16
theorem wq_X4_lower {M : Mem} {x2 : Int} {x3 : Int} {x4 : Int} {T : Int × Mem} (h : fX4_lower M x2 x3 x4 = some T) : Qf M (T.2) := by
  unfold fX4_lower at h
  obtain ⟨g1, h⟩ := gd_some h
  obtain ⟨g2, h⟩ := gd_some h
  obtain ⟨t6, e8, h⟩ := ob h
  obtain ⟨g9, h⟩ := gd_some h
  by_cases c10 : 0 < t6
  · rw [if_pos c10] at h
    cases h
    exact Qf.refl _
  · rw [if_neg c10] at h
    obtain ⟨g11, h⟩ := gd_some h
    obtain ⟨g12, h⟩ := gd_some h
    by_cases c13 : M 5 x3.toNat = 1000000
    · rw [if_pos c13] at h
      cases h
      exact Qf.refl _
    · rw [if_neg c13] at h
      obtain ⟨g14, h⟩ := gd_some h
      obtain ⟨t20, e22, h⟩ := ob h
      obtain ⟨g23, h⟩ := gd_some h
      obtain ⟨g24, h⟩ := gd_some h
      obtain ⟨g25, h⟩ := gd_some h
      by_cases c26 : (M 5 x3.toNat) + t20 < M 5 x4.toNat
      · rw [if_pos c26] at h
        obtain ⟨g27, h⟩ := gd_some h
        cases h
        exact (Qf.wr (Qf.refl _) (by decide) _ _)
      · rw [if_neg c26] at h
        cases h
        exact Qf.refl _
theorem wqX4_measureBesideTaken_L2 : ∀ (n : Nat) {M : Mem} {x2 : Int} {x3 : Int} {T : Mem}, fX4_measureBesideTaken_L2 n M x2 x3 = some T → Qf M (T) := by
  intro n
  induction n with
  | zero =>
    intro M x2 x3 T h
    exact absurd h (by simp [fX4_measureBesideTaken_L2])
  | succ n ih =>
    intro M x2 x3 T h
    rw [fX4_measureBesideTaken_L2] at h
    obtain ⟨g1001, h⟩ := gd_some h
    by_cases c1002 : 36 ≤ x3
    · rw [if_pos c1002] at h
      cases h
      exact Qf.refl _
    · rw [if_neg c1002] at h
      obtain ⟨g1003, h⟩ := gd_some h
      obtain ⟨t1005, e1007, h⟩ := ob h
      obtain ⟨g1008, h⟩ := gd_some h
      exact ((Qf.wr (Qf.refl _) (by decide) _ _)).trans (ih h)
theorem wqX4_measureBesideTaken_L52 : ∀ (n : Nat) {M : Mem} {x3 : Int} {x4 : Int} {x5 : Int} {T : Int × Mem}, fX4_measureBesideTaken_L52 n M x3 x4 x5 = some T → Qf M (T.2) := by
  intro n
  induction n with
  | zero =>
    intro M x3 x4 x5 T h
    exact absurd h (by simp [fX4_measureBesideTaken_L52])
  | succ n ih =>
    intro M x3 x4 x5 T h
    rw [fX4_measureBesideTaken_L52] at h
    obtain ⟨g2001, h⟩ := gd_some h
    by_cases c2002 : 60 ≤ x5
    · rw [if_pos c2002] at h
      cases h
      exact Qf.refl _
    · rw [if_neg c2002] at h
      obtain ⟨t2003, e2004, h⟩ := ob h
      obtain ⟨t2005, e2006, h⟩ := ob h
      obtain ⟨t2007, e2008, h⟩ := ob h
      have qt2007 : Qf M t2007.2 := (Qf.refl _).trans (wq_X4_lower e2008)
      obtain ⟨t2009, e2010, h⟩ := ob h
      have qt2009 : Qf M t2009.2 := (qt2007).trans (wq_X4_lower e2010)
      exact (qt2009).trans (ih h)
theorem wqX4_measureBesideTaken_L36 : ∀ (n : Nat) {M : Mem} {x3 : Int} {x4 : Int} {T : Mem}, fX4_measureBesideTaken_L36 n M x3 x4 = some T → Qf M (T) := by
  intro n
  induction n with
  | zero =>
    intro M x3 x4 T h
    exact absurd h (by simp [fX4_measureBesideTaken_L36])
  | succ n ih =>
    intro M x3 x4 T h
    rw [fX4_measureBesideTaken_L36] at h
    obtain ⟨g3001, h⟩ := gd_some h
    by_cases c3002 : 36 ≤ x4
    · rw [if_pos c3002] at h
      cases h
      exact Qf.refl _
    · rw [if_neg c3002] at h
      obtain ⟨g3003, h⟩ := gd_some h
      by_cases c3004 : x3 = 0
      · rw [if_pos c3004] at h
        cases h
        exact Qf.refl _
      · rw [if_neg c3004] at h
        obtain ⟨t3005, e3006, h⟩ := ob h
        have qt3005 : Qf M t3005.2 := (Qf.refl _).trans (wqX4_measureBesideTaken_L52 _ e3006)
        exact (qt3005).trans (ih h)
theorem wq_X4_measureBesideTaken {M : Mem} {x2 : Int} {T : Mem} (h : fX4_measureBesideTaken M x2 = some T) : Qf M (T) := by
  unfold fX4_measureBesideTaken at h
  obtain ⟨t10, e11, h⟩ := ob h
  have qt10 : Qf M t10 := (Qf.refl _).trans (wqX4_measureBesideTaken_L2 _ e11)
  obtain ⟨t32, e33, h⟩ := ob h
  have qt32 : Qf M t32 := (qt10).trans (wqX4_measureBesideTaken_L36 _ e33)
  cases h
  exact qt32
theorem wq_X4_cheapestPair {M : Mem} {x2 : Int} {x3 : Int} {T : Int × Mem} (h : fX4_cheapestPair M x2 x3 = some T) : Qf M (T.2) := by
  unfold fX4_cheapestPair at h
  obtain ⟨t1, e2, h⟩ := ob h
  have qt1 : Qf M t1.2 := (Qf.refl _).trans (wq_X4_cheapest e2)
  obtain ⟨t3, e4, h⟩ := ob h
  have qt3 : Qf M t3 := (qt1).trans (wq_X4_takeWayBack e4)
  obtain ⟨t5, e6, h⟩ := ob h
  have qt5 : Qf M t5 := (qt3).trans (wq_X4_measureBesideTaken e6)
  obtain ⟨g7, h⟩ := gd_some h
  cases h
  exact qt5
theorem wq_X5_twoWays {M : Mem} {x1 : Int} {x2 : Int} {T : Nat × Int × Mem} (h : fX5_twoWays M x1 x2 = some T) : Qf M (T.2.2) := by
  unfold fX5_twoWays at h
  obtain ⟨t1, e2, h⟩ := ob h
  by_cases z3 : t1.1 = 0
  · rw [if_pos z3] at h
    obtain ⟨t4, e5, h⟩ := ob h
    by_cases z6 : t4.1 = 0
    · rw [if_pos z6] at h
      obtain ⟨g7, h⟩ := gd_some h
      obtain ⟨g8, h⟩ := gd_some h
      by_cases c9 : x1 = x2
      · rw [if_pos c9] at h
        cases h
        exact Qf.refl _
      · rw [if_neg c9] at h
        obtain ⟨t10, e11, h⟩ := ob h
        have qt10 : Qf M t10.2 := (Qf.refl _).trans (wq_X4_cheapestPair e11)
        cases h
        exact qt10
    · rw [if_neg z6] at h
      cases h
      exact Qf.refl _
  · rw [if_neg z3] at h
    cases h
    exact Qf.refl _
theorem wqX0_searchBeside_L7 : ∀ (n : Nat) {M : Mem} {x2 : Int} {x3 : Int} {x5 : Int} {x6 : Int} {T : Int × Mem}, fX0_searchBeside_L7 n M x2 x3 x5 x6 = some T → Qf M (T.2) := by
  intro n
  induction n with
  | zero =>
    intro M x2 x3 x5 x6 T h
    exact absurd h (by simp [fX0_searchBeside_L7])
  | succ n ih =>
    intro M x2 x3 x5 x6 T h
    rw [fX0_searchBeside_L7] at h
    obtain ⟨g1001, h⟩ := gd_some h
    by_cases c1002 : 4 ≤ x6
    · rw [if_pos c1002] at h
      cases h
      exact Qf.refl _
    · rw [if_neg c1002] at h
      obtain ⟨t1003, e1004, h⟩ := ob h
      obtain ⟨g1005, h⟩ := gd_some h
      obtain ⟨t1025, e1027, h⟩ := ob h
      have qt1025 : Qf M t1025.2 := by
        clear h
        have h := e1027
        by_cases c1006 : t1003 = (-1)
        · rw [if_pos c1006] at h
          cases h
          exact Qf.refl _
        · rw [if_neg c1006] at h
          obtain ⟨t1007, e1008, h⟩ := ob h
          obtain ⟨g1009, h⟩ := gd_some h
          obtain ⟨t1011, e1013, h⟩ := ob h
          obtain ⟨t1014, e1015, h⟩ := ob h
          obtain ⟨g1016, h⟩ := gd_some h
          obtain ⟨g1017, h⟩ := gd_some h
          by_cases c1018 : M 14 t1007.toNat = (-1)
          · rw [if_pos c1018] at h
            obtain ⟨g1019, h⟩ := gd_some h
            by_cases c1020 : t1014 ≤ 0
            · rw [if_pos c1020] at h
              cases h
              exact Qf.refl _
            · rw [if_neg c1020] at h
              obtain ⟨g1021, h⟩ := gd_some h
              by_cases c1022 : 36 ≤ x5
              · rw [if_pos c1022] at h
                cases h
                exact Qf.refl _
              · rw [if_neg c1022] at h
                obtain ⟨g1023, h⟩ := gd_some h
                obtain ⟨g1024, h⟩ := gd_some h
                cases h
                exact (Qf.wr ((Qf.wr (Qf.refl _) (by decide) _ _)) (by decide) _ _)
          · rw [if_neg c1018] at h
            cases h
            exact Qf.refl _
      exact (qt1025).trans (ih h)
theorem wq_X0_searchBeside {M : Mem} {x2 : Int} {x3 : Int} {x4 : Int} {T : Int × Mem} (h : fX0_searchBeside M x2 x3 x4 = some T) : Qf M (T.2) := by
  unfold fX0_searchBeside at h
  obtain ⟨t29, e30, h⟩ := ob h
  have qt29 : Qf M t29.2 := (Qf.refl _).trans (wqX0_searchBeside_L7 _ e30)
  cases h
  exact qt29
theorem wqX0_search_L5 : ∀ (n : Nat) {M : Mem} {x2 : Int} {x3 : Int} {x4 : Int} {T : Int × Mem}, fX0_search_L5 n M x2 x3 x4 = some T → Qf M (T.2) := by
  intro n
  induction n with
  | zero =>
    intro M x2 x3 x4 T h
    exact absurd h (by simp [fX0_search_L5])
  | succ n ih =>
    intro M x2 x3 x4 T h
    rw [fX0_search_L5] at h
    obtain ⟨g1001, h⟩ := gd_some h
    by_cases c1002 : 36 ≤ x4
    · rw [if_pos c1002] at h
      cases h
      exact Qf.refl _
    · rw [if_neg c1002] at h
      obtain ⟨g1003, h⟩ := gd_some h
      obtain ⟨g1004, h⟩ := gd_some h
      obtain ⟨g1005, h⟩ := gd_some h
      obtain ⟨g1006, h⟩ := gd_some h
      obtain ⟨t1010, e1012, h⟩ := ob h
      have qt1010 : Qf M t1010.2 := by
        clear h
        have h := e1012
        by_cases c1007 : (wr M 14 x4.toNat ((-1))) 12 x4.toNat = x2
        · rw [if_pos c1007] at h
          obtain ⟨g1008, h⟩ := gd_some h
          obtain ⟨g1009, h⟩ := gd_some h
          cases h
          exact (Qf.wr ((Qf.wr ((Qf.wr (Qf.refl _) (by decide) _ _)) (by decide) _ _)) (by decide) _ _)
        · rw [if_neg c1007] at h
          cases h
          exact (Qf.wr (Qf.refl _) (by decide) _ _)
      exact (qt1010).trans (ih h)
theorem wqX0_search_L60 : ∀ (n : Nat) {M : Mem} {x2 : Int} {x3 : Int} {x4 : Int} {T : Int × Mem}, fX0_search_L60 n M x2 x3 x4 = some T → Qf M (T.2) := by
  intro n
  induction n with
  | zero =>
    intro M x2 x3 x4 T h
    exact absurd h (by simp [fX0_search_L60])
  | succ n ih =>
    intro M x2 x3 x4 T h
    rw [fX0_search_L60] at h
    obtain ⟨g2001, h⟩ := gd_some h
    by_cases c2002 : 36 ≤ x4
    · rw [if_pos c2002] at h
      cases h
      exact Qf.refl _
    · rw [if_neg c2002] at h
      obtain ⟨g2003, h⟩ := gd_some h
      by_cases c2004 : x3 ≤ x4
      · rw [if_pos c2004] at h
        cases h
        exact Qf.refl _
      · rw [if_neg c2004] at h
        obtain ⟨g2005, h⟩ := gd_some h
        obtain ⟨t2006, e2007, h⟩ := ob h
        have qt2006 : Qf M t2006.2 := (Qf.refl _).trans (wq_X0_searchBeside e2007)
        exact (qt2006).trans (ih h)
theorem wq_X0_search {M : Mem} {x2 : Int} {T : Int × Mem} (h : fX0_search M x2 = some T) : Qf M (T.2) := by
  unfold fX0_search at h
  obtain ⟨t14, e15, h⟩ := ob h
  have qt14 : Qf M t14.2 := (Qf.refl _).trans (wqX0_search_L5 _ e15)
  obtain ⟨t25, e26, h⟩ := ob h
  have qt25 : Qf M t25.2 := (qt14).trans (wqX0_search_L60 _ e26)
  cases h
  exact qt25
theorem wqX0_push_L6 : ∀ (n : Nat) {M : Mem} {x3 : Int} {x4 : Int} {x5 : Int} {T : Mem}, fX0_push_L6 n M x3 x4 x5 = some T → Qf M (T) := by
  intro n
  induction n with
  | zero =>
    intro M x3 x4 x5 T h
    exact absurd h (by simp [fX0_push_L6])
  | succ n ih =>
    intro M x3 x4 x5 T h
    rw [fX0_push_L6] at h
    obtain ⟨g1001, h⟩ := gd_some h
    by_cases c1002 : 36 ≤ x5
    · rw [if_pos c1002] at h
      cases h
      exact Qf.refl _
    · rw [if_neg c1002] at h
      obtain ⟨g1003, h⟩ := gd_some h
      obtain ⟨g1004, h⟩ := gd_some h
      by_cases c1005 : M 14 x4.toNat < 0
      · rw [if_pos c1005] at h
        cases h
        exact Qf.refl _
      · rw [if_neg c1005] at h
        obtain ⟨g1006, h⟩ := gd_some h
        obtain ⟨t1007, e1008, h⟩ := ob h
        obtain ⟨g1009, h⟩ := gd_some h
        obtain ⟨t1010, e1011, h⟩ := ob h
        obtain ⟨g1012, h⟩ := gd_some h
        obtain ⟨g1013, h⟩ := gd_some h
        obtain ⟨t1015, e1017, h⟩ := ob h
        obtain ⟨g1018, h⟩ := gd_some h
        exact ((Qf.wr (Qf.refl _) (by decide) _ _)).trans (ih h)
theorem wq_X0_push {M : Mem} {x2 : Int} {x3 : Int} {T : Mem} (h : fX0_push M x2 x3 = some T) : Qf M (T) := by
  unfold fX0_push at h
  obtain ⟨t20, e21, h⟩ := ob h
  have qt20 : Qf M t20 := (Qf.refl _).trans (wqX0_push_L6 _ e21)
  cases h
  exact qt20
theorem wqX0_fillField_L2 : ∀ (n : Nat) {M : Mem} {x2 : Int} {T : Mem}, fX0_fillField_L2 n M x2 = some T → Qf M (T) := by
  intro n
  induction n with
  | zero =>
    intro M x2 T h
    exact absurd h (by simp [fX0_fillField_L2])
  | succ n ih =>
    intro M x2 T h
    rw [fX0_fillField_L2] at h
    obtain ⟨g1001, h⟩ := gd_some h
    by_cases c1002 : 60 ≤ x2
    · rw [if_pos c1002] at h
      cases h
      exact Qf.refl _
    · rw [if_neg c1002] at h
      obtain ⟨g1003, h⟩ := gd_some h
      exact ((Qf.wr (Qf.refl _) (by decide) _ _)).trans (ih h)
theorem wqX0_fillField_L25 : ∀ (n : Nat) {M : Mem} {x2 : Int} {x3 : Int} {T : Mem}, fX0_fillField_L25 n M x2 x3 = some T → Qf M (T) := by
  intro n
  induction n with
  | zero =>
    intro M x2 x3 T h
    exact absurd h (by simp [fX0_fillField_L25])
  | succ n ih =>
    intro M x2 x3 T h
    rw [fX0_fillField_L25] at h
    obtain ⟨g2001, h⟩ := gd_some h
    by_cases c2002 : 4000 ≤ x3
    · rw [if_pos c2002] at h
      cases h
      exact Qf.refl _
    · rw [if_neg c2002] at h
      obtain ⟨g2003, h⟩ := gd_some h
      by_cases c2004 : x2 = 0
      · rw [if_pos c2004] at h
        cases h
        exact Qf.refl _
      · rw [if_neg c2004] at h
        obtain ⟨t2005, e2006, h⟩ := ob h
        have qt2005 : Qf M t2005.2 := (Qf.refl _).trans (wq_X0_search e2006)
        obtain ⟨t2007, e2008, h⟩ := ob h
        obtain ⟨g2009, h⟩ := gd_some h
        obtain ⟨t2011, e2013, h⟩ := ob h
        obtain ⟨g2014, h⟩ := gd_some h
        obtain ⟨t2020, e2022, h⟩ := ob h
        have qt2020 : Qf M t2020 := by
          clear h
          have h := e2022
          by_cases c2015 : t2011 = 0
          · rw [if_pos c2015] at h
            cases h
            exact qt2005
          · rw [if_neg c2015] at h
            obtain ⟨t2016, e2017, h⟩ := ob h
            obtain ⟨t2018, e2019, h⟩ := ob h
            have qt2018 : Qf M t2018 := (qt2005).trans (wq_X0_push e2019)
            cases h
            exact qt2018
        exact (qt2020).trans (ih h)
theorem wq_X0_fillField {M : Mem} {T : Mem} (h : fX0_fillField M  = some T) : Qf M (T) := by
  unfold fX0_fillField at h
  obtain ⟨t5, e6, h⟩ := ob h
  have qt5 : Qf M t5 := (Qf.refl _).trans (wqX0_fillField_L2 _ e6)
  obtain ⟨t31, e32, h⟩ := ob h
  have qt31 : Qf M t31 := (qt5).trans (wqX0_fillField_L25 _ e32)
  cases h
  exact qt31
theorem wq_X0_smallest {M : Mem} {T : Int64 × Mem} (h : fX0_smallest M  = some T) : Qf M (T.2) := by
  unfold fX0_smallest at h
  obtain ⟨t1, e2, h⟩ := ob h
  have qt1 : Qf M t1 := (Qf.refl _).trans (wq_X0_fillField e2)
  obtain ⟨t3, e4, h⟩ := ob h
  have qt3 : Qf M t3.2 := (qt1).trans (wq_X0_search e4)
  obtain ⟨t5, e6, h⟩ := ob h
  cases h
  exact qt3
theorem wq_X5_film {M : Mem} {T : Int × Mem} (h : fX5_film M  = some T) : Qf M (T.2) := by
  unfold fX5_film at h
  obtain ⟨t1, e2, h⟩ := ob h
  have qt1 : Qf M t1.2 := (Qf.refl _).trans (wq_X0_smallest e2)
  obtain ⟨t3, e4, h⟩ := ob h
  cases h
  exact qt1
theorem wq_X0_proved {M : Mem} {T : Int × Mem} (h : fX0_proved M  = some T) : Qf M (T.2) := by
  unfold fX0_proved at h
  obtain ⟨t1, e2, h⟩ := ob h
  have qt1 : Qf M t1 := (Qf.refl _).trans (wq_X0_fillField e2)
  obtain ⟨t24, e25, h⟩ := ob h
  cases h
  exact qt1
theorem wq_X5_proof {M : Mem} {T : Int × Mem} (h : fX5_proof M  = some T) : Qf M (T.2) := by
  unfold fX5_proof at h
  obtain ⟨t1, e2, h⟩ := ob h
  have qt1 : Qf M t1.2 := (Qf.refl _).trans (wq_X0_proved e2)
  cases h
  exact qt1
theorem wq_X0_greatest {M : Mem} {T : Int64 × Mem} (h : fX0_greatest M  = some T) : Qf M (T.2) := by
  unfold fX0_greatest at h
  obtain ⟨t1, e2, h⟩ := ob h
  have qt1 : Qf M t1 := (Qf.refl _).trans (wq_X0_fillField e2)
  obtain ⟨t3, e4, h⟩ := ob h
  have qt3 : Qf M t3.2 := (qt1).trans (wq_X0_search e4)
  obtain ⟨t5, e6, h⟩ := ob h
  cases h
  exact qt3
theorem wq_X5_side {M : Mem} {x1 : Int} {T : Int64 × Mem} (h : fX5_side M x1 = some T) : Qf M (T.2) := by
  unfold fX5_side at h
  obtain ⟨g1, h⟩ := gd_some h
  obtain ⟨t7, e9, h⟩ := ob h
  have qt7 : Qf M t7.2 := by
    clear h
    have h := e9
    by_cases c2 : x1 = 0
    · rw [if_pos c2] at h
      obtain ⟨t3, e4, h⟩ := ob h
      have qt3 : Qf M t3.2 := (Qf.refl _).trans (wq_X0_smallest e4)
      cases h
      exact qt3
    · rw [if_neg c2] at h
      obtain ⟨t5, e6, h⟩ := ob h
      have qt5 : Qf M t5.2 := (Qf.refl _).trans (wq_X0_greatest e6)
      cases h
      exact qt5
  cases h
  exact qt7
theorem wqX1_seePiece_L44 : ∀ (n : Nat) {M : Mem} {x2 : Int} {x3 : Int} {x4 : Int} {x5 : Int} {x6 : Int} {T : Int × Mem}, fX1_seePiece_L44 n M x2 x3 x4 x5 x6 = some T → Qf M (T.2) := by
  intro n
  induction n with
  | zero =>
    intro M x2 x3 x4 x5 x6 T h
    exact absurd h (by simp [fX1_seePiece_L44])
  | succ n ih =>
    intro M x2 x3 x4 x5 x6 T h
    rw [fX1_seePiece_L44] at h
    obtain ⟨g1001, h⟩ := gd_some h
    by_cases c1002 : 4 ≤ x6
    · rw [if_pos c1002] at h
      cases h
      exact Qf.refl _
    · rw [if_neg c1002] at h
      obtain ⟨t1003, e1004, h⟩ := ob h
      obtain ⟨g1005, h⟩ := gd_some h
      obtain ⟨t1021, e1023, h⟩ := ob h
      have qt1021 : Qf M t1021.2 := by
        clear h
        have h := e1023
        by_cases c1006 : t1003 = (-1)
        · rw [if_pos c1006] at h
          cases h
          exact Qf.refl _
        · rw [if_neg c1006] at h
          obtain ⟨t1007, e1008, h⟩ := ob h
          obtain ⟨g1009, h⟩ := gd_some h
          obtain ⟨g1010, h⟩ := gd_some h
          obtain ⟨g1011, h⟩ := gd_some h
          obtain ⟨g1012, h⟩ := gd_some h
          by_cases c1013 : M 16 t1007.toNat = M 16 x2.toNat
          · rw [if_pos c1013] at h
            obtain ⟨g1014, h⟩ := gd_some h
            obtain ⟨g1015, h⟩ := gd_some h
            by_cases c1016 : M 19 t1007.toNat = 0
            · rw [if_pos c1016] at h
              obtain ⟨g1017, h⟩ := gd_some h
              by_cases c1018 : 36 ≤ x3
              · rw [if_pos c1018] at h
                cases h
                exact Qf.refl _
              · rw [if_neg c1018] at h
                obtain ⟨g1019, h⟩ := gd_some h
                obtain ⟨g1020, h⟩ := gd_some h
                cases h
                exact (Qf.wr ((Qf.wr (Qf.refl _) (by decide) _ _)) (by decide) _ _)
            · rw [if_neg c1016] at h
              cases h
              exact Qf.refl _
          · rw [if_neg c1013] at h
            cases h
            exact Qf.refl _
      exact (qt1021).trans (ih h)
theorem wqX1_seePiece_L19 : ∀ (n : Nat) {M : Mem} {x2 : Int} {x3 : Int} {x4 : Int} {T : Mem}, fX1_seePiece_L19 n M x2 x3 x4 = some T → Qf M (T) := by
  intro n
  induction n with
  | zero =>
    intro M x2 x3 x4 T h
    exact absurd h (by simp [fX1_seePiece_L19])
  | succ n ih =>
    intro M x2 x3 x4 T h
    rw [fX1_seePiece_L19] at h
    obtain ⟨g2001, h⟩ := gd_some h
    by_cases c2002 : 36 ≤ x4
    · rw [if_pos c2002] at h
      cases h
      exact Qf.refl _
    · rw [if_neg c2002] at h
      obtain ⟨g2003, h⟩ := gd_some h
      by_cases c2004 : x3 ≤ x4
      · rw [if_pos c2004] at h
        cases h
        exact Qf.refl _
      · rw [if_neg c2004] at h
        obtain ⟨g2005, h⟩ := gd_some h
        obtain ⟨t2006, e2007, h⟩ := ob h
        have qt2006 : Qf M t2006.2 := (Qf.refl _).trans (wqX1_seePiece_L44 _ e2007)
        exact (qt2006).trans (ih h)
theorem wq_X1_seePiece {M : Mem} {x2 : Int} {T : Mem} (h : fX1_seePiece M x2 = some T) : Qf M (T) := by
  unfold fX1_seePiece at h
  obtain ⟨g1, h⟩ := gd_some h
  obtain ⟨t35, e36, h⟩ := ob h
  have qt35 : Qf M t35 := ((Qf.wr ((Qf.wr (Qf.refl _) (by decide) _ _)) (by decide) _ _)).trans (wqX1_seePiece_L19 _ e36)
  cases h
  exact qt35
theorem wqX1_pieces_L2 : ∀ (n : Nat) {M : Mem} {x2 : Int} {x3 : Int} {T : Mem}, fX1_pieces_L2 n M x2 x3 = some T → Qf M (T) := by
  intro n
  induction n with
  | zero =>
    intro M x2 x3 T h
    exact absurd h (by simp [fX1_pieces_L2])
  | succ n ih =>
    intro M x2 x3 T h
    rw [fX1_pieces_L2] at h
    obtain ⟨g1001, h⟩ := gd_some h
    by_cases c1002 : 36 ≤ x3
    · rw [if_pos c1002] at h
      cases h
      exact Qf.refl _
    · rw [if_neg c1002] at h
      obtain ⟨g1003, h⟩ := gd_some h
      exact ((Qf.wr (Qf.refl _) (by decide) _ _)).trans (ih h)
theorem wqX1_pieces_L26 : ∀ (n : Nat) {M : Mem} {x2 : Int} {x3 : Int} {x4 : Int} {T : Int × Mem}, fX1_pieces_L26 n M x2 x3 x4 = some T → Qf M (T.2) := by
  intro n
  induction n with
  | zero =>
    intro M x2 x3 x4 T h
    exact absurd h (by simp [fX1_pieces_L26])
  | succ n ih =>
    intro M x2 x3 x4 T h
    rw [fX1_pieces_L26] at h
    obtain ⟨g2001, h⟩ := gd_some h
    by_cases c2002 : 36 ≤ x4
    · rw [if_pos c2002] at h
      cases h
      exact Qf.refl _
    · rw [if_neg c2002] at h
      obtain ⟨g2003, h⟩ := gd_some h
      obtain ⟨g2004, h⟩ := gd_some h
      obtain ⟨g2005, h⟩ := gd_some h
      obtain ⟨t2012, e2014, h⟩ := ob h
      have qt2012 : Qf M t2012.2 := by
        clear h
        have h := e2014
        by_cases c2006 : M 16 x4.toNat = x2
        · rw [if_pos c2006] at h
          obtain ⟨g2007, h⟩ := gd_some h
          obtain ⟨g2008, h⟩ := gd_some h
          by_cases c2009 : M 19 x4.toNat = 0
          · rw [if_pos c2009] at h
            obtain ⟨t2010, e2011, h⟩ := ob h
            have qt2010 : Qf M t2010 := (Qf.refl _).trans (wq_X1_seePiece e2011)
            cases h
            exact qt2010
          · rw [if_neg c2009] at h
            cases h
            exact Qf.refl _
        · rw [if_neg c2006] at h
          cases h
          exact Qf.refl _
      exact (qt2012).trans (ih h)
theorem wq_X1_pieces {M : Mem} {x2 : Int} {T : Int × Mem} (h : fX1_pieces M x2 = some T) : Qf M (T.2) := by
  unfold fX1_pieces at h
  obtain ⟨t5, e6, h⟩ := ob h
  have qt5 : Qf M t5 := (Qf.refl _).trans (wqX1_pieces_L2 _ e6)
  obtain ⟨t23, e24, h⟩ := ob h
  have qt23 : Qf M t23.2 := (qt5).trans (wqX1_pieces_L26 _ e24)
  cases h
  exact qt23
theorem wq_X5_bubble {M : Mem} {x1 : Int} {x2 : Int} {T : Nat × Int × Mem} (h : fX5_bubble M x1 x2 = some T) : Qf M (T.2.2) := by
  unfold fX5_bubble at h
  obtain ⟨t1, e2, h⟩ := ob h
  by_cases z3 : t1.1 = 0
  · rw [if_pos z3] at h
    obtain ⟨g4, h⟩ := gd_some h
    by_cases c5 : x2 = 0
    · rw [if_pos c5] at h
      obtain ⟨t10, e11, h⟩ := ob h
      cases h
      exact Qf.refl _
    rw [if_neg c5] at h
    by_cases c6 : x2 = 1
    · rw [if_pos c6] at h
      obtain ⟨t12, e13, h⟩ := ob h
      have qt12 : Qf M t12.2 := (Qf.refl _).trans (wq_X1_pieces e13)
      cases h
      exact qt12
    rw [if_neg c6] at h
    by_cases c7 : x2 = 2
    · rw [if_pos c7] at h
      obtain ⟨t14, e15, h⟩ := ob h
      cases h
      exact Qf.refl _
    rw [if_neg c7] at h
    by_cases c8 : x2 = 3
    · rw [if_pos c8] at h
      obtain ⟨t16, e17, h⟩ := ob h
      cases h
      exact Qf.refl _
    rw [if_neg c8] at h
    by_cases c9 : x2 = 4
    · rw [if_pos c9] at h
      obtain ⟨t18, e19, h⟩ := ob h
      obtain ⟨g20, h⟩ := gd_some h
      obtain ⟨t22, e24, h⟩ := ob h
      cases h
      exact Qf.refl _
    rw [if_neg c9] at h
    cases h
    exact Qf.refl _
  · rw [if_neg z3] at h
    cases h
    exact Qf.refl _
theorem wqX1_breath_L5 {tb : Nat} (htb : tb ∈ scA) : ∀ (n : Nat) {M : Mem} {x3 : Int} {x4 : Int} {T : Int × Mem}, fX1_breath_L5 n M tb x3 x4 = some T → Qf M (T.2) := by
  intro n
  induction n with
  | zero =>
    intro M x3 x4 T h
    exact absurd h (by simp [fX1_breath_L5])
  | succ n ih =>
    intro M x3 x4 T h
    rw [fX1_breath_L5] at h
    obtain ⟨g1001, h⟩ := gd_some h
    by_cases c1002 : 36 ≤ x4
    · rw [if_pos c1002] at h
      cases h
      exact Qf.refl _
    · rw [if_neg c1002] at h
      obtain ⟨g1003, h⟩ := gd_some h
      obtain ⟨g1004, h⟩ := gd_some h
      obtain ⟨g1005, h⟩ := gd_some h
      obtain ⟨g1006, h⟩ := gd_some h
      obtain ⟨t1014, e1016, h⟩ := ob h
      have qt1014 : Qf M t1014.2 := by
        clear h
        have h := e1016
        by_cases c1007 : M 18 (M tb x4.toNat).toNat = 0
        · rw [if_pos c1007] at h
          obtain ⟨t1008, e1009, h⟩ := ob h
          obtain ⟨g1010, h⟩ := gd_some h
          obtain ⟨g1011, h⟩ := gd_some h
          by_cases c1012 : t1008 = M tb x4.toNat
          · rw [if_pos c1012] at h
            cases h
            exact Qf.refl _
          · rw [if_neg c1012] at h
            obtain ⟨g1013, h⟩ := gd_some h
            cases h
            exact (Qf.wr (Qf.refl _) htb _ _)
        · rw [if_neg c1007] at h
          cases h
          exact Qf.refl _
      exact (qt1014).trans (ih h)
theorem wq_X1_breath {tb : Nat} (htb : tb ∈ scA) {M : Mem} {T : Int × Mem} (h : fX1_breath M tb = some T) : Qf M (T.2) := by
  unfold fX1_breath at h
  obtain ⟨t18, e19, h⟩ := ob h
  have qt18 : Qf M t18.2 := (Qf.refl _).trans (wqX1_breath_L5 htb _ e19)
  cases h
  exact qt18
theorem wqX1_breathsToRest_L17 : ∀ (n : Nat) {M : Mem} {x2 : Int} {T : Int × Mem}, fX1_breathsToRest_L17 n M x2 = some T → Qf M (T.2) := by
  intro n
  induction n with
  | zero =>
    intro M x2 T h
    exact absurd h (by simp [fX1_breathsToRest_L17])
  | succ n ih =>
    intro M x2 T h
    rw [fX1_breathsToRest_L17] at h
    obtain ⟨g1001, h⟩ := gd_some h
    by_cases c1002 : 4000 ≤ x2
    · rw [if_pos c1002] at h
      cases h
      exact Qf.refl _
    · rw [if_neg c1002] at h
      obtain ⟨t1003, e1004, h⟩ := ob h
      have qt1003 : Qf M t1003.2 := (Qf.refl _).trans (wq_X1_breath (by decide) e1004)
      obtain ⟨g1005, h⟩ := gd_some h
      by_cases c1006 : t1003.1 ≤ 0
      · rw [if_pos c1006] at h
        cases h
        exact qt1003
      · rw [if_neg c1006] at h
        exact (qt1003).trans (ih h)
theorem wq_X1_breathsToRest {M : Mem} {T : Int × Mem} (h : fX1_breathsToRest M  = some T) : Qf M (T.2) := by
  unfold fX1_breathsToRest at h
  obtain ⟨t8, e9, h⟩ := ob h
  have qt8 : Qf M t8.2 := ((Qf.cp (Qf.refl _) (by decide) _ _)).trans (wqX1_breathsToRest_L17 _ e9)
  cases h
  exact qt8
theorem wq_X5_rests {M : Mem} {T : Int × Mem} (h : fX5_rests M  = some T) : Qf M (T.2) := by
  unfold fX5_rests at h
  obtain ⟨t1, e2, h⟩ := ob h
  have qt1 : Qf M t1.2 := (Qf.refl _).trans (wq_X1_breathsToRest e2)
  cases h
  exact qt1
theorem wq_X1_energyAtRest {M : Mem} {T : Int × Mem} (h : fX1_energyAtRest M  = some T) : Qf M (T.2) := by
  unfold fX1_energyAtRest at h
  obtain ⟨t1, e2, h⟩ := ob h
  have qt1 : Qf M t1.2 := (Qf.refl _).trans (wq_X1_breathsToRest e2)
  obtain ⟨t3, e4, h⟩ := ob h
  cases h
  exact qt1
theorem wq_X5_energy {M : Mem} {x1 : Int} {T : Nat × Int × Mem} (h : fX5_energy M x1 = some T) : Qf M (T.2.2) := by
  unfold fX5_energy at h
  obtain ⟨g1, h⟩ := gd_some h
  by_cases c2 : x1 = 0
  · rw [if_pos c2] at h
    obtain ⟨t7, e8, h⟩ := ob h
    cases h
    exact Qf.refl _
  rw [if_neg c2] at h
  by_cases c3 : x1 = 1
  · rw [if_pos c3] at h
    obtain ⟨t9, e10, h⟩ := ob h
    have qt9 : Qf M t9.2 := (Qf.refl _).trans (wq_X1_energyAtRest e10)
    cases h
    exact qt9
  rw [if_neg c3] at h
  by_cases c4 : x1 = 2
  · rw [if_pos c4] at h
    obtain ⟨t11, e12, h⟩ := ob h
    cases h
    exact Qf.refl _
  rw [if_neg c4] at h
  by_cases c5 : x1 = 3
  · rw [if_pos c5] at h
    obtain ⟨t13, e14, h⟩ := ob h
    cases h
    exact Qf.refl _
  rw [if_neg c5] at h
  by_cases c6 : x1 = 4
  · rw [if_pos c6] at h
    obtain ⟨t15, e16, h⟩ := ob h
    obtain ⟨t17, e18, h⟩ := ob h
    obtain ⟨t19, e20, h⟩ := ob h
    cases h
    exact Qf.refl _
  rw [if_neg c6] at h
  cases h
  exact Qf.refl _
