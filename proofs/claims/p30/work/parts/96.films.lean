/-! areFilms answers true -/
theorem bit_and (x y : Int64) (i : Nat) : bitB (x &&& y) i = (bitB x i && bitB y i) := by
  show (x.toBitVec &&& y.toBitVec).getLsbD i = _
  rw [BitVec.getLsbD_and]
  rfl
theorem bit_not (x : Int64) {i : Nat} (hi : i < 64) : bitB (x ^^^ (-1)) i = !(bitB x i) := by
  have m := (bit_mask i hi).2
  have e : bitB (x ^^^ (-1)) i = (bitB x i ^^ bitB (-1) i) := by
    show (x.toBitVec ^^^ (-1 : Int64).toBitVec).getLsbD i = _
    rw [BitVec.getLsbD_xor]
    rfl
  rw [e, m]
  cases bitB x i <;> rfl
theorem bit_zero (i : Nat) : bitB (0 : Int64) i = false := by
  show (0#64).getLsbD i = false
  simp
theorem ok_bits {x : Int64} (h : ∀ i, i < 64 → bitB x i = true → i < 36) : zlcmp (llushr x 36) 0 = 0 := by
  rw [zlcmp_iff]
  refine bit_ext (fun i hi => ⟨fun z => ?_, fun z => ?_⟩)
  · have e : bitB (llushr x 36) i = bitB x (36 + i) := by
      show (x.toBitVec >>> (((Int32.ofInt 36).toInt64.toUInt64 &&& Int64.toUInt64 63).toBitVec % 64)).getLsbD i = _
      rw [BitVec.ushiftRight_eq', am36, BitVec.getLsbD_ushiftRight]
      rfl
    rw [e] at z
    by_cases q : 36 + i < 64
    · have := h _ q z
      omega
    · unfold bitB at z
      rw [BitVec.getLsbD_of_ge _ _ (by omega)] at z
      exact absurd z (by decide)
  · rw [bit_zero] at z
    exact absurd z (by decide)
theorem b01_iff {x : Int64} {v : Nat} : (b01 x v = 1 ↔ bitB x v = true) ∧ (b01 x v = 0 ↔ ¬ bitB x v = true) := by
  unfold b01
  by_cases q : bitB x v = true
  · rw [if_pos q]; simp [q]
  · rw [if_neg q]; simp [q]
theorem isB_film {pn : Nat → Int} (hp : pinR pn) (x : Int64) : isB pn (b01 x) ↔ filmP pn (b01 x) := by
  constructor
  · intro h v hv q
    obtain ⟨h1, h2, h3⟩ := h v hv
    rcases h1 with z | z
    · rw [if_pos z] at q
      have := h2 q; omega
    · rw [if_neg (by omega)] at q
      have := h3 q; omega
  · intro h v hv
    have a := h v hv
    have b := b01_01 x v
    refine ⟨b, fun q => ?_, fun q => ?_⟩
    · rcases b with z | z
      · rw [if_pos z] at a; exact absurd q a
      · exact z
    · rcases b with z | z
      · exact z
      · rw [if_neg (by omega)] at a; exact absurd q a
theorem cost_isB {M Mm : Mem} (h : Rl M Mm) {x : Int64} (hx : ∀ i, i < 64 → bitB x i = true → i < 36) : (isB (Mm 3) (b01 x) ∧ fL_costOf M x = some (enS (coM Mm) (b01 x))) ∨ (¬ isB (Mm 3) (b01 x) ∧ fL_costOf M x = some (-1)) := by
  have e := isB_film h.pinC.2 x
  rcases g_costOf h (ok_bits hx) with ⟨a, b⟩ | ⟨a, b⟩
  · exact Or.inl ⟨e.mpr a, b⟩
  · exact Or.inr ⟨fun q => a (e.mp q), b⟩
/-- the least cost of a film -/
def Flv (Mm : Mem) (F : Int) : Prop := ∃ f, MxF (Mm 3) (coM Mm) f ∧ vaF (Mm 3) f = F
theorem Flv.one {M Mm : Mem} (h : Rl M Mm) {F G : Int} (a : Flv Mm F) (b : Flv Mm G) : F = G := by
  obtain ⟨f, f1, f2⟩ := a
  obtain ⟨g, g1, g2⟩ := b
  rw [← f2, ← g2]
  exact f1.val h.pinC.2 g1
theorem Flv.le {M Mm : Mem} (h : Rl M Mm) {F : Int} (a : Flv Mm F) {b : Nat → Int} (hb : isB (Mm 3) b) : F ≤ enS (coM Mm) b := by
  obtain ⟨f, f1, f2⟩ := a
  rw [← f2]
  exact weak h.pinC.2 f1.1 hb
theorem Flv.bd {M Mm : Mem} (h : Rl M Mm) {F : Int} (a : Flv Mm F) : 0 ≤ F ∧ F ≤ 3540 := by
  obtain ⟨f, ⟨f0, b, b1, b2⟩, f2⟩ := a
  rw [← f2, b2]
  exact en_nn h.p159
theorem Rl.pe {M Mm : Mem} (h : Rl M Mm) : (∀ v, v < 36 → M 12 v = Mm 3 v) ∧ ∀ e, e < 60 → M 4 e = coM Mm e := ⟨fun v hv => (h.2.2.2.2.2.2.1 v hv).1, fun e he => (h.2.2.2.1 e he).2⟩
theorem q_film {M Mm : Mem} (h : Rl M Mm) : ∃ (F : Int) (C : Mem), fX5_film M = some (F, C) ∧ Rl C Mm ∧ Qf M C ∧ Flv Mm F := by
  obtain ⟨p1, p2⟩ := h.pinC
  obtain ⟨pe, ce⟩ := h.pe
  obtain ⟨M1, M2, F, r, a1, a2, a3, a4, a5, a6, a7⟩ := sideC h.1 p1 (k := 1) (Or.inl rfl)
  obtain ⟨c1, c2⟩ := a5.congr pe ce
  obtain ⟨f1, f2⟩ := reach_film p1 a5 (Or.inl rfl) a6 (b := b01 r) (fun v hv => ⟨b01_01 r v, by
    rw [if_pos rfl]
    have := a7 v (by omega)
    exact ⟨fun q => (this.mp (b01_iff.1.mp q)).2, fun q => b01_iff.1.mpr (this.mpr ⟨hv, q⟩)⟩⟩)
  have e4 : M2 4 = M 4 := a4.1 4 (by decide) (by decide) (by decide)
  have c5 : fX5_film M = some (vaF (Mm 3) (M2 13), M2) := by
    unfold fX5_film
    refine w_bind (t := (r, M2)) ?_ (w_bind (prC (a4.gr h.1) r) ?_)
    · unfold fX0_smallest
      exact w_bind a1 (w_bind a2 (w_bind a3 rfl))
    · rw [e4, ← f2, c2]
  exact ⟨_, M2, c5, h.flC a4, wq_X5_film c5, _, c1, rfl⟩
theorem q_proof {M Mm : Mem} (h : Rl M Mm) {F : Int} (hF : Flv Mm F) : ∃ C : Mem, fX5_proof M = some (F, C) ∧ Rl C Mm ∧ Qf M C := by
  obtain ⟨p1, p2⟩ := h.pinC
  obtain ⟨pe, ce⟩ := h.pe
  obtain ⟨f, M2, a1, a2, a3⟩ := pvC h.1 p1
  obtain ⟨c1, c2⟩ := a3.congr pe ce
  have e : vaF (M 12) f = F := by rw [c2]; exact Flv.one h ⟨f, c1, rfl⟩ hF
  rw [e] at a1
  have c5 : fX5_proof M = some (F, M2) := by
    unfold fX5_proof
    exact w_bind a1 rfl
  exact ⟨M2, c5, h.flC a2, wq_X5_proof c5⟩
def Lf (Mm : Mem) (F : Int) (r : Int64) : Prop := isB (Mm 3) (b01 r) ∧ enS (coM Mm) (b01 r) = F ∧ ∀ i, i < 64 → bitB r i = true → i < 36
theorem q_small {M Mm : Mem} (h : Rl M Mm) {F : Int} (hF : Flv Mm F) : ∃ (r : Int64) (C : Mem), fX5_side M 0 = some (r, C) ∧ Rl C Mm ∧ Qf M C ∧ Lf Mm F r := by
  obtain ⟨p1, p2⟩ := h.pinC
  obtain ⟨pe, ce⟩ := h.pe
  obtain ⟨M1, M2, F2, r, a1, a2, a3, a4, a5, a6, a7⟩ := sideC h.1 p1 (k := 1) (Or.inl rfl)
  obtain ⟨c1, c2⟩ := a5.congr pe ce
  have c6 := a6.congr pe ce
  obtain ⟨f1, f2⟩ := reach_film p2 c1 (Or.inl rfl) c6 (b := b01 r) (fun v hv => ⟨b01_01 r v, by
    rw [if_pos rfl]
    have := a7 v (by omega)
    exact ⟨fun q => (this.mp (b01_iff.1.mp q)).2, fun q => b01_iff.1.mpr (this.mpr ⟨hv, q⟩)⟩⟩)
  have c5 : fX5_side M 0 = some (r, M2) := by
    unfold fX5_side
    refine w_gd R0 (w_bind (t := (r, M2)) (w_t rfl (w_bind (t := (r, M2)) ?_ rfl)) rfl)
    unfold fX0_smallest
    exact w_bind a1 (w_bind a2 (w_bind a3 rfl))
  exact ⟨r, M2, c5, h.flC a4, wq_X5_side c5, f1, by rw [← f2]; exact Flv.one h ⟨_, c1, rfl⟩ hF, fun i hi z => ((a7 i hi).mp z).1⟩
theorem q_great {M Mm : Mem} (h : Rl M Mm) {F : Int} (hF : Flv Mm F) : ∃ (r : Int64) (C : Mem), fX5_side M 1 = some (r, C) ∧ Rl C Mm ∧ Qf M C ∧ Lf Mm F r ∧ ∀ b, isB (Mm 3) b → enS (coM Mm) b = F → ∀ v, v < 36 → b v = 1 → b01 r v = 1 := by
  obtain ⟨p1, p2⟩ := h.pinC
  obtain ⟨pe, ce⟩ := h.pe
  obtain ⟨M1, M2, F2, s, a1, a2, a3, a4, a5, a6, a7⟩ := sideC h.1 p1 (k := 2) (Or.inr rfl)
  obtain ⟨c1, c2⟩ := a5.congr pe ce
  have c6 := a6.congr pe ce
  have bits : ∀ i, i < 64 → (bitB (68719476735 &&& (s ^^^ (-1))) i = true ↔ (i < 36 ∧ ¬ bitB s i = true)) := fun i hi => by
    rw [bit_and, bit_not s hi, (bit_mask i hi).1]
    simp
  have hb : ∀ v, v < 36 → (b01 (68719476735 &&& (s ^^^ (-1))) v = 0 ∨ b01 (68719476735 &&& (s ^^^ (-1))) v = 1) ∧ (b01 (68719476735 &&& (s ^^^ (-1))) v = (if (2 : Int) = 1 then 1 else 0) ↔ sn14 M2 v = 1) := fun v hv => ⟨b01_01 _ v, by
    rw [if_neg (by decide)]
    have x := a7 v (by omega)
    have y := bits v (by omega)
    constructor
    · intro q
      have z := b01_iff.2.mp q
      by_cases w : bitB s v = true
      · exact (x.mp w).2
      · exact absurd (y.mpr ⟨hv, w⟩) z
    · intro q
      have w := x.mpr ⟨hv, q⟩
      exact b01_iff.2.mpr (fun z => (y.mp z).2 w)⟩
  obtain ⟨f1, f2⟩ := reach_film p2 c1 (Or.inr rfl) c6 hb
  have c5 : fX5_side M 1 = some (68719476735 &&& (s ^^^ (-1)), M2) := by
    unfold fX5_side
    refine w_gd R1 (w_bind (t := (68719476735 &&& (s ^^^ (-1)), M2)) (w_f N1 (w_bind (t := (68719476735 &&& (s ^^^ (-1)), M2)) ?_ rfl)) rfl)
    unfold fX0_greatest
    exact w_bind a1 (w_bind a2 (w_bind a3 rfl))
  have vF : vaF (Mm 3) (M2 13) = F := Flv.one h ⟨_, c1, rfl⟩ hF
  refine ⟨_, M2, c5, h.flC a4, wq_X5_side c5, ⟨f1, by rw [← f2]; exact vF, fun i hi z => ((bits i hi).mp z).1⟩, fun b b1 b2 v hv b3 => ?_⟩
  have cl := (clz_of p2 c1.1 b1 (by rw [vF, b2])).2
  rcases b01_01 (68719476735 &&& (s ^^^ (-1))) v with q | q
  · have sv := ((hb v hv).2.mp (by rw [if_neg (by decide)]; exact q))
    have := c6.2.2 (fun v => b v = 0) (fun u hu z => (b1 u hu).2.2 z) cl v hv sv
    have this : b v = 0 := this
    omega
  · exact q
/-! the pins as sets -/
def Ps (pn : Nat → Int) (k : Int) (x : Int64) : Prop := ∀ i, i < 64 → (bitB x i = true ↔ (i < 36 ∧ pn i = k))
theorem film81 {M : Mem} {pn : Nat → Int} (hM : ∀ v, v < 36 → M 22 v = pn v) (hp : pinR pn) (x2 x3 : Int) (x4 x6 : Int64) (x8 : Int) : ∀ (m j n : Nat) (I O : Int64), j + m = 36 → m < n → (∀ i, i < 64 → (bitB I i = true ↔ (i < j ∧ pn i = 1))) → (∀ i, i < 64 → (bitB O i = true ↔ (i < j ∧ pn i = 2))) →
    ∃ I' O', fL_areFilms_L81 n M x2 x3 x4 x6 x8 I O (j : Int) = some (I', O') ∧ Ps pn 1 I' ∧ Ps pn 2 O' := by
  intro m
  induction m with
  | zero =>
    intro j n I O hj hn hI hO
    obtain ⟨n, rfl⟩ : ∃ k, n = k + 1 := ⟨n - 1, by omega⟩
    have e : j = 36 := by omega
    subst e
    refine ⟨I, O, ?_, hI, hO⟩
    clear hI hO
    rw [fL_areFilms_L81]
    exact w_gdR (by omega) (by omega) (w_t (by omega) rfl)
  | succ m ih =>
    intro j n I O hj hn hI hO
    obtain ⟨n, rfl⟩ : ∃ k, n = k + 1 := ⟨n - 1, by omega⟩
    have hj6 : j < 36 := by omega
    have pj := hp j hj6
    have mj := hM j hj6
    have step : ∀ (k : Int) (X : Int64), (∀ i, i < 64 → (bitB X i = true ↔ (i < j ∧ pn i = k))) → ∃ t, (if pn j = k then some (llshl 1 (j : Int)) else some (0 : Int64)) = some t ∧ ∀ i, i < 64 → (bitB (X ||| t) i = true ↔ (i < j + 1 ∧ pn i = k)) := by
      intro k X hX
      by_cases q : pn j = k
      · refine ⟨_, w_t q rfl, fun i hi => ?_⟩
        rw [bit_or, bit_one hj6 hi]
        simp only [Bool.or_eq_true, decide_eq_true_eq]
        rw [hX i hi]
        constructor
        · rintro (z | z)
          · exact ⟨by omega, z.2⟩
          · rw [z]; exact ⟨by omega, q⟩
        · intro z
          by_cases e : i = j
          · exact Or.inr e
          · exact Or.inl ⟨by omega, z.2⟩
      · refine ⟨0, w_f q rfl, fun i hi => ?_⟩
        rw [bit_or, bit_zero, Bool.or_false, hX i hi]
        refine ⟨fun z => ⟨by omega, z.2⟩, fun z => ⟨?_, z.2⟩⟩
        by_cases e : i = j
        · rw [e] at z; exact absurd z.2 q
        · omega
    obtain ⟨t1, s1, s2⟩ := step 1 I hI
    obtain ⟨t2, s3, s4⟩ := step 2 O hO
    clear step hI hO
    obtain ⟨I', O', g1, g2, g3⟩ := ih (j + 1) n (I ||| t1) (O ||| t2) (by omega) (by omega) s2 s4
    refine ⟨I', O', ?_, g2, g3⟩
    clear s2 s4 g2 g3
    rw [fL_areFilms_L81, Int.toNat_natCast, mj]
    refine w_gdR (by omega) (by omega) (w_f (by omega) (w_gdB (by omega) (by omega) (w_gdR (by omega) (by omega) (w_bind s1 (w_gdB (by omega) (by omega) (w_bind s3 ?_))))))
    rw [show (j : Int) + 1 = ((j + 1 : Nat) : Int) by omega]
    exact g1
theorem film139 {M Mm : Mem} (h : Rl M Mm) {F : Int} (hF : Flv Mm F) {S Gr I O : Int64} (hS : Lf Mm F S) (hG : Lf Mm F Gr) (hI : Ps (Mm 3) 1 I) (hO : Ps (Mm 3) 2 O) (x2 : Int) : ∀ (m k n : Nat), k + m = 36 → m < n → fL_areFilms_L139 n M x2 F S Gr 1 I O (k : Int) = some 1 := by
  have fb := hF.bd h
  intro m
  induction m with
  | zero =>
    intro k n hk hn
    obtain ⟨n, rfl⟩ : ∃ k, n = k + 1 := ⟨n - 1, by omega⟩
    rw [fL_areFilms_L139]
    exact w_gdR (by omega) (by omega) (w_t (by omega) rfl)
  | succ m ih =>
    intro k n hk hn
    obtain ⟨n, rfl⟩ : ∃ k, n = k + 1 := ⟨n - 1, by omega⟩
    have hk6 : k < 36 := by omega
    have bm : ∀ i, i < 64 → (bitB (S ||| llshl 1 (k : Int)) i = true ↔ (bitB S i = true ∨ i = k)) := fun i hi => by
      rw [bit_or, bit_one hk6 hi]; simp
    have bl : ∀ i, i < 64 → (bitB (Gr &&& (llshl 1 (k : Int) ^^^ (-1))) i = true ↔ (bitB Gr i = true ∧ i ≠ k)) := fun i hi => by
      rw [bit_and, bit_not _ hi, bit_one hk6 hi]; simp
    have more := cost_isB h (x := S ||| llshl 1 (k : Int)) (fun i hi z => by
      rcases (bm i hi).mp z with q | q
      · exact hS.2.2 i hi q
      · omega)
    have less := cost_isB h (x := Gr &&& (llshl 1 (k : Int) ^^^ (-1))) (fun i hi z => hG.2.2 i hi ((bl i hi).mp z).1)
    have outk : ¬ isB (Mm 3) (b01 (S ||| llshl 1 (k : Int))) → zlcmp ((llshr O (k : Int)) &&& 1) 1 = 0 := fun q => by
      rw [zlcmp_iff, bit_s O hk6]
      have : bitB O k = true := by
        refine (hO k (by omega)).mpr ⟨hk6, Classical.byContradiction fun w => q (fun v hv => ?_)⟩
        obtain ⟨s1, s2, s3⟩ := hS.1 v hv
        have bv := bm v (by omega)
        refine ⟨b01_01 _ v, fun z => ?_, fun z => ?_⟩
        · exact b01_iff.1.mpr (bv.mpr (Or.inl (b01_iff.1.mp (s2 z))))
        · refine b01_iff.2.mpr (fun y => ?_)
          rcases bv.mp y with u | u
          · exact b01_iff.2.mp (s3 z) u
          · rw [u] at z; exact w z
      rw [if_pos this]
    have ink : ¬ isB (Mm 3) (b01 (Gr &&& (llshl 1 (k : Int) ^^^ (-1)))) → zlcmp ((llshr I (k : Int)) &&& 1) 1 = 0 := fun q => by
      rw [zlcmp_iff, bit_s I hk6]
      have : bitB I k = true := by
        refine (hI k (by omega)).mpr ⟨hk6, Classical.byContradiction fun w => q (fun v hv => ?_)⟩
        obtain ⟨s1, s2, s3⟩ := hG.1 v hv
        have bv := bl v (by omega)
        refine ⟨b01_01 _ v, fun z => ?_, fun z => ?_⟩
        · refine b01_iff.1.mpr (bv.mpr ⟨b01_iff.1.mp (s2 z), fun u => ?_⟩)
          rw [u] at z; exact w z
        · exact b01_iff.2.mpr (fun y => b01_iff.2.mp (s3 z) (bv.mp y).1)
      rw [if_pos this]
    have enb : ∀ b : Nat → Int, 0 ≤ enS (coM Mm) b ∧ enS (coM Mm) b ≤ 3540 := fun b => en_nn h.p159
    rw [fL_areFilms_L139]
    refine w_gdR (by omega) (by omega) (w_f (by omega) (w_gd R1 (w_f N1 ?_)))
    rw [show (k : Int) + 1 = ((k + 1 : Nat) : Int) by omega]
    have nx := ih (k + 1) n (by omega) (by omega)
    rcases more with ⟨m1, m2⟩ | ⟨m1, m2⟩
    · have ma := hF.le h m1
      have mb := enb (b01 (S ||| llshl 1 (k : Int)))
      rcases less with ⟨l1, l2⟩ | ⟨l1, l2⟩
      · have la := hF.le h l1
        have lb := enb (b01 (Gr &&& (llshl 1 (k : Int) ^^^ (-1))))
        exact w_bind m2 (w_bind l2 (w_gdR (by omega) (by omega) (w_bind (t := 1) (w_f (by omega) (w_gdR (by omega) (by omega) (w_f (by omega) (w_gdR (by omega) (by omega) (w_f (by omega) (w_f (by omega) rfl)))))) nx)))
      · exact w_bind m2 (w_bind l2 (w_gdR (by omega) (by omega) (w_bind (t := 1) (w_f (by omega) (w_gdR (by omega) (by omega) (w_f (by omega) (w_gdR (by decide) (by decide) (w_t rfl (w_t (ink l1) rfl)))))) nx)))
    · rcases less with ⟨l1, l2⟩ | ⟨l1, l2⟩
      · have la := hF.le h l1
        have lb := enb (b01 (Gr &&& (llshl 1 (k : Int) ^^^ (-1))))
        exact w_bind m2 (w_bind l2 (w_gdR (by decide) (by decide) (w_bind (t := 1) (w_t rfl (w_t (outk m1) (w_gdR (by omega) (by omega) (w_f (by omega) (w_gdR (by omega) (by omega) (w_f (by omega) rfl)))))) nx)))
      · exact w_bind m2 (w_bind l2 (w_gdR (by decide) (by decide) (w_bind (t := 1) (w_t rfl (w_t (outk m1) (w_gdR (by decide) (by decide) (w_t rfl (w_t (ink l1) rfl))))) nx)))
theorem q_areFilms {i : Int} {M Mm : Mem} (h : SI i M Mm) (y : Int) : ∃ C : Mem, fL_areFilms M y = some (1, C) ∧ Rl C Mm ∧ Qf M C := by
  have hR := h.1
  obtain ⟨F, C1, a1, a2, a3, hF⟩ := q_film hR
  obtain ⟨S, C2, b1, b2, b3, hS⟩ := q_small a2 hF
  obtain ⟨Gr, C3, c1, c2, c3, hG, c4⟩ := q_great b2 hF
  obtain ⟨C4, d1, d2, d3⟩ := q_proof c2 hF
  have qf := ((a3.trans b3).trans c3).trans d3
  have S4 := h.q d2 qf
  have pin : ∀ v, v < 36 → C4 22 v = Mm 3 v := fun v hv => (S4.2.2.1 v hv).trans (d2.pe.1 v hv)
  obtain ⟨I, O, e1, hI, hO⟩ := film81 (M := C4) (pn := Mm 3) pin hR.pinC.2 y F S Gr 1 36 0 FU 0 0 (by omega) (by have := FU_big; omega) (fun i _ => ⟨fun z => by rw [bit_zero] at z; exact absurd z (by decide), fun z => absurd z.1 (by omega)⟩) (fun i _ => ⟨fun z => by rw [bit_zero] at z; exact absurd z (by decide), fun z => absurd z.1 (by omega)⟩)
  have e2 := film139 d2 hF hS hG hI hO y 36 0 FU (by omega) (by have := FU_big; omega)
  have fb := hF.bd hR
  have cs : fL_costOf C4 S = some F := by
    rcases cost_isB d2 hS.2.2 with ⟨_, z⟩ | ⟨z, _⟩
    · rw [hS.2.1] at z; exact z
    · exact absurd hS.1 z
  have cg : fL_costOf C4 Gr = some F := by
    rcases cost_isB d2 hG.2.2 with ⟨_, z⟩ | ⟨z, _⟩
    · rw [hG.2.1] at z; exact z
    · exact absurd hG.1 z
  have sub : zlcmp (S &&& (Gr ^^^ (-1))) 0 = 0 := by
    rw [zlcmp_iff]
    refine bit_ext (fun i hi => ⟨fun z => ?_, fun z => by rw [bit_zero] at z; exact absurd z (by decide)⟩)
    rw [bit_and, bit_not _ hi] at z
    have z1 : bitB S i = true ∧ bitB Gr i = false := by simpa using z
    have i36 := hS.2.2 i hi z1.1
    have := b01_iff.1.mp (c4 (b01 S) hS.1 hS.2.1 i i36 (b01_iff.1.mpr z1.1))
    rw [z1.2] at this
    exact absurd this (by decide)
  have anyB : ∀ A : Int64, (∀ i, i < 64 → bitB A i = true → i < 36) → ∃ c, fL_costOf C4 ((A &&& (O ^^^ (-1))) ||| I) = some c ∧ F ≤ c ∧ c ≤ 3540 := fun A hA => by
    have bi : ∀ i, i < 64 → (bitB ((A &&& (O ^^^ (-1))) ||| I) i = true ↔ ((bitB A i = true ∧ ¬ bitB O i = true) ∨ bitB I i = true)) := fun i hi => by
      rw [bit_or, bit_and, bit_not _ hi]; simp
    rcases cost_isB d2 (x := (A &&& (O ^^^ (-1))) ||| I) (fun i hi z => by
      rcases (bi i hi).mp z with q | q
      · exact hA i hi q.1
      · exact ((hI i hi).mp q).1) with ⟨p, z⟩ | ⟨p, z⟩
    · exact ⟨_, z, hF.le hR p, (en_nn hR.p159).2⟩
    · refine absurd (fun v hv => ?_) p
      have bv := bi v (by omega)
      refine ⟨b01_01 _ v, fun q => b01_iff.1.mpr (bv.mpr (Or.inr ((hI v (by omega)).mpr ⟨hv, q⟩))), fun q => b01_iff.2.mpr (fun w => ?_)⟩
      rcases bv.mp w with u | u
      · exact u.2 ((hO v (by omega)).mpr ⟨hv, q⟩)
      · have := ((hI v (by omega)).mp u).2; omega
  have flat : ∀ (x : Int), (x = 0 ∨ x = 1) → isB (Mm 3) (fun _ => x) → F = 0 := fun x hx hb => by
    have le := hF.le hR hb
    have z : enS (coM Mm) (fun _ => x) = 0 := ss_zero 60 0 (fun e _ _ => if_pos rfl)
    omega
  have noI : zlcmp I 0 = 0 → F = 0 := fun q => by
    rw [zlcmp_iff] at q
    refine flat 0 (Or.inl rfl) (fun v hv => ⟨Or.inl rfl, fun z => ?_, fun _ => rfl⟩)
    have := (hI v (by omega)).mpr ⟨hv, z⟩
    rw [q, bit_zero] at this
    exact absurd this (by decide)
  have noO : zlcmp O 0 = 0 → F = 0 := fun q => by
    rw [zlcmp_iff] at q
    refine flat 1 (Or.inr rfl) (fun v hv => ⟨Or.inr rfl, fun _ => rfl, fun z => ?_⟩)
    have := (hO v (by omega)).mpr ⟨hv, z⟩
    rw [q, bit_zero] at this
    exact absurd this (by decide)
  obtain ⟨c, k1, k2, k3⟩ := anyB (((((Int32.ofInt y).toInt64) * 6364136223) ^^^ (llshl ((Int32.ofInt y).toInt64) 7)) &&& 68719476735) (fun i hi z => by
    rw [bit_and, (bit_mask i hi).1] at z
    simp at z
    exact z.2)
  refine ⟨C4, ?_, d2, qf⟩
  clear anyB flat
  unfold fL_areFilms
  refine w_bind a1 (w_bind b1 (w_bind c1 (w_bind d1 (w_gdR (by omega) (by omega) (w_gdR (by omega) (by omega) (w_bind (t := 1) ?_ (w_bind e1 (w_bind e2 (w_bind k1 (w_gd R1 (w_bind (t := 1) ?_ (w_gd (Or.inr rfl) rfl))))))))))))
  · exact w_t rfl (w_f (by omega) (w_bind cs (w_gdR (by omega) (by omega) (w_t rfl (w_bind cg (w_gdR (by omega) (by omega) (w_t rfl (w_t sub rfl))))))))
  · refine w_f N1 (w_gdR (by omega) (by omega) (w_f (by omega) ?_))
    by_cases q : zlcmp I 0 = 0
    · exact w_t q (w_t (noI q) rfl)
    · refine w_f q ?_
      by_cases q2 : zlcmp O 0 = 0
      · exact w_t q2 (w_t (noO q2) rfl)
      · exact w_f q2 rfl
