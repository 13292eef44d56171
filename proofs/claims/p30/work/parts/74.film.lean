/-! film, proof, side -/
theorem MxF.congr {pn pn2 c c2 f : Nat → Int} (hp : ∀ v, v < 36 → pn v = pn2 v) (hc : ∀ e, e < 60 → c e = c2 e) (h : MxF pn c f) : MxF pn2 c2 f ∧ vaF pn f = vaF pn2 f := by
  have ev : vaF pn f = vaF pn2 f := by
    unfold vaF
    exact ss_congr 36 0 (fun v _ hv => by rw [hp v (by omega)])
  obtain ⟨⟨h1, h2⟩, b, h3, h4⟩ := h
  have ee : enS c b = enS c2 b := by
    unfold enS
    exact ss_congr 60 0 (fun e _ he => by rw [hc e (by omega)])
  refine ⟨⟨⟨fun e he => by rw [← hc e he]; exact h1 e he, fun v hv q => h2 v hv (by rw [hp v hv]; exact q)⟩, b, fun v hv => ?_, by rw [← ev, ← ee]; exact h4⟩, ev⟩
  rw [← hp v hv]
  exact h3 v hv
theorem Rch.congr {pn pn2 c c2 f : Nat → Int} {k : Int} {S : Nat → Prop} (hp : ∀ v, v < 36 → pn v = pn2 v) (hc : ∀ e, e < 60 → c e = c2 e) (h : Rch pn c f k S) : Rch pn2 c2 f k S := by
  obtain ⟨h1, h2, h3⟩ := h
  have cl : ∀ T : Nat → Prop, Clz c f k T ↔ Clz c2 f k T := fun T => by
    unfold Clz
    exact ⟨fun z e he => by rw [← hc e he]; exact z e he, fun z e he => by rw [hc e he]; exact z e he⟩
  exact ⟨fun v hv q => h1 v hv (by rw [hp v hv]; exact q), (cl S).mp h2, fun T t1 t2 v hv q => h3 T (fun u hu z => t1 u hu (by rw [← hp u hu]; exact z)) ((cl T).mpr t2) v hv q⟩
theorem bit_one {v : Nat} (hv : v < 36) {i : Nat} (hi : i < 64) : bitB (llshl 1 (v : Int)) i = decide (i = v) := by
  show ((1#64) <<< (((Int32.ofInt (v : Int)).toInt64 &&& 63).toBitVec.smod 64)).getLsbD i = _
  rw [BitVec.shiftLeft_eq', amS v (by omega), BitVec.getLsbD_shiftLeft, BitVec.getLsbD_one]
  by_cases h1 : i = v
  · subst h1
    simp [hi]
  · by_cases h2 : i < v
    · simp [h1, h2]
    · have : i - v ≠ 0 := by omega
      simp [h1, this]
theorem bit_or (x y : Int64) (i : Nat) : bitB (x ||| y) i = (bitB x i || bitB y i) := by
  show (x.toBitVec ||| y.toBitVec).getLsbD i = _
  rw [BitVec.getLsbD_or]
  rfl
theorem bit_ext {x y : Int64} (h : ∀ i, i < 64 → (bitB x i = true ↔ bitB y i = true)) : x = y := by
  refine Int64.toBitVec_inj.mp (BitVec.eq_of_getLsbD_eq fun i hi => ?_)
  have := h i hi
  unfold bitB at this
  exact Bool.eq_iff_iff.mpr this
theorem rcC_L {M : Mem} (h14 : ∀ v, v < 36 → -2 ≤ M 14 v ∧ M 14 v < 60) : ∀ (m j n : Nat) (x : Int64), j + m = 36 → m < n → (∀ i, i < 64 → (bitB x i = true ↔ (i < j ∧ M 14 i ≠ -1))) →
    ∃ r, fX0_reached_L4 n M x (j : Int) = some r ∧ ∀ i, i < 64 → (bitB r i = true ↔ (i < 36 ∧ M 14 i ≠ -1)) := by
  intro m
  induction m with
  | zero =>
    intro j n x h hn hx
    obtain ⟨n, rfl⟩ : ∃ k, n = k + 1 := ⟨n - 1, by omega⟩
    have e : j = 36 := by omega
    subst e
    refine ⟨x, ?_, hx⟩
    clear hx
    rw [fX0_reached_L4]
    exact w_gdR (by omega) (by omega) (w_t (by omega) rfl)
  | succ m ih =>
    intro j n x h hn hx
    obtain ⟨n, rfl⟩ : ∃ k, n = k + 1 := ⟨n - 1, by omega⟩
    have hj : j < 36 := by omega
    have b := h14 j hj
    have key : ∃ y, (if M 14 j = -1 then some x else some (x ||| (llshl 1 (j : Int)))) = some y ∧ ∀ i, i < 64 → (bitB y i = true ↔ (i < j + 1 ∧ M 14 i ≠ -1)) := by
      by_cases q : M 14 j = -1
      · refine ⟨x, w_t q rfl, fun i hi => (hx i hi).trans ⟨fun z => ⟨by omega, z.2⟩, fun z => ⟨?_, z.2⟩⟩⟩
        by_cases e : i = j
        · rw [e] at z; exact absurd q z.2
        · omega
      · refine ⟨_, w_f q rfl, fun i hi => ?_⟩
        rw [bit_or, bit_one hj hi]
        simp only [Bool.or_eq_true, decide_eq_true_eq]
        rw [hx i hi]
        constructor
        · rintro (z | z)
          · exact ⟨by omega, z.2⟩
          · rw [z]; exact ⟨by omega, q⟩
        · intro z
          by_cases e : i = j
          · exact Or.inr e
          · exact Or.inl ⟨by omega, z.2⟩
    clear hx
    obtain ⟨y, k1, k2⟩ := key
    obtain ⟨r, g1, g2⟩ := ih (j + 1) n y (by omega) (by omega) k2
    refine ⟨r, ?_, g2⟩
    clear k2 g2
    rw [fX0_reached_L4]
    refine w_gdR (by omega) (by omega) (w_f (by omega) (w_gdB (by omega) (by omega) ?_))
    rw [Int.toNat_natCast]
    refine w_gdR (by omega) (by omega) (w_bind k1 ?_)
    rw [show (j : Int) + 1 = ((j + 1 : Nat) : Int) by omega]
    exact g1
/-- the class's side: what a search from one kind of pins reaches -/
theorem sideC {M0 : Mem} (hg : GR M0) (hpn : pinR (M0 12)) {k : Int} (hk : k = 1 ∨ k = 2) : ∃ (M1 M2 : Mem) (F : Int) (r : Int64), fX0_fillField M0 = some M1 ∧ fX0_search M1 k = some (F, M2) ∧ fX0_reached M2 = some r ∧ FlI M0 M2 ∧ MxF (M0 12) (M0 4) (M2 13) ∧ Rch (M0 12) (M0 4) (M2 13) k (fun v => sn14 M2 v = 1) ∧ ∀ i, i < 64 → (bitB r i = true ↔ (i < 36 ∧ sn14 M2 i = 1)) := by
  obtain ⟨M1, a1, a2, a3⟩ := fiC hg hpn
  have hg1 := a2.gr hg
  have e12 : M1 12 = M0 12 := a2.1 12 (by decide) (by decide) (by decide)
  have e4 : M1 4 = M0 4 := a2.1 4 (by decide) (by decide) (by decide)
  obtain ⟨F, M2, b1, b2, b3⟩ := scC hk hg1 (by rw [e12]; exact fun v hv => by have := hpn v hv; exact ⟨by omega, by omega⟩) (by rw [e4]; exact a2.2.1)
  obtain ⟨r, c1, c2⟩ := rcC_L b2.2.2.2.1 36 0 FU 0 (by omega) (by have := FU_big; omega) (fun i _ => ⟨fun z => by
    have : bitB 0 i = false := by
      show (0#64).getLsbD i = false
      simp
    rw [this] at z; exact absurd z (by decide), fun z => absurd z.1 (by omega)⟩)
  have e13 : M2 13 = M1 13 := b2.1 13 (by decide) (by decide)
  rw [e12, e4] at b3
  refine ⟨M1, M2, F, r, a1, b1, ?_, a2.sc b2, by rw [e13]; exact a3, by rw [e13]; exact b3, fun i hi => (c2 i hi).trans ⟨fun z => ⟨z.1, sn14_1.mpr z.2⟩, fun z => ⟨z.1, sn14_1.mp z.2⟩⟩⟩
  unfold fX0_reached
  exact w_bind c1 rfl
theorem Rl.pinC {Mc Mm : Mem} (h : Rl Mc Mm) : pinR (Mc 12) ∧ pinR (Mm 3) := by
  have p := h.2.2.2.2.2.2.1
  exact ⟨fun v hv => by have := p v hv; omega, fun v hv => by have := p v hv; omega⟩
theorem Rl.flC {Mc Mm M : Mem} (h : Rl Mc Mm) (f : FlI Mc M) : Rl M Mm := h.keep (fun a ha => f.1 a (by intro q; subst q; revert ha; decide) (by intro q; subst q; revert ha; decide) (by intro q; subst q; revert ha; decide)) (fun _ _ => rfl)
theorem Rl.flM {Mc Mm M : Mem} (h : Rl Mc Mm) (f : ∀ a, a ≠ 9 → a ≠ 10 → a ≠ 11 → M a = Mm a) : Rl Mc M := h.keep (fun _ _ => rfl) (fun a ha => f a (by intro q; subst q; revert ha; decide) (by intro q; subst q; revert ha; decide) (by intro q; subst q; revert ha; decide))
theorem mx_bd {pn c f : Nat → Int} (hpn : pinR pn) (hc : ∀ e, e < 60 → 1 ≤ c e ∧ c e ≤ 59) (h : MxF pn c f) : inR (vaF pn f) := by
  have a := va_ub hpn hc h.1
  obtain ⟨_, b, b1, b2⟩ := h
  have d := (en_nn (pc := c) (b := b) hc).1
  exact ⟨by omega, by omega⟩
theorem F_film : Fc_film Rl := by
  intro Mc Mm hR
  have h0 := hR.thr 0
  obtain ⟨p1, p2⟩ := hR.pinC
  have pe : ∀ v, v < 36 → Mc 12 v = Mm 3 v := fun v hv => (hR.2.2.2.2.2.2.1 v hv).1
  have ce : ∀ e, e < 60 → Mc 4 e = coM Mm e := fun e he => (hR.2.2.2.1 e he).2
  obtain ⟨M1, M2, F, r, a1, a2, a3, a4, a5, a6, a7⟩ := sideC hR.1 p1 (k := 1) (Or.inl rfl)
  obtain ⟨M', g1, g2, g3⟩ := gfM h0.2.1 (M0 := wr Mm 100 0 0) p2
  obtain ⟨c1, c2⟩ := a5.congr pe ce
  have ev : vaF (Mm 3) (M2 13) = vaF (Mm 3) (M' 9) := c1.val p2 g3
  obtain ⟨f1, f2⟩ := reach_film p1 a5 (Or.inl rfl) a6 (b := b01 r) (fun v hv => ⟨b01_01 r v, by
    rw [if_pos rfl]
    have := a7 v (by omega)
    unfold b01
    by_cases q : bitB r v = true
    · rw [if_pos q]; exact ⟨fun _ => (this.mp q).2, fun _ => rfl⟩
    · rw [if_neg q]; exact ⟨fun z => absurd z (by decide), fun z => absurd (this.mpr ⟨hv, z⟩) q⟩⟩)
  have e4 : M2 4 = Mc 4 := a4.1 4 (by decide) (by decide) (by decide)
  refine ⟨(vaF (Mm 3) (M' 9), M2), (vaF (Mm 3) (M' 9), M'), ?_, ?_, rfl, mx_bd p2 (fun e he => coM_bd hR.2.1 he) g3, (h0.flC a4).flM g2.1⟩
  · unfold fX5_film
    refine w_bind (t := (r, M2)) ?_ (w_bind (prC (a4.gr hR.1) r) ?_)
    · unfold fX0_smallest
      exact w_bind a1 (w_bind a2 (w_bind a3 rfl))
    · rw [e4, ← f2, c2, ev]
  · unfold fX6_film
    exact w_bind g1 rfl
theorem F_proof : Fc_proof Rl := by
  intro Mc Mm hR
  have h0 := hR.thr 0
  obtain ⟨p1, p2⟩ := hR.pinC
  have pe : ∀ v, v < 36 → Mc 12 v = Mm 3 v := fun v hv => (hR.2.2.2.2.2.2.1 v hv).1
  have ce : ∀ e, e < 60 → Mc 4 e = coM Mm e := fun e he => (hR.2.2.2.1 e he).2
  obtain ⟨f, M2, a1, a2, a3⟩ := pvC hR.1 p1
  obtain ⟨M', g1, g2, g3⟩ := gfM h0.2.1 (M0 := wr Mm 100 0 0) p2
  obtain ⟨c1, c2⟩ := a3.congr pe ce
  have ev : vaF (Mm 3) f = vaF (Mm 3) (M' 9) := c1.val p2 g3
  refine ⟨(vaF (Mm 3) (M' 9), M2), (vaF (Mm 3) (M' 9), M'), ?_, ?_, rfl, mx_bd p2 (fun e he => coM_bd hR.2.1 he) g3, (h0.flC a2).flM g2.1⟩
  · unfold fX5_proof
    rw [← ev, ← c2]
    exact w_bind a1 rfl
  · unfold fX6_proof
    exact w_bind g1 rfl
theorem sdM_L {M : Mem} (h11 : ∀ v, v < 36 → M 11 v = 0 ∨ M 11 v = 1) {y : Int} (hy : y = 0 ∨ y = 1) : ∀ (m j n : Nat) (x : Int64), j + m = 36 → m < n → (∀ i, i < 64 → (bitB x i = true ↔ (i < j ∧ M 11 i ≠ y))) →
    ∃ r, fX6_side_L37 n M y x (j : Int) = some r ∧ ∀ i, i < 64 → (bitB r i = true ↔ (i < 36 ∧ M 11 i ≠ y)) := by
  intro m
  induction m with
  | zero =>
    intro j n x h hn hx
    obtain ⟨n, rfl⟩ : ∃ k, n = k + 1 := ⟨n - 1, by omega⟩
    have e : j = 36 := by omega
    subst e
    refine ⟨x, ?_, hx⟩
    clear hx
    rw [fX6_side_L37]
    exact w_gdR (by omega) (by omega) (w_t (by omega) rfl)
  | succ m ih =>
    intro j n x h hn hx
    obtain ⟨n, rfl⟩ : ∃ k, n = k + 1 := ⟨n - 1, by omega⟩
    have hj : j < 36 := by omega
    have b := h11 j hj
    have zero : ∀ i, i < 64 → bitB (0 : Int64) i = false := fun i _ => by
      show (0#64).getLsbD i = false
      simp
    have key : ∃ y2, (if M 11 j = y then some (0 : Int64) else some (llshl 1 (j : Int))) = some y2 ∧ ∀ i, i < 64 → (bitB (x ||| y2) i = true ↔ (i < j + 1 ∧ M 11 i ≠ y)) := by
      by_cases q : M 11 j = y
      · refine ⟨0, w_t q rfl, fun i hi => ?_⟩
        rw [bit_or, zero i hi, Bool.or_false, hx i hi]
        refine ⟨fun z => ⟨by omega, z.2⟩, fun z => ⟨?_, z.2⟩⟩
        by_cases e : i = j
        · rw [e] at z; exact absurd q z.2
        · omega
      · refine ⟨_, w_f q rfl, fun i hi => ?_⟩
        rw [bit_or, bit_one hj hi]
        simp only [Bool.or_eq_true, decide_eq_true_eq]
        rw [hx i hi]
        constructor
        · rintro (z | z)
          · exact ⟨by omega, z.2⟩
          · rw [z]; exact ⟨by omega, q⟩
        · intro z
          by_cases e : i = j
          · exact Or.inr e
          · exact Or.inl ⟨by omega, z.2⟩
    clear hx
    obtain ⟨y2, k1, k2⟩ := key
    obtain ⟨r, g1, g2⟩ := ih (j + 1) n (x ||| y2) (by omega) (by omega) k2
    refine ⟨r, ?_, g2⟩
    clear k2 g2
    rw [fX6_side_L37]
    refine w_gdR (by omega) (by omega) (w_f (by omega) (w_gdB (by omega) (by omega) ?_))
    rw [Int.toNat_natCast]
    refine w_gdR (by omega) (by omega) (w_gdR (by omega) (by omega) (w_bind k1 ?_))
    rw [show (j : Int) + 1 = ((j + 1 : Nat) : Int) by omega]
    exact g1
theorem bit_mask : ∀ i : Nat, i < 64 → bitB 68719476735 i = decide (i < 36) ∧ bitB (-1) i = true := by decide +kernel
theorem F_side : Fc_side Rl := by
  intro Mc Mm y0 hR hy
  have h0 := hR.thr 0
  obtain ⟨p1, p2⟩ := hR.pinC
  have pe : ∀ v, v < 36 → Mc 12 v = Mm 3 v := fun v hv => (hR.2.2.2.2.2.2.1 v hv).1
  have ce : ∀ e, e < 60 → Mc 4 e = coM Mm e := fun e he => (hR.2.2.2.1 e he).2
  obtain ⟨M', g1, g2, g3⟩ := gfM h0.2.1 (M0 := wr Mm 100 0 0) p2
  have e3 : M' 3 = Mm 3 := g2.1 3 (by decide) (by decide) (by decide)
  have ec : coM M' = coM Mm := coM_of (g2.1 0 (by decide) (by decide) (by decide)) (g2.1 1 (by decide) (by decide) (by decide))
  have hm' : MR M' := by
    have := h0.2.1
    unfold MR at this ⊢
    rw [g2.1 0 (by decide) (by decide) (by decide), g2.1 1 (by decide) (by decide) (by decide)]
    exact this
  have zero : ∀ i, i < 64 → bitB (0 : Int64) i = false := fun i _ => by
    show (0#64).getLsbD i = false
    simp
  have both : ∀ {k x2 : Int} (hk : (k = 1 ∧ x2 = 1) ∨ (k = 2 ∧ x2 = 0)), ∃ (M1 M2 : Mem) (F : Int) (r : Int64) (M3 : Mem), fX0_fillField Mc = some M1 ∧ fX0_search M1 k = some (F, M2) ∧ fX0_reached M2 = some r ∧ FlI Mc M2 ∧ fX6_reach M' k x2 = some M3 ∧ (∀ a, a ≠ 10 → a ≠ 11 → M3 a = M' a) ∧ (∀ v, v < 36 → M3 11 v = 0 ∨ M3 11 v = 1) ∧ ∀ i, i < 64 → (bitB r i = true ↔ (i < 36 ∧ M3 11 i = 1)) := by
    intro k x2 hk
    have hk2 : k = 1 ∨ k = 2 := by rcases hk with z | z; exact Or.inl z.1; exact Or.inr z.1
    obtain ⟨M1, M2, F, r, a1, a2, a3, a4, a5, a6, a7⟩ := sideC hR.1 p1 hk2
    obtain ⟨M3, F3, b1, b2, b3, b4⟩ := reM hk hm' (by rw [e3]; exact p2) (by rw [ec]; exact g3.1.1)
    obtain ⟨c1, c2⟩ := a5.congr pe ce
    have c6 := a6.congr pe ce
    rw [e3, ec] at b4
    refine ⟨M1, M2, F, r, M3, a1, a2, a3, a4, b1, b2, b3.2.1, fun i hi => (a7 i hi).trans ⟨fun z => ⟨z.1, reach_in p2 c1 g3 hk2 c6 b4 i z.1 z.2⟩, fun z => ⟨z.1, reach_in p2 g3 c1 hk2 b4 c6 i z.1 z.2⟩⟩⟩
  rcases hy with rfl | rfl
  · obtain ⟨M1, M2, F, r, M3, a1, a2, a3, a4, b1, b2, b3, b4⟩ := both (k := 1) (x2 := 1) (Or.inl ⟨rfl, rfl⟩)
    obtain ⟨s, s1, s2⟩ := sdM_L b3 (y := 0) (Or.inl rfl) 36 0 FU 0 (by omega) (by have := FU_big; omega) (fun i hi => ⟨fun z => by rw [zero i hi] at z; exact absurd z (by decide), fun z => absurd z.1 (by omega)⟩)
    have rs : r = s := bit_ext (fun i hi => (b4 i hi).trans (Iff.trans ⟨fun z => ⟨z.1, by omega⟩, fun z => ⟨z.1, (b3 i z.1).resolve_left z.2⟩⟩ (s2 i hi).symm))
    refine ⟨(r, M2), (s, M3), ?_, ?_, rs, (h0.flC a4).flM (fun a q1 q2 q3 => (b2 a q2 q3).trans (g2.1 a q1 q2 q3))⟩
    · unfold fX5_side
      refine w_gd R0 (w_bind (t := (r, M2)) (w_t rfl (w_bind (t := (r, M2)) ?_ rfl)) rfl)
      unfold fX0_smallest
      exact w_bind a1 (w_bind a2 (w_bind a3 rfl))
    · unfold fX6_side
      exact w_bind g1 (w_gd R0 (w_bind (t := 1) (w_t rfl rfl) (w_bind (t := 1) (w_t rfl rfl) (w_bind b1 (w_bind s1 rfl)))))
  · obtain ⟨M1, M2, F, r, M3, a1, a2, a3, a4, b1, b2, b3, b4⟩ := both (k := 2) (x2 := 0) (Or.inr ⟨rfl, rfl⟩)
    obtain ⟨s, s1, s2⟩ := sdM_L b3 (y := 1) (Or.inr rfl) 36 0 FU 0 (by omega) (by have := FU_big; omega) (fun i hi => ⟨fun z => by rw [zero i hi] at z; exact absurd z (by decide), fun z => absurd z.1 (by omega)⟩)
    have rs : (68719476735 &&& (r ^^^ (-1))) = s := bit_ext (fun i hi => by
      have m := bit_mask i hi
      have e : bitB (68719476735 &&& (r ^^^ (-1))) i = (bitB 68719476735 i && (bitB r i ^^ bitB (-1) i)) := by
        show ((68719476735 : Int64).toBitVec &&& (r.toBitVec ^^^ (-1 : Int64).toBitVec)).getLsbD i = _
        rw [BitVec.getLsbD_and, BitVec.getLsbD_xor]
        rfl
      rw [e, m.1, m.2, s2 i hi]
      simp only [Bool.and_eq_true, decide_eq_true_eq, Bool.xor_true, Bool.not_eq_true']
      constructor
      · rintro ⟨z1, z2⟩
        refine ⟨z1, fun z3 => ?_⟩
        have := (b4 i hi).mpr ⟨z1, z3⟩
        rw [z2] at this
        exact absurd this (by decide)
      · rintro ⟨z1, z2⟩
        refine ⟨z1, ?_⟩
        by_cases q : bitB r i = true
        · exact absurd ((b4 i hi).mp q).2 z2
        · simpa using q)
    refine ⟨(68719476735 &&& (r ^^^ (-1)), M2), (s, M3), ?_, ?_, rs, (h0.flC a4).flM (fun a q1 q2 q3 => (b2 a q2 q3).trans (g2.1 a q1 q2 q3))⟩
    · unfold fX5_side
      refine w_gd R1 (w_bind (t := (68719476735 &&& (r ^^^ (-1)), M2)) (w_f N1 (w_bind (t := (68719476735 &&& (r ^^^ (-1)), M2)) ?_ rfl)) rfl)
      unfold fX0_greatest
      exact w_bind a1 (w_bind a2 (w_bind a3 rfl))
    · unfold fX6_side
      exact w_bind g1 (w_gd R1 (w_bind (t := 2) (w_f N1 rfl) (w_bind (t := 0) (w_f N1 rfl) (w_bind b1 (w_bind s1 rfl)))))
