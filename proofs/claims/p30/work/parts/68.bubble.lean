/-! what is told of a bubble -/
theorem ss_ge {f : Nat → Int} {m a k : Nat} (h1 : a ≤ k) (h2 : k < a + m) (h : ∀ i, a ≤ i → i < a + m → 0 ≤ f i) : f k ≤ ss f a m := by
  have e := ss_upd (f := f) (g := fun i => if i = k then 0 else f i) (k := k) m a h1 h2 (fun i hi => (if_neg hi).symm)
  have g := ss_nn (f := fun i => if i = k then 0 else f i) m a (fun i i1 i2 => by
    show 0 ≤ (if i = k then (0 : Int) else f i)
    split
    · exact Int.le_refl _
    · exact h i i1 i2)
  simp only [if_pos] at e
  omega
theorem szC_L {M : Mem} (ht : TB M 16) {x : Int} (hx : inR x) : ∀ (m k n : Nat) (s : Int), k + m = 36 → m < n → fX1_size_L4 n M x s (k : Int) = some (s + ss (fun v => if M 16 v = x then 1 else 0) k m) := by
  intro m
  induction m with
  | zero =>
    intro k n s h hn
    obtain ⟨n, rfl⟩ : ∃ k, n = k + 1 := ⟨n - 1, by omega⟩
    rw [fX1_size_L4, ss, Int.add_zero]
    exact w_gdR (by omega) (by omega) (w_t (by omega) rfl)
  | succ m ih =>
    intro k n s h hn
    obtain ⟨n, rfl⟩ : ∃ k, n = k + 1 := ⟨n - 1, by omega⟩
    have h1 := ht.2.2 k (by omega)
    rw [fX1_size_L4]
    refine w_gdR (by omega) (by omega) (w_f (by omega) (w_gdB (by omega) (by omega) ?_))
    rw [Int.toNat_natCast]
    refine w_gdR (by omega) (by omega) (w_gd hx (w_bind (t := s + (if M 16 k = x then 1 else 0)) ?_ ?_))
    · by_cases q : M 16 k = x
      · exact Eq.trans (w_t q rfl) (congrArg some (by rw [if_pos q]))
      · exact Eq.trans (w_f q rfl) (congrArg some (by rw [if_neg q, Int.add_zero]))
    · rw [show (k : Int) + 1 = ((k + 1 : Nat) : Int) by omega, ih (k + 1) n _ (by omega) (by omega), ss, Int.add_assoc]
theorem szM_L {M : Mem} (ht : BR M) {x : Int} (hx : inR x) : ∀ (m k n : Nat) (s : Int), k + m = 36 → m < n → fX6_nodesOf_L4 n M x s (k : Int) = some (s + ss (fun v => if M 4 v = x then 1 else 0) k m) := by
  intro m
  induction m with
  | zero =>
    intro k n s h hn
    obtain ⟨n, rfl⟩ : ∃ k, n = k + 1 := ⟨n - 1, by omega⟩
    rw [fX6_nodesOf_L4, ss, Int.add_zero]
    exact w_gdR (by omega) (by omega) (w_t (by omega) rfl)
  | succ m ih =>
    intro k n s h hn
    obtain ⟨n, rfl⟩ : ∃ k, n = k + 1 := ⟨n - 1, by omega⟩
    have h1 := ht k (by omega)
    rw [fX6_nodesOf_L4]
    refine w_gdR (by omega) (by omega) (w_f (by omega) (w_gdB (by omega) (by omega) ?_))
    rw [Int.toNat_natCast]
    refine w_gdR (by omega) (by omega) (w_gd hx (w_bind (t := if M 4 k = x then 1 else 0) ?_ ?_))
    · by_cases q : M 4 k = x
      · exact Eq.trans (w_t q rfl) (congrArg some (by rw [if_pos q]))
      · exact Eq.trans (w_f q rfl) (congrArg some (by rw [if_neg q]))
    · rw [show (k : Int) + 1 = ((k + 1 : Nat) : Int) by omega, ih (k + 1) n _ (by omega) (by omega), ss, Int.add_assoc]
theorem arC_L {M : Mem} (hg : GR M) (ht : TB M 16) {x : Int} (hx : 0 ≤ x ∧ x < 8) : ∀ (m k n : Nat) (s : Int), k + m = 8 → m < n → fX1_wallsAround_L5 n M x s (k : Int) = some (s + ss (fun k => if x = (k : Int) then 0 else wbS (M 4) (M 16) x (k : Int)) k m) := by
  intro m
  induction m with
  | zero =>
    intro k n s h hn
    obtain ⟨n, rfl⟩ : ∃ k, n = k + 1 := ⟨n - 1, by omega⟩
    rw [fX1_wallsAround_L5, ss, Int.add_zero]
    exact w_gdR (by omega) (by omega) (w_t (by omega) rfl)
  | succ m ih =>
    intro k n s h hn
    obtain ⟨n, rfl⟩ : ∃ k, n = k + 1 := ⟨n - 1, by omega⟩
    rw [fX1_wallsAround_L5]
    refine w_gdR (by omega) (by omega) (w_f (by omega) (w_gdR (by omega) (by omega) (w_bind (t := s + (if x = (k : Int) then 0 else wbS (M 4) (M 16) x (k : Int))) ?_ ?_)))
    · by_cases q : x = (k : Int)
      · rw [if_pos q, Int.add_zero]; exact w_t q.symm rfl
      · rw [if_neg q]; exact w_f (fun z => q z.symm) (w_bind (wbC hg ht hx ⟨by omega, by omega⟩) rfl)
    · rw [show (k : Int) + 1 = ((k + 1 : Nat) : Int) by omega, ih (k + 1) n _ (by omega) (by omega), ss, Int.add_assoc]
theorem arM_L {M : Mem} (hm : MR M) (ht : BR M) {x y : Int} (hx : 0 ≤ x ∧ x < 8) (hy : y = 0 ∨ y = 1) : ∀ (m k n : Nat) (s : Int), k + m = 8 → m < n → fX6_wallsOfBubble_L5 n M x y s (k : Int) = some (s + ss (fun k => if y = 0 then (if (if x = (k : Int) then 0 else wbS (coM M) (M 4) x (k : Int)) ≤ 0 then 0 else 1) else (if x = (k : Int) then 0 else wbS (coM M) (M 4) x (k : Int))) k m) := by
  intro m
  induction m with
  | zero =>
    intro k n s h hn
    obtain ⟨n, rfl⟩ : ∃ k, n = k + 1 := ⟨n - 1, by omega⟩
    rw [fX6_wallsOfBubble_L5, ss, Int.add_zero]
    exact w_gdR (by omega) (by omega) (w_t (by omega) rfl)
  | succ m ih =>
    intro k n s h hn
    obtain ⟨n, rfl⟩ : ∃ k, n = k + 1 := ⟨n - 1, by omega⟩
    have hw := wb_nn (pc := coM M) (b := M 4) (fun e he => coM_bd hm he) x (k : Int)
    rw [fX6_wallsOfBubble_L5]
    refine w_gdR (by omega) (by omega) (w_f (by omega) (w_bind (wbM ht hx ⟨by omega, by omega⟩) (w_gdR (by omega) (by omega) (w_bind (t := if y = 0 then (if (if x = (k : Int) then 0 else wbS (coM M) (M 4) x (k : Int)) ≤ 0 then 0 else 1) else (if x = (k : Int) then 0 else wbS (coM M) (M 4) x (k : Int))) ?_ ?_))))
    · by_cases q : y = 0
      · refine Eq.trans (b := some (if (if x = (k : Int) then 0 else wbS (coM M) (M 4) x (k : Int)) ≤ 0 then 0 else 1)) (w_t q (w_gdR (by split <;> omega) (by split <;> omega) ?_)) (congrArg some (by rw [if_pos q]))
        by_cases q2 : (if x = (k : Int) then 0 else wbS (coM M) (M 4) x (k : Int)) ≤ 0
        · exact Eq.trans (w_t q2 rfl) (congrArg some (by rw [if_pos q2]))
        · exact Eq.trans (w_f q2 rfl) (congrArg some (by rw [if_neg q2]))
      · exact Eq.trans (w_f q rfl) (congrArg some (by rw [if_neg q]))
    · rw [show (k : Int) + 1 = ((k + 1 : Nat) : Int) by omega, ih (k + 1) n _ (by omega) (by omega), ss, Int.add_assoc]
theorem zorN : ∀ z : Nat, z < 256 → ∀ k : Nat, k < 8 → zor (z : Int) (zshl 1 (k : Int)) = ((z ||| 2 ^ k : Nat) : Int) ∧ (z ||| 2 ^ k) < 256 := by decide +kernel
theorem zandN : ∀ z : Nat, z < 256 → ∀ k : Nat, k < 8 → zand (z : Int) (zxor (zshl 1 (k : Int)) (-1)) = ((z &&& (255 - 2 ^ k) : Nat) : Int) ∧ (z &&& (255 - 2 ^ k)) < 256 := by decide +kernel
theorem pcSm : ∀ z : Nat, z < 256 → pcn 8 z = ss (fun k => if z.testBit k = true then 1 else 0) 0 8 := by decide +kernel
theorem t255 : ∀ k : Nat, k < 8 → ∀ j : Nat, j < 8 → (255 - 2 ^ k).testBit j = decide (j ≠ k) := by decide +kernel
theorem zorT {z k j : Nat} : (z ||| 2 ^ k).testBit j = true ↔ z.testBit j = true ∨ k = j := by
  rw [Nat.testBit_or, Nat.testBit_two_pow]
  simp
def metB (B : Nat → Int) (x : Int) (n k : Nat) : Prop := ∃ i, i < n ∧ ((B (lo i) = x ∧ B (hi i) = (k : Int)) ∨ (B (hi i) = x ∧ B (lo i) = (k : Int)))
theorem nbC_L {M : Mem} (hg : GR M) (ht : TB M 16) {x : Int} (hx : inR x) : ∀ (m e n z : Nat), e + m = 60 → m < n → z < 256 → (∀ k, k < 8 → (z.testBit k = true ↔ metB (M 16) x e k)) →
    ∃ z' : Nat, fX1_neighbours_L5 n M x (z : Int) (e : Int) = some (z' : Int) ∧ z' < 256 ∧ ∀ k, k < 8 → (z'.testBit k = true ↔ metB (M 16) x 60 k) := by
  intro m
  induction m with
  | zero =>
    intro e n z h hn hz hb
    obtain ⟨n, rfl⟩ : ∃ k, n = k + 1 := ⟨n - 1, by omega⟩
    have e60 : e = 60 := by omega
    rw [e60] at hb
    refine ⟨z, ?_, hz, hb⟩
    clear hb
    rw [fX1_neighbours_L5]
    exact w_gdR (by omega) (by omega) (w_t (by omega) rfl)
  | succ m ih =>
    intro e n z h hn hz hb
    obtain ⟨n, rfl⟩ : ∃ k, n = k + 1 := ⟨n - 1, by omega⟩
    have he : e < 60 := by omega
    have hl := lo_lt he
    have hh := hi_lt he
    have h1 := ht.2.2 _ hl
    have h2 := ht.2.2 _ hh
    obtain ⟨a, ha⟩ : ∃ a : Nat, M 16 (lo e) = a := ⟨(M 16 (lo e)).toNat, by omega⟩
    obtain ⟨c, hc⟩ : ∃ a : Nat, M 16 (hi e) = a := ⟨(M 16 (hi e)).toNat, by omega⟩
    obtain ⟨z1, e1⟩ : ∃ z1, z1 = if (a : Int) = x then z ||| 2 ^ c else z := ⟨_, rfl⟩
    have f1 : z1 < 256 ∧ ∀ k, k < 8 → (z1.testBit k = true ↔ z.testBit k = true ∨ ((a : Int) = x ∧ c = k)) := by
      by_cases q : (a : Int) = x
      · rw [e1, if_pos q]
        exact ⟨(zorN z hz c (by omega)).2, fun k _ => zorT.trans ⟨fun y => y.imp id (fun y => ⟨q, y⟩), fun y => y.imp id (fun y => y.2)⟩⟩
      · rw [e1, if_neg q]
        exact ⟨hz, fun k _ => ⟨Or.inl, fun y => y.resolve_right (fun y => q y.1)⟩⟩
    obtain ⟨z2, e2⟩ : ∃ z2, z2 = if (c : Int) = x then z1 ||| 2 ^ a else z1 := ⟨_, rfl⟩
    have f2 : z2 < 256 ∧ ∀ k, k < 8 → (z2.testBit k = true ↔ z1.testBit k = true ∨ ((c : Int) = x ∧ a = k)) := by
      by_cases q : (c : Int) = x
      · rw [e2, if_pos q]
        exact ⟨(zorN z1 f1.1 a (by omega)).2, fun k _ => zorT.trans ⟨fun y => y.imp id (fun y => ⟨q, y⟩), fun y => y.imp id (fun y => y.2)⟩⟩
      · rw [e2, if_neg q]
        exact ⟨f1.1, fun k _ => ⟨Or.inl, fun y => y.resolve_right (fun y => q y.1)⟩⟩
    obtain ⟨z', g1, g2⟩ := ih (e + 1) n z2 (by omega) (by omega) f2.1 (fun k hk => by
      rw [f2.2 k hk, f1.2 k hk, hb k hk]
      constructor
      · rintro ((⟨i, i1, i2⟩ | ⟨q1, q2⟩) | ⟨q1, q2⟩)
        · exact ⟨i, by omega, i2⟩
        · exact ⟨e, by omega, Or.inl ⟨by rw [ha]; exact q1, by rw [hc, q2]⟩⟩
        · exact ⟨e, by omega, Or.inr ⟨by rw [hc]; exact q1, by rw [ha, q2]⟩⟩
      · rintro ⟨i, i1, i2⟩
        by_cases q : i = e
        · rw [q, ha, hc] at i2
          rcases i2 with ⟨q1, q2⟩ | ⟨q1, q2⟩
          · exact Or.inl (Or.inr ⟨q1, by omega⟩)
          · exact Or.inr ⟨q1, by omega⟩
        · exact Or.inl (Or.inl ⟨i, by omega, i2⟩))
    refine ⟨z', ?_, g2⟩
    clear hb g2
    rw [fX1_neighbours_L5]
    refine w_gdR (by omega) (by omega) (w_f (by omega) (w_bind (gr_low hg he) (w_gdB (by omega) (by omega) (w_bind (gr_high hg he) (w_gdB (by omega) (by omega) ?_)))))
    rw [Int.toNat_natCast, Int.toNat_natCast, ha, hc]
    refine w_gdR (by omega) (by omega) (w_gd hx (w_bind (t := (z1 : Int)) ?_ (w_gdR (by omega) (by omega) (w_bind (t := (z2 : Int)) ?_ ?_))))
    · by_cases q : (a : Int) = x
      · have ez : z1 = z ||| 2 ^ c := by rw [e1, if_pos q]
        rw [ez, ← (zorN z hz c (by omega)).1]; exact w_t q rfl
      · have ez : z1 = z := by rw [e1, if_neg q]
        rw [ez]; exact w_f q rfl
    · by_cases q : (c : Int) = x
      · have ez : z2 = z1 ||| 2 ^ a := by rw [e2, if_pos q]
        rw [ez, ← (zorN z1 f1.1 a (by omega)).1]; exact w_t q rfl
      · have ez : z2 = z1 := by rw [e2, if_neg q]
        rw [ez]; exact w_f q rfl
    · rw [show (e : Int) + 1 = ((e + 1 : Nat) : Int) by omega]
      exact g1
theorem nbJ {Mc Mm : Mem} (hR : Rl Mc Mm) {x : Nat} (hx : x < 8) : ∃ r, fX1_neighbours Mc (x : Int) = some r ∧ r = ss (fun k => if (if (x : Int) = (k : Int) then 0 else wbS (coM Mm) (Mm 4) (x : Int) (k : Int)) ≤ 0 then 0 else 1) 0 8 := by
  obtain ⟨z, g1, g2, g3⟩ := nbC_L hR.1 hR.owns (x := (x : Int)) ⟨by omega, by omega⟩ 60 0 FU 0 (by omega) (by have := FU_big; omega) (by omega) (fun k _ => ⟨fun q => by rw [Nat.zero_testBit] at q; exact absurd q (by decide), fun ⟨i, i1, _⟩ => absurd i1 (by omega)⟩)
  have za := zandN z g2 x hx
  refine ⟨pcn 8 (z &&& (255 - 2 ^ x)), ?_, ?_⟩
  · unfold fX1_neighbours
    refine w_bind g1 ?_
    rw [za.1]
    exact w_bind (pcCM Mc za.2) rfl
  · rw [pcSm _ za.2]
    refine ss_congr 8 0 (fun k _ hk => ?_)
    have hk : k < 8 := by omega
    have hp : ∀ e, e < 60 → 1 ≤ coM Mm e ∧ coM Mm e ≤ 59 := fun e he => coM_bd hR.2.1 he
    have hb := hR.2.2.2.2.2.2.2.1
    show (if (z &&& (255 - 2 ^ x)).testBit k = true then (1 : Int) else 0) = (if (if (x : Int) = (k : Int) then 0 else wbS (coM Mm) (Mm 4) (x : Int) (k : Int)) ≤ 0 then 0 else 1)
    rw [Nat.testBit_and, t255 x hx k hk]
    by_cases q : k = x
    · rw [if_neg (by simp [q]), if_pos (by rw [if_pos (by omega)]; exact Int.le_refl _)]
    · rw [if_neg (show ¬ (x : Int) = (k : Int) by omega)]
      by_cases d : z.testBit k = true
      · rw [if_pos (by simp [q, d])]
        obtain ⟨i, i1, i2⟩ := (g3 k hk).mp d
        rw [(hb _ (lo_lt i1)).1, (hb _ (hi_lt i1)).1] at i2
        have w : isW (Mm 4) (x : Int) (k : Int) i := i2.imp id (fun y => ⟨y.2, y.1⟩)
        have ge := ss_ge (f := fun e => if isW (Mm 4) (x : Int) (k : Int) e then coM Mm e else 0) (m := 60) (a := 0) (k := i) (Nat.zero_le _) (by omega) (fun e _ he => by
          show 0 ≤ (if isW (Mm 4) (x : Int) (k : Int) e then coM Mm e else 0)
          have := hp e (by omega)
          split <;> omega)
        have ge : (if isW (Mm 4) (x : Int) (k : Int) i then coM Mm i else 0) ≤ wbS (coM Mm) (Mm 4) (x : Int) (k : Int) := ge
        rw [if_pos w] at ge
        have := hp i i1
        rw [if_neg (by omega)]
      · rw [if_neg (by simp [q, d])]
        have e0 : wbS (coM Mm) (Mm 4) (x : Int) (k : Int) = 0 := ss_zero 60 0 (fun i _ hi => if_neg (fun w => d ((g3 k hk).mpr ⟨i, by omega, by
          rw [(hb _ (lo_lt (by omega))).1, (hb _ (hi_lt (by omega))).1]
          exact w.imp id (fun y => ⟨y.2, y.1⟩)⟩)))
        rw [e0, if_pos (Int.le_refl _)]
theorem F_bubble : Fc_bubble Rl := by
  intro Mc Mm y0 y1 hR hy hz
  by_cases c : 0 ≤ y0 ∧ y0 < 8
  · obtain ⟨u, rfl⟩ : ∃ e : Nat, y0 = e := ⟨y0.toNat, by omega⟩
    have hu : u < 8 := by omega
    by_cases d : 0 ≤ y1 ∧ y1 ≤ 4
    · have h0 := hR.thr 0
      have hb := hR.2.2.2.2.2.2.2.1
      have d2 : y1 = 0 ∨ y1 = 1 ∨ y1 = 2 ∨ y1 = 3 ∨ y1 = 4 := by omega
      rcases d2 with rfl | rfl | rfl | rfl | rfl
      · have h1 := szC_L hR.owns (x := (u : Int)) hy 36 0 FU 0 (by omega) (by have := FU_big; omega)
        have h2 := szM_L h0.bubs (x := (u : Int)) hy 36 0 FU 0 (by omega) (by have := FU_big; omega)
        rw [Int.zero_add] at h1 h2
        refine ⟨(0, ss (fun v => if Mc 16 v = (u : Int) then 1 else 0) 0 36, Mc), (ss (fun v => if Mm 4 v = (u : Int) then 1 else 0) 0 36, wr Mm 100 0 0), ?_, ?_, Or.inl rfl, rfl, fun _ => ?_, h0⟩
        · unfold fX5_bubble
          refine w_bind (chB_y Mc hu) (w_t rfl (w_gd hz (w_t rfl (w_bind ?_ rfl))))
          unfold fX1_size
          exact w_bind h1 rfl
        · unfold fX6_bubble
          refine w_bind (isBub_y Mm hu) (w_gd R1 (w_bind (t := 0) (w_f N1 (w_bind (in_yes Mm hz R0 R4 d) (w_gd R1 (w_f N1 rfl)))) (w_bind (ref0 Mm) (w_gd R0 (w_t rfl (w_gd hz (w_t rfl (w_bind ?_ rfl))))))))
          unfold fX6_nodesOf
          exact w_bind h2 rfl
        · show ss (fun v => if Mc 16 v = (u : Int) then (1 : Int) else 0) 0 36 = ss (fun v => if Mm 4 v = (u : Int) then (1 : Int) else 0) 0 36
          exact ss_congr 36 0 (fun v _ hv => by rw [(hb v (by omega)).1])
      · obtain ⟨r, C, M, p1, p2, p3, p4⟩ := pieJ h0 hu
        refine ⟨(0, r, C), (r, M), ?_, ?_, Or.inl rfl, ?_, fun _ => rfl, p4⟩
        · unfold fX5_bubble
          exact w_bind (chB_y Mc hu) (w_t rfl (w_gd hz (w_f (by decide) (w_t rfl (w_bind p1 rfl)))))
        · unfold fX6_bubble
          exact w_bind (isBub_y Mm hu) (w_gd R1 (w_bind (t := 0) (w_f N1 (w_bind (in_yes Mm hz R0 R4 d) (w_gd R1 (w_f N1 rfl)))) (w_bind (ref0 Mm) (w_gd R0 (w_t rfl (w_gd hz (w_f (by decide) (w_t rfl (w_bind p2 rfl)))))))))
        · show M 100 0 = 0
          rw [p3]
          rfl
      · have h1 := arC_L hR.1 hR.owns (x := (u : Int)) c 8 0 FU 0 (by omega) (by have := FU_big; omega)
        have h2 := arM_L h0.2.1 h0.bubs (x := (u : Int)) (y := 1) c (Or.inr rfl) 8 0 FU 0 (by omega) (by have := FU_big; omega)
        rw [Int.zero_add] at h1 h2
        refine ⟨(0, ss (fun k => if (u : Int) = (k : Int) then 0 else wbS (Mc 4) (Mc 16) (u : Int) (k : Int)) 0 8, Mc), (ss (fun k => if (1 : Int) = 0 then (if (if (u : Int) = (k : Int) then 0 else wbS (coM Mm) (Mm 4) (u : Int) (k : Int)) ≤ 0 then 0 else 1) else (if (u : Int) = (k : Int) then 0 else wbS (coM Mm) (Mm 4) (u : Int) (k : Int))) 0 8, wr Mm 100 0 0), ?_, ?_, Or.inl rfl, rfl, fun _ => ?_, h0⟩
        · unfold fX5_bubble
          refine w_bind (chB_y Mc hu) (w_t rfl (w_gd hz (w_f (by decide) (w_f (by decide) (w_t rfl (w_bind ?_ rfl))))))
          unfold fX1_wallsAround
          exact w_bind h1 rfl
        · unfold fX6_bubble
          refine w_bind (isBub_y Mm hu) (w_gd R1 (w_bind (t := 0) (w_f N1 (w_bind (in_yes Mm hz R0 R4 d) (w_gd R1 (w_f N1 rfl)))) (w_bind (ref0 Mm) (w_gd R0 (w_t rfl (w_gd hz (w_f (by decide) (w_f (by decide) (w_t rfl (w_bind ?_ rfl))))))))))
          unfold fX6_wallsOfBubble
          exact w_bind h2 rfl
        · show ss (fun k => if (u : Int) = (k : Int) then 0 else wbS (Mc 4) (Mc 16) (u : Int) (k : Int)) 0 8 = ss (fun k => if (1 : Int) = 0 then (if (if (u : Int) = (k : Int) then 0 else wbS (coM Mm) (Mm 4) (u : Int) (k : Int)) ≤ 0 then 0 else 1) else (if (u : Int) = (k : Int) then 0 else wbS (coM Mm) (Mm 4) (u : Int) (k : Int))) 0 8
          refine ss_congr 8 0 (fun k _ hk => ?_)
          rw [if_neg (show ¬ (1 : Int) = 0 by decide), hR.wb]
      · obtain ⟨r, n1, n2⟩ := nbJ hR hu
        have h2 := arM_L h0.2.1 h0.bubs (x := (u : Int)) (y := 0) c (Or.inl rfl) 8 0 FU 0 (by omega) (by have := FU_big; omega)
        rw [Int.zero_add] at h2
        refine ⟨(0, r, Mc), (ss (fun k => if (0 : Int) = 0 then (if (if (u : Int) = (k : Int) then 0 else wbS (coM Mm) (Mm 4) (u : Int) (k : Int)) ≤ 0 then 0 else 1) else (if (u : Int) = (k : Int) then 0 else wbS (coM Mm) (Mm 4) (u : Int) (k : Int))) 0 8, wr Mm 100 0 0), ?_, ?_, Or.inl rfl, rfl, fun _ => ?_, h0⟩
        · unfold fX5_bubble
          exact w_bind (chB_y Mc hu) (w_t rfl (w_gd hz (w_f (by decide) (w_f (by decide) (w_f (by decide) (w_t rfl (w_bind n1 rfl)))))))
        · unfold fX6_bubble
          refine w_bind (isBub_y Mm hu) (w_gd R1 (w_bind (t := 0) (w_f N1 (w_bind (in_yes Mm hz R0 R4 d) (w_gd R1 (w_f N1 rfl)))) (w_bind (ref0 Mm) (w_gd R0 (w_t rfl (w_gd hz (w_f (by decide) (w_f (by decide) (w_f (by decide) (w_t rfl (w_bind ?_ rfl)))))))))))
          unfold fX6_wallsOfBubble
          exact w_bind h2 rfl
        · show r = ss (fun k => if (0 : Int) = 0 then (if (if (u : Int) = (k : Int) then 0 else wbS (coM Mm) (Mm 4) (u : Int) (k : Int)) ≤ 0 then 0 else 1) else (if (u : Int) = (k : Int) then 0 else wbS (coM Mm) (Mm 4) (u : Int) (k : Int))) 0 8
          rw [n2]
          refine ss_congr 8 0 (fun k _ hk => ?_)
          rw [if_pos (show (0 : Int) = 0 from rfl)]
      · have hh := hR.2.2.2.2.2.2.2.2.1 u hu
        have hk1 : Mc 18 u = 0 ∨ Mc 18 u = 1 := by rw [hh.1]; exact hh.2
        have e1 : (if Mc 18 u = 0 then some (0 : Int) else some 1) = some (Mc 18 u) := by
          rcases hk1 with q | q
          · rw [q]; rfl
          · rw [q]; rfl
        have e2 : (if Mm 5 u = 0 then some (0 : Int) else some 1) = some (Mm 5 u) := by
          rcases hh.2 with q | q
          · rw [q]; rfl
          · rw [q]; rfl
        refine ⟨(0, Mc 18 u, Mc), (Mm 5 u, wr Mm 100 0 0), ?_, ?_, Or.inl rfl, rfl, fun _ => hh.1, h0⟩
        · unfold fX5_bubble
          refine w_bind (chB_y Mc hu) (w_t rfl (w_gd hz (w_f (by decide) (w_f (by decide) (w_f (by decide) (w_f (by decide) (w_t rfl (w_bind (t := Mc 18 u) ?_ (w_gdR (by omega) (by omega) (w_bind e1 rfl))))))))))
          unfold fX1_isHeld
          refine w_gdB (by omega) (by omega) ?_
          rw [Int.toNat_natCast]
          exact w_gd hk1 rfl
        · unfold fX6_bubble
          refine w_bind (isBub_y Mm hu) (w_gd R1 (w_bind (t := 0) (w_f N1 (w_bind (in_yes Mm hz R0 R4 d) (w_gd R1 (w_f N1 rfl)))) (w_bind (ref0 Mm) (w_gd R0 (w_t rfl (w_gd hz (w_f (by decide) (w_f (by decide) (w_f (by decide) (w_f (by decide) (w_gdB (by omega) (by omega) ?_)))))))))))
          rw [Int.toNat_natCast]
          have go : gd (inR (Mm 5 u)) ((if Mm 5 u = 0 then some (0 : Int) else some 1).bind fun t32 => some (t32, wr Mm 100 0 0)) = some (Mm 5 u, wr Mm 100 0 0) := w_gdR (by omega) (by omega) (w_bind e2 rfl)
          exact go
    · refine ⟨(2, 0, Mc), (0, wr Mm 100 0 2), ?_, ?_, Or.inr (Or.inr rfl), rfl, fun q => absurd (show (2 : Nat) = 0 from q) (by decide), hR.thr 2⟩
      · unfold fX5_bubble
        exact w_bind (chB_y Mc hu) (w_t rfl (w_gd hz (w_f (by omega) (w_f (by omega) (w_f (by omega) (w_f (by omega) (w_f (by omega) rfl)))))))
      · unfold fX6_bubble
        exact w_bind (isBub_y Mm hu) (w_gd R1 (w_bind (t := 2) (w_f N1 (w_bind (in_no Mm hz R0 R4 (by omega)) (w_gd R0 (w_t rfl rfl)))) (w_bind (refk Mm (Or.inr rfl)) (w_gd R1 (w_f N1 rfl)))))
  · refine ⟨(1, 0, Mc), (0, wr Mm 100 0 1), ?_, ?_, Or.inr (Or.inl rfl), rfl, fun q => absurd (show (1 : Nat) = 0 from q) (by decide), hR.thr 1⟩
    · unfold fX5_bubble
      exact w_bind (chB_n Mc hy (by omega)) (w_f N1n rfl)
    · unfold fX6_bubble
      exact w_bind (isBub_n Mm hy (by omega)) (w_gd R0 (w_bind (t := 1) (w_t rfl rfl) (w_bind (refk Mm (Or.inl rfl)) (w_gd R1 (w_f N1 rfl)))))
