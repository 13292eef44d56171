/-! the search of the class for a piece -/
theorem raise {B t : Nat → Int} {x : Int} {j : Nat} (hG : GC (piP B x) idv t) (h0 : ∀ v, v < 36 → 0 ≤ t v) (S : Nat → Prop) (h1 : ∀ u, u < 36 → S u → B u = x ∧ t u = (j : Int)) (h2 : ∀ e, e < 60 → B (lo e) = x → B (hi e) = x → (S (lo e) ↔ S (hi e))) (h3 : ∀ u, u < 36 → S u → u ≠ j) : ∀ u, u < 36 → ¬ S u := by
  intro u hu hS
  obtain ⟨g, hg⟩ : ∃ g : Nat → Int, ∀ u, (S u → g u = t u + 1) ∧ (¬ S u → g u = t u) := ⟨fun u => @ite _ (S u) (Classical.propDecidable _) (t u + 1) (t u), fun u => ⟨fun h => if_pos h, fun h => if_neg h⟩⟩
  have gle : ∀ v, v < 36 → t v ≤ g v ∧ g v ≤ t v + 1 ∧ g v ≤ (v : Int) := by
    intro v hv
    have a := hG.2.1 v hv
    unfold idv at a
    by_cases q : S v
    · have b := (h1 v hv q).2
      have c := h3 v hv q
      rw [(hg v).1 q]
      omega
    · rw [(hg v).2 q]
      omega
  have hcl : CLo (piP B x) g := by
    intro e he
    have hl := lo_lt he
    have hh := hi_lt he
    have a := hG.1 e he
    have b1 := gle _ hl
    have b2 := gle _ hh
    have c1 := h0 _ hl
    have c2 := h0 _ hh
    unfold piP at a ⊢
    by_cases q : B (lo e) = x ∧ B (hi e) = x
    · rw [if_pos q] at a ⊢
      have z := h2 e he q.1 q.2
      by_cases s : S (lo e)
      · rw [(hg _).1 s, (hg _).1 (z.mp s)]; omega
      · rw [(hg _).2 s, (hg _).2 (fun y => s (z.mpr y))]; omega
    · rw [if_neg q]
      omega
  have k := hG.2.2 g hcl (fun v hv => by unfold idv; exact (gle v hv).2.2) u hu
  rw [(hg u).1 hS] at k
  omega
theorem inner_eq {B t : Nat → Int} {x : Int} (hG : CLo (piP B x) t) {e : Nat} (he : e < 60) (h1 : B (lo e) = x) (h2 : B (hi e) = x) : t (lo e) = t (hi e) := by
  have a := hG e he
  unfold piP at a
  rw [if_pos ⟨h1, h2⟩] at a
  omega
theorem cnt_lt {r : Nat → Int} (h : ∀ v, v < 36 → r v = 0 ∨ r v = 1) {u : Nat} (hu : u < 36) (h0 : r u = 0) : ss r 0 36 ≤ 35 := by
  have a := put_sum r 1 hu
  have b := ss_ub (f := put r u 1) (c := 1) 36 0 (fun i _ hi => by
    by_cases q : i = u
    · rw [q, put_at]; exact Int.le_refl _
    · rw [put_ne q]
      have := h i (by omega)
      omega)
  omega
theorem cnt_nn {r : Nat → Int} (h : ∀ v, v < 36 → r v = 0 ∨ r v = 1) : 0 ≤ ss r 0 36 := ss_nn 36 0 (fun i _ hi => by have := h i (by omega); omega)
theorem bes_oth {v s : Nat} (hv : v < 36) (hs : s < 4) (h : bes v s ≠ 60) : bes v s < 60 ∧ ((lo (bes v s) = v ∧ oth (bes v s) v = hi (bes v s)) ∨ (hi (bes v s) = v ∧ oth (bes v s) v = lo (bes v s))) := by
  rcases bes_inc v hv s hs with q | ⟨q, q2⟩
  · exact absurd q h
  · refine ⟨q, ?_⟩
    have z := lo_hi q
    rcases q2 with q2 | q2
    · exact Or.inl ⟨q2, by unfold oth; exact if_pos q2.symm⟩
    · exact Or.inr ⟨q2, by unfold oth; exact if_neg (by omega)⟩
/-- all inner neighbours of a node are seen -/
def SD (B : Nat → Int) (x : Int) (M : Mem) (w n : Nat) : Prop := ∀ s, s < n → bes w s ≠ 60 → B (oth (bes w s) w) = x → M 19 (oth (bes w s) w) = 1
def SeI (B t : Nat → Int) (x : Int) (k : Nat) (M0 M : Mem) (F : Nat) : Prop :=
  (∀ a, a ≠ 19 → a ≠ 20 → M a = M0 a) ∧ (∀ i, i < F → ∃ w : Nat, w < 36 ∧ M 20 i = (w : Int) ∧ B w = x ∧ M 19 w = 1 ∧ t w = (k : Int)) ∧ (∀ v, v < 36 → M 19 v = 0 ∨ M 19 v = 1) ∧ (∀ v, v < 36 → M 19 v = 1 → M0 19 v = 1 ∨ ∃ i, i < F ∧ M 20 i = (v : Int)) ∧ (∀ v, v < 36 → M0 19 v = 1 → M 19 v = 1) ∧ ss (M 19) 0 36 = ss (M0 19) 0 36 + F
theorem SeI.mark {B t : Nat → Int} {x : Int} {k F : Nat} {M0 M : Mem} (h : SeI B t x k M0 M F) {u : Nat} (hu : u < 36) (hz : M 19 u = 0) (hB : B u = x) (ht : t u = (k : Int)) : SeI B t x k M0 (wr (wr M 19 u 1) 20 F (u : Int)) (F + 1) := by
  obtain ⟨a1, a2, a3, a4, a5, a6⟩ := h
  have r19 : wr (wr M 19 u 1) 20 F (u : Int) 19 = put (M 19) u 1 := by rw [wr_row _ _ (by decide), wr_put]
  have r20 : wr (wr M 19 u 1) 20 F (u : Int) 20 = put (M 20) F (u : Int) := by rw [wr_put, wr_row _ _ (by decide)]
  refine ⟨fun a h1 h2 => by rw [wr_row _ _ h2, wr_row _ _ h1, a1 a h1 h2], fun i hi => ?_, fun v hv => ?_, fun v hv h => ?_, fun v hv h => ?_, ?_⟩
  · rw [r20, r19]
    by_cases q : i = F
    · exact ⟨u, hu, by rw [q, put_at], hB, put_at _ _ _, ht⟩
    · obtain ⟨w, w1, w2, w3, w4, w5⟩ := a2 i (by omega)
      refine ⟨w, w1, by rw [put_ne q]; exact w2, w3, ?_, w5⟩
      by_cases q2 : w = u
      · rw [q2, put_at]
      · rw [put_ne q2]; exact w4
  · rw [r19]
    by_cases q : v = u
    · rw [q, put_at]; exact Or.inr rfl
    · rw [put_ne q]; exact a3 v hv
  · rw [r19] at h
    rw [r20]
    by_cases q : v = u
    · exact Or.inr ⟨F, by omega, by rw [put_at, q]⟩
    · rw [put_ne q] at h
      rcases a4 v hv h with z | ⟨i, i1, i2⟩
      · exact Or.inl z
      · exact Or.inr ⟨i, by omega, by rw [put_ne (by omega)]; exact i2⟩
  · rw [r19]
    by_cases q : v = u
    · rw [q, put_at]
    · rw [put_ne q]; exact a5 v hv h
  · rw [r19, put_sum _ _ hu, a6, hz]
    omega
theorem seS_L {B t : Nat → Int} {x : Int} {k : Nat} {M0 : Mem} (hg : GR M0) (hB : ∀ v, v < 36 → M0 16 v = B v ∧ 0 ≤ B v ∧ B v < 8) (hk : k < 36) (hBk : B k = x) (hG : CLo (piP B x) t) (h19 : ∀ v, v < 36 → M0 19 v = 0 ∨ M0 19 v = 1) {w : Nat} (hw : w < 36) (hBw : B w = x) (htw : t w = (k : Int)) (x4 : Int) : ∀ (m s n : Nat) (M : Mem) (F : Nat), s + m = 4 → m < n → SeI B t x k M0 M F → SD B x M w s →
    ∃ (F' : Nat) (M' : Mem), fX1_seePiece_L44 n M (k : Int) (F : Int) x4 (w : Int) (s : Int) = some ((F' : Int), M') ∧ SeI B t x k M0 M' F' ∧ SD B x M' w 4 ∧ F ≤ F' ∧ (∀ i, i < F → M' 20 i = M 20 i) ∧ ∀ v, v < 36 → M 19 v = 1 → M' 19 v = 1 := by
  intro m
  induction m with
  | zero =>
    intro s n M F h hn hI hD
    obtain ⟨n, rfl⟩ : ∃ k, n = k + 1 := ⟨n - 1, by omega⟩
    have e : s = 4 := by omega
    subst e
    refine ⟨F, M, ?_, hI, hD, Nat.le_refl _, fun _ _ => rfl, fun _ _ h => h⟩
    rw [fX1_seePiece_L44]
    exact w_gdR (by omega) (by omega) (w_t (by omega) rfl)
  | succ m ih =>
    intro s n M F h hn hI hD
    obtain ⟨n, rfl⟩ : ∃ k, n = k + 1 := ⟨n - 1, by omega⟩
    have hs : s < 4 := by omega
    have hgM : GR M := by
      unfold GR
      rw [hI.1 0 (by decide) (by decide), hI.1 1 (by decide) (by decide), hI.1 2 (by decide) (by decide), hI.1 4 (by decide) (by decide)]
      exact hg
    have e16 : M 16 = M0 16 := hI.1 16 (by decide) (by decide)
    have hF : (F : Int) ≤ 36 := by
      have a := hI.2.2.2.2.2
      have b := cnt_nn h19
      have c := ss_ub (f := M 19) (c := 1) 36 0 (fun i _ hi => by have := hI.2.2.1 i (by omega); omega)
      omega
    -- nothing changes at this side
    have keep : (bes w s ≠ 60 → B (oth (bes w s) w) = x → M 19 (oth (bes w s) w) = 1) → (∀ r, fX1_seePiece_L44 n M (k : Int) (F : Int) x4 (w : Int) ((s : Int) + 1) = some r → fX1_seePiece_L44 (n + 1) M (k : Int) (F : Int) x4 (w : Int) (s : Int) = some r) → ∃ (F' : Nat) (M' : Mem), fX1_seePiece_L44 (n + 1) M (k : Int) (F : Int) x4 (w : Int) (s : Int) = some ((F' : Int), M') ∧ SeI B t x k M0 M' F' ∧ SD B x M' w 4 ∧ F ≤ F' ∧ (∀ i, i < F → M' 20 i = M 20 i) ∧ ∀ v, v < 36 → M 19 v = 1 → M' 19 v = 1 := by
      intro h1 h2
      obtain ⟨F', M', g1, g2⟩ := ih (s + 1) n M F (by omega) (by omega) hI (fun i hi q1 q2 => by
        by_cases q : i = s
        · rw [q] at q1 q2 ⊢; exact h1 q1 q2
        · exact hD i (by omega) q1 q2)
      rw [show ((s + 1 : Nat) : Int) = (s : Int) + 1 by omega] at g1
      exact ⟨F', M', h2 _ g1, g2⟩
    by_cases c : bes w s = 60
    · refine keep (fun q => absurd c q) (fun r hr => ?_)
      rw [fX1_seePiece_L44]
      refine w_gdR (by omega) (by omega) (w_f (by omega) (w_bind (gr_beside hgM hw hs) ?_))
      rw [if_pos c]
      exact w_gdR (by omega) (by omega) (w_bind (t := ((F : Int), M)) (w_t rfl rfl) hr)
    · obtain ⟨he, ho⟩ := bes_oth hw hs c
      have hu := oth_lt (v := w) he
      obtain ⟨u, hu0⟩ : ∃ u, u = oth (bes w s) w := ⟨_, rfl⟩
      have hcase : ∀ r1 : Int × Mem, (if M 16 u = M 16 k then (gd (inB (u : Int) 36) (gd (inR (M 19 u)) (if M 19 u = 0 then (gd (inR (F : Int)) (if 36 ≤ (F : Int) then (some ((F : Int), M)) else (gd (inB (u : Int) 36) (gd (inB (F : Int) 36) (some ((F : Int) + 1, (wr (wr M 19 u 1) 20 F (u : Int)))))))) else (some ((F : Int), M))))) else (some ((F : Int), M))) = some r1 → ∀ r, fX1_seePiece_L44 n r1.2 (k : Int) r1.1 x4 (w : Int) ((s : Int) + 1) = some r → fX1_seePiece_L44 (n + 1) M (k : Int) (F : Int) x4 (w : Int) (s : Int) = some r := by
        intro r1 h1 r h2
        have b1 := hB u (by omega)
        have b2 := hB k hk
        rw [fX1_seePiece_L44]
        refine w_gdR (by omega) (by omega) (w_f (by omega) (w_bind (gr_beside hgM hw hs) ?_))
        rw [if_neg c]
        refine w_gdR (by omega) (by omega) (w_bind (w_f (by omega) (w_bind (gr_other hgM he hw) ?_)) h2)
        rw [← hu0]
        refine w_gdB (by omega) (by omega) (w_gdB (by omega) (by omega) ?_)
        rw [Int.toNat_natCast, Int.toNat_natCast, Int.toNat_natCast]
        refine w_gdR (by rw [e16]; omega) (by rw [e16]; omega) (w_gdR (by rw [e16]; omega) (by rw [e16]; omega) h1)
      have hu36 : u < 36 := by omega
      by_cases d : B u = x
      · by_cases z : M 19 u = 0
        · have htu : t u = (k : Int) := by
            rcases ho with ⟨o1, o2⟩ | ⟨o1, o2⟩
            · have := inner_eq hG he (by rw [o1]; exact hBw) (by rw [← o2, ← hu0]; exact d)
              rw [o1, ← o2, ← hu0] at this
              rw [← this]; exact htw
            · have := inner_eq hG he (by rw [← o2, ← hu0]; exact d) (by rw [o1]; exact hBw)
              rw [o1, ← o2, ← hu0] at this
              rw [this]; exact htw
          have hF2 : (F : Int) < 36 := by
            have a := hI.2.2.2.2.2
            have b := cnt_nn h19
            have c2 := cnt_lt hI.2.2.1 hu36 z
            omega
          have hI2 := hI.mark hu36 z d htu
          have r19 : wr (wr M 19 u 1) 20 F (u : Int) 19 = put (M 19) u 1 := by rw [wr_row _ _ (by decide), wr_put]
          have r20 : wr (wr M 19 u 1) 20 F (u : Int) 20 = put (M 20) F (u : Int) := by rw [wr_put, wr_row _ _ (by decide)]
          have mono : ∀ v, v < 36 → M 19 v = 1 → wr (wr M 19 u 1) 20 F (u : Int) 19 v = 1 := fun v _ hv1 => by
            rw [r19]
            by_cases q : v = u
            · rw [q, put_at]
            · rw [put_ne q]; exact hv1
          obtain ⟨F', M', g1, g2, g3, g4, g5, g6⟩ := ih (s + 1) n _ (F + 1) (by omega) (by omega) hI2 (fun i hi q1 q2 => by
            by_cases q : i = s
            · rw [q, ← hu0, r19, put_at]
            · exact mono _ (oth_lt (bes_oth hw (by omega) q1).1) (hD i (by omega) q1 q2))
          rw [show ((s + 1 : Nat) : Int) = (s : Int) + 1 by omega, show ((F + 1 : Nat) : Int) = (F : Int) + 1 by omega] at g1
          refine ⟨F', M', hcase ((F : Int) + 1, wr (wr M 19 u 1) 20 F (u : Int)) ?_ _ g1, g2, g3, by omega, fun i hi => ?_, fun v hv hv1 => g6 v hv (mono v hv hv1)⟩
          · refine w_t (by rw [e16, (hB u hu36).1, (hB k hk).1, d, hBk]) (w_gdB (by omega) (by omega) (w_gdR (by omega) (by omega) (w_t z (w_gdR (by omega) (by omega) (w_f (by omega) (w_gdB (by omega) (by omega) (w_gdB (by omega) (by omega) rfl)))))))
          · rw [g5 i (by omega), r20, put_ne (by omega)]
        · have z1 := (hI.2.2.1 u hu36).resolve_left z
          refine keep (fun _ _ => by rw [← hu0]; exact z1) (hcase ((F : Int), M) ?_)
          exact w_t (by rw [e16, (hB u hu36).1, (hB k hk).1, d, hBk]) (w_gdB (by omega) (by omega) (w_gdR (by omega) (by omega) (w_f z rfl)))
      · refine keep (fun _ q => absurd (by rw [hu0]; exact q) d) (hcase ((F : Int), M) ?_)
        exact w_f (by rw [e16, (hB u hu36).1, (hB k hk).1, hBk]; exact d) rfl
theorem seQ_L {B t : Nat → Int} {x : Int} {k : Nat} {M0 : Mem} (hg : GR M0) (hB : ∀ v, v < 36 → M0 16 v = B v ∧ 0 ≤ B v ∧ B v < 8) (hk : k < 36) (hBk : B k = x) (hG : CLo (piP B x) t) (h19 : ∀ v, v < 36 → M0 19 v = 0 ∨ M0 19 v = 1) : ∀ (m j n : Nat) (M : Mem) (F : Nat), j + m = 36 → m < n → SeI B t x k M0 M F → (∀ i, i < j → i < F → ∀ w : Nat, w < 36 → M 20 i = (w : Int) → SD B x M w 4) →
    ∃ (F' : Nat) (M' : Mem), fX1_seePiece_L19 n M (k : Int) (F : Int) (j : Int) = some M' ∧ SeI B t x k M0 M' F' ∧ (∀ i, i < F' → ∀ w : Nat, w < 36 → M' 20 i = (w : Int) → SD B x M' w 4) ∧ F ≤ F' ∧ (∀ i, i < F → M' 20 i = M 20 i) := by
  intro m
  induction m with
  | zero =>
    intro j n M F h hn hI hD
    obtain ⟨n, rfl⟩ : ∃ k, n = k + 1 := ⟨n - 1, by omega⟩
    have hF : (F : Int) ≤ 36 := by
      have a := hI.2.2.2.2.2
      have b := cnt_nn h19
      have c := ss_ub (f := M 19) (c := 1) 36 0 (fun i _ hi => by have := hI.2.2.1 i (by omega); omega)
      omega
    refine ⟨F, M, ?_, hI, fun i hi => hD i (by omega) hi, Nat.le_refl _, fun _ _ => rfl⟩
    rw [fX1_seePiece_L19]
    exact w_gdR (by omega) (by omega) (w_t (by omega) rfl)
  | succ m ih =>
    intro j n M F h hn hI hD
    obtain ⟨n, rfl⟩ : ∃ k, n = k + 1 := ⟨n - 1, by omega⟩
    have hF : (F : Int) ≤ 36 := by
      have a := hI.2.2.2.2.2
      have b := cnt_nn h19
      have c := ss_ub (f := M 19) (c := 1) 36 0 (fun i _ hi => by have := hI.2.2.1 i (by omega); omega)
      omega
    by_cases c : F ≤ j
    · refine ⟨F, M, ?_, hI, fun i hi => hD i (by omega) hi, Nat.le_refl _, fun _ _ => rfl⟩
      rw [fX1_seePiece_L19]
      exact w_gdR (by omega) (by omega) (w_f (by omega) (w_gdR (by omega) (by omega) (w_t (by omega) rfl)))
    · obtain ⟨w, w1, w2, w3, w4, w5⟩ := hI.2.1 j (by omega)
      obtain ⟨F1, M1, s1, s2, s3, s4, s5, s6⟩ := seS_L hg hB hk hBk hG h19 w1 w3 w5 (j : Int) 4 0 FU M F (by omega) (by have := FU_big; omega) hI (fun s hs => absurd hs (by omega))
      obtain ⟨F', M', g1, g2, g3, g4, g5⟩ := ih (j + 1) n M1 F1 (by omega) (by omega) s2 (fun i hi hiF u hu hq => by
        by_cases q : i = j
        · have e : (u : Int) = (w : Int) := by
            rw [← hq, q, s5 j (by omega), w2]
          have e2 : u = w := by omega
          rw [e2]; exact s3
        · have old := hD i (by omega) (by omega) u hu (by rw [← s5 i (by omega)]; exact hq)
          intro s hs q1 q2
          exact s6 _ (oth_lt (bes_oth hu hs q1).1) (old s hs q1 q2))
      refine ⟨F', M', ?_, g2, g3, by omega, fun i hi => by rw [g5 i (by omega), s5 i hi]⟩
      rw [fX1_seePiece_L19]
      refine w_gdR (by omega) (by omega) (w_f (by omega) (w_gdR (by omega) (by omega) (w_f (by omega) (w_gdB (by omega) (by omega) ?_))))
      rw [Int.toNat_natCast, w2]
      refine w_bind s1 ?_
      rw [show (j : Int) + 1 = ((j + 1 : Nat) : Int) by omega]
      exact g1
/-- a search from the lowest node of a piece sees the whole piece -/
theorem seeC {B t : Nat → Int} {x : Int} {k : Nat} {M0 : Mem} (hg : GR M0) (hB : ∀ v, v < 36 → M0 16 v = B v ∧ 0 ≤ B v ∧ B v < 8) (hk : k < 36) (hBk : B k = x) (hG : GC (piP B x) idv t) (h0 : ∀ v, v < 36 → 0 ≤ t v) (h19 : ∀ v, v < 36 → M0 19 v = 0 ∨ M0 19 v = 1) (hs : ∀ v, v < 36 → (M0 19 v = 1 ↔ (B v = x ∧ t v < (k : Int)))) (htk : t k = (k : Int)) :
    ∃ M', fX1_seePiece M0 (k : Int) = some M' ∧ (∀ a, a ≠ 19 → a ≠ 20 → M' a = M0 a) ∧ (∀ v, v < 36 → M' 19 v = 0 ∨ M' 19 v = 1) ∧ ∀ v, v < 36 → (M' 19 v = 1 ↔ (B v = x ∧ t v < ((k + 1 : Nat) : Int))) := by
  have hz : M0 19 k = 0 := (h19 k hk).resolve_right (fun q => by have := ((hs k hk).mp q).2; omega)
  have hI0 : SeI B t x k M0 M0 0 := ⟨fun _ _ _ => rfl, fun i hi => absurd hi (by omega), h19, fun v _ h => Or.inl h, fun v _ h => h, by omega⟩
  have hI1 := hI0.mark hk hz hBk htk
  obtain ⟨F', M', g1, g2, g3, g4, g5⟩ := seQ_L hg hB hk hBk hG.1 h19 36 0 FU _ 1 (by omega) (by have := FU_big; omega) hI1 (fun i hi => absurd hi (by omega))
  have r20 : wr (wr M0 19 k 1) 20 0 (k : Int) 20 0 = (k : Int) := wr_at _ _ _ _
  have kseen : M' 19 k = 1 := by
    obtain ⟨w, w1, w2, w3, w4, w5⟩ := g2.2.1 0 (by omega)
    rw [g5 0 (by omega), r20] at w2
    have e : k = w := by omega
    rw [e]; exact w4
  have done : ∀ e, e < 60 → B (lo e) = x → B (hi e) = x → t (lo e) = (k : Int) → (M' 19 (lo e) = 1 ↔ M' 19 (hi e) = 1) := by
    intro e he b1 b2 htl
    have hl := lo_lt he
    have hh := hi_lt he
    have hte := inner_eq hG.1 he b1 b2
    have new : ∀ v, v < 36 → t v = (k : Int) → M' 19 v = 1 → SD B x M' v 4 := by
      intro v hv htv h1
      rcases g2.2.2.2.1 v hv h1 with q | ⟨i, i1, i2⟩
      · have := ((hs v hv).mp q).2
        omega
      · exact g3 i i1 v hv i2
    constructor
    · intro h1
      obtain ⟨s, s1, s2⟩ := inc_bes e he (lo e) hl (Or.inl rfl)
      have ho : oth (bes (lo e) s) (lo e) = hi e := by rw [s2]; unfold oth; exact if_pos rfl
      have := new _ hl htl h1 s s1 (by omega) (by rw [ho]; exact b2)
      rw [ho] at this
      exact this
    · intro h1
      obtain ⟨s, s1, s2⟩ := inc_bes e he (hi e) hh (Or.inr rfl)
      have hne := lo_hi he
      have ho : oth (bes (hi e) s) (hi e) = lo e := by rw [s2]; unfold oth; exact if_neg (by omega)
      have := new _ hh (by omega) h1 s s1 (by omega) (by rw [ho]; exact b1)
      rw [ho] at this
      exact this
  have none_left := raise hG h0 (j := k) (fun v => B v = x ∧ t v = (k : Int) ∧ M' 19 v ≠ 1) (fun u _ h => ⟨h.1, h.2.1⟩) (fun e he b1 b2 => by
    have hte := inner_eq hG.1 he b1 b2
    constructor
    · intro ⟨_, q1, q2⟩
      exact ⟨b2, by omega, fun z => q2 ((done e he b1 b2 q1).mpr z)⟩
    · intro ⟨_, q1, q2⟩
      exact ⟨b1, by omega, fun z => q2 ((done e he b1 b2 (by omega)).mp z)⟩) (fun u _ h q => h.2.2 (by rw [q]; exact kseen))
  refine ⟨M', ?_, g2.1, g2.2.2.1, fun v hv => ⟨fun h => ?_, fun ⟨h1, h2⟩ => ?_⟩⟩
  · unfold fX1_seePiece
    refine w_gdB (by omega) (by omega) ?_
    rw [Int.toNat_natCast]
    exact w_bind g1 rfl
  · rcases g2.2.2.2.1 v hv h with q | ⟨i, i1, i2⟩
    · have := (hs v hv).mp q
      exact ⟨this.1, by omega⟩
    · obtain ⟨w, w1, w2, w3, w4, w5⟩ := g2.2.1 i i1
      have e : v = w := by omega
      rw [e]
      exact ⟨w3, by omega⟩
  · by_cases q : t v < (k : Int)
    · exact g2.2.2.2.2.1 v hv ((hs v hv).mpr ⟨h1, q⟩)
    · exact Classical.byContradiction fun z => none_left v hv ⟨h1, by omega, z⟩
theorem piK_L {B t : Nat → Int} {x : Int} {Mi : Mem} (hg : GR Mi) (hB : ∀ v, v < 36 → Mi 16 v = B v ∧ 0 ≤ B v ∧ B v < 8) (hx : inR x) (hG : GC (piP B x) idv t) (h0 : ∀ v, v < 36 → 0 ≤ t v) : ∀ (m k n : Nat) (M : Mem) (s : Int), k + m = 36 → m < n → (∀ a, a ≠ 19 → a ≠ 20 → M a = Mi a) → (∀ v, v < 36 → M 19 v = 0 ∨ M 19 v = 1) → (∀ v, v < 36 → (M 19 v = 1 ↔ (B v = x ∧ t v < (k : Int)))) →
    ∃ M', fX1_pieces_L26 n M x s (k : Int) = some (s + ss (piN B t x) k m, M') ∧ ∀ a, a ≠ 19 → a ≠ 20 → M' a = Mi a := by
  intro m
  induction m with
  | zero =>
    intro k n M s h hn ha h19 hs
    obtain ⟨n, rfl⟩ : ∃ k, n = k + 1 := ⟨n - 1, by omega⟩
    refine ⟨M, ?_, ha⟩
    clear hs
    rw [fX1_pieces_L26, ss, Int.add_zero]
    exact w_gdR (by omega) (by omega) (w_t (by omega) rfl)
  | succ m ih =>
    intro k n M s h hn ha h19 hs
    obtain ⟨n, rfl⟩ : ∃ k, n = k + 1 := ⟨n - 1, by omega⟩
    have hk : k < 36 := by omega
    have hgM : GR M := by
      unfold GR
      rw [ha 0 (by decide) (by decide), ha 1 (by decide) (by decide), ha 2 (by decide) (by decide), ha 4 (by decide) (by decide)]
      exact hg
    have e16 : M 16 = Mi 16 := ha 16 (by decide) (by decide)
    have hBk := hB k hk
    have h19k := h19 k hk
    have htk := hG.2.1 k hk
    unfold idv at htk
    have go : ∀ (d : Int) (M1 : Mem), piN B t x k = d → (if M 16 k = x then (gd (inB (k : Int) 36) (gd (inR (M 19 k)) (if M 19 k = 0 then (Option.bind (fX1_seePiece M (k : Int)) (fun t17 => some (s + 1, t17))) else (some (s, M))))) else (some (s, M))) = some (s + d, M1) → (∀ a, a ≠ 19 → a ≠ 20 → M1 a = Mi a) → (∀ v, v < 36 → M1 19 v = 0 ∨ M1 19 v = 1) → (∀ v, v < 36 → (M1 19 v = 1 ↔ (B v = x ∧ t v < ((k + 1 : Nat) : Int)))) → ∃ M', fX1_pieces_L26 (n + 1) M x s (k : Int) = some (s + ss (piN B t x) k (m + 1), M') ∧ ∀ a, a ≠ 19 → a ≠ 20 → M' a = Mi a := by
      intro d M1 hd h1 h2 h3 h4
      obtain ⟨M', g1, g2⟩ := ih (k + 1) n M1 (s + d) (by omega) (by omega) h2 h3 h4
      refine ⟨M', ?_, g2⟩
      clear h4 hs
      rw [fX1_pieces_L26]
      refine w_gdR (by omega) (by omega) (w_f (by omega) (w_gdB (by omega) (by omega) ?_))
      rw [Int.toNat_natCast]
      refine w_gdR (by rw [e16]; omega) (by rw [e16]; omega) (w_gd hx (w_bind h1 ?_))
      rw [show (k : Int) + 1 = ((k + 1 : Nat) : Int) by omega, ss, hd, ← Int.add_assoc]
      exact g1
    by_cases q : B k = x
    · by_cases z : M 19 k = 0
      · have hge : ¬ t k < (k : Int) := fun y => by have := (hs k hk).mpr ⟨q, y⟩; omega
        have hte : t k = (k : Int) := by omega
        obtain ⟨M1, a1, a2, a3, a4⟩ := seeC hgM (fun v hv => by rw [e16]; exact hB v hv) hk q hG h0 h19 hs hte
        refine go 1 M1 ?_ ?_ (fun a b c => (a2 a b c).trans (ha a b c)) a3 a4
        · unfold piN
          rw [if_pos q, if_pos hte]
        · exact w_t (by rw [e16, hBk.1]; exact q) (w_gdB (by omega) (by omega) (w_gdR (by omega) (by omega) (w_t z (w_bind a1 rfl))))
      · have z1 := h19k.resolve_left z
        have hlt := ((hs k hk).mp z1).2
        refine go 0 M ?_ ?_ ha h19 (fun v hv => (hs v hv).trans ⟨fun y => ⟨y.1, by omega⟩, fun y => ⟨y.1, ?_⟩⟩)
        · unfold piN
          rw [if_pos q, if_neg (by omega)]
        · rw [Int.add_zero]
          exact w_t (by rw [e16, hBk.1]; exact q) (w_gdB (by omega) (by omega) (w_gdR (by omega) (by omega) (w_f z rfl)))
        · by_cases e : t v < (k : Int)
          · exact e
          · have ev : t v = (k : Int) := by omega
            exact absurd ⟨y.1, ev⟩ (raise hG h0 (j := k) (fun v => B v = x ∧ t v = (k : Int)) (fun u _ h => h) (fun e he b1 b2 => by
              have hte := inner_eq hG.1 he b1 b2
              exact ⟨fun y => ⟨b2, by omega⟩, fun y => ⟨b1, by omega⟩⟩) (fun u _ h y => by rw [y] at h; omega) v hv)
    · refine go 0 M ?_ ?_ ha h19 (fun v hv => (hs v hv).trans ⟨fun y => ⟨y.1, by omega⟩, fun y => ⟨y.1, ?_⟩⟩)
      · unfold piN
        exact if_neg q
      · rw [Int.add_zero]
        exact w_f (by rw [e16, hBk.1]; exact q) rfl
      · by_cases e : t v < (k : Int)
        · exact e
        · have ev : t v = (k : Int) := by omega
          exact absurd ⟨y.1, ev⟩ (raise hG h0 (j := k) (fun v => B v = x ∧ t v = (k : Int)) (fun u _ h => h) (fun e he b1 b2 => by
            have hte := inner_eq hG.1 he b1 b2
            exact ⟨fun y => ⟨b2, by omega⟩, fun y => ⟨b1, by omega⟩⟩) (fun u _ h y => by rw [y] at h; exact q h.1) v hv)
theorem piZ_L {Mi : Mem} (x : Int) : ∀ (m k n : Nat) (M : Mem), k + m = 36 → m < n → onlyRow Mi M 19 0 → (∀ v, v < k → M 19 v = 0) →
    ∃ M', fX1_pieces_L2 n M x (k : Int) = some M' ∧ onlyRow Mi M' 19 0 ∧ ∀ v, v < 36 → M' 19 v = 0 := by
  intro m
  induction m with
  | zero =>
    intro k n M h hn ho hk
    obtain ⟨n, rfl⟩ : ∃ k, n = k + 1 := ⟨n - 1, by omega⟩
    refine ⟨M, ?_, ho, fun v hv => hk v (by omega)⟩
    rw [fX1_pieces_L2]
    exact w_gdR (by omega) (by omega) (w_t (by omega) rfl)
  | succ m ih =>
    intro k n M h hn ho hk
    obtain ⟨n, rfl⟩ : ∃ k, n = k + 1 := ⟨n - 1, by omega⟩
    obtain ⟨M', k1, k2⟩ := ih (k + 1) n (wr M 19 k 0) (by omega) (by omega) (ho.trans (only_wr0 M 19 _ (by omega))) (fun v hv => by
      rw [wr_put]
      by_cases q : v = k
      · rw [q, put_at]
      · rw [put_ne q]; exact hk v (by omega))
    refine ⟨M', ?_, k2⟩
    rw [fX1_pieces_L2]
    refine w_gdR (by omega) (by omega) (w_f (by omega) (w_gdB (by omega) (by omega) ?_))
    rw [show (k : Int) + 1 = ((k + 1 : Nat) : Int) by omega, Int.toNat_natCast]
    exact k1
theorem pieJ {Mc Mm : Mem} (hR : Rl Mc Mm) {x : Nat} (hx : x < 8) : ∃ (r : Int) (C M : Mem), fX1_pieces Mc (x : Int) = some (r, C) ∧ fX6_piecesOf Mm (x : Int) = some (r, M) ∧ M 100 = Mm 100 ∧ Rl C M := by
  obtain ⟨t, hG, h0⟩ := GC_ex (p := piP (Mm 4) (x : Int)) (f := idv) (fun e _ => piP_nn _ _ e) (fun v _ => by unfold idv; omega)
  obtain ⟨M, m1, m2⟩ := piM hR.bubs (x := (x : Int)) ⟨by omega, by omega⟩ hG h0
  obtain ⟨C1, z1, z2, z3⟩ := piZ_L (Mi := Mc) (x : Int) 36 0 FU Mc (by omega) (by have := FU_big; omega) (onlyRow.refl _ _ _) (fun v hv => absurd hv (by omega))
  have hb := hR.2.2.2.2.2.2.2.1
  have hg1 : GR C1 := by
    have g := hR.1
    unfold GR at g ⊢
    rw [z2.arr (by decide), z2.arr (by decide), z2.arr (by decide), z2.arr (by decide)]
    exact g
  obtain ⟨C, c1, c2⟩ := piK_L (B := Mm 4) (t := t) (Mi := C1) hg1 (fun v hv => by rw [z2.arr (by decide)]; exact hb v hv) (x := (x : Int)) ⟨by omega, by omega⟩ hG h0 36 0 FU C1 0 (by omega) (by have := FU_big; omega) (fun _ _ _ => rfl) (fun v hv => Or.inl (z3 v hv)) (fun v hv => ⟨fun q => by rw [z3 v hv] at q; exact absurd q (by decide), fun q => by have := h0 v hv; omega⟩)
  rw [Int.zero_add] at c1
  refine ⟨_, C, M, ?_, m1, m2.arr (by decide), hR.keep (fun a ha => ?_) (fun a ha => m2.arr (by intro q; subst q; revert ha; decide))⟩
  · unfold fX1_pieces
    exact w_bind z1 (w_bind c1 rfl)
  · have n19 : a ≠ 19 := by intro q; subst q; revert ha; decide
    have n20 : a ≠ 20 := by intro q; subst q; revert ha; decide
    rw [c2 a n19 n20, z2.arr n19]
