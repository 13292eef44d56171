/-! the bits of a long: sets of nodes -/
def bitB (x : Int64) (v : Nat) : Bool := x.toBitVec.getLsbD v
def b01 (x : Int64) (v : Nat) : Int := if bitB x v = true then 1 else 0
theorem amU : ∀ v : Nat, v < 64 → (((Int32.ofInt (v : Int)).toInt64.toUInt64 &&& Int64.toUInt64 63).toBitVec % 64).toNat = v := by decide +kernel
theorem amS : ∀ v : Nat, v < 64 → (((Int32.ofInt (v : Int)).toInt64 &&& 63).toBitVec.smod 64).toNat = v := by decide +kernel
theorem bit_u (x : Int64) {v : Nat} (hv : v < 36) : (llushr x (v : Int)) &&& 1 = if bitB x v = true then 1 else 0 := by
  refine Int64.toBitVec_inj.mp (BitVec.eq_of_getLsbD_eq fun i hi => ?_)
  show ((x.toBitVec >>> (((Int32.ofInt (v : Int)).toInt64.toUInt64 &&& Int64.toUInt64 63).toBitVec % 64)) &&& (1#64)).getLsbD i = _
  rw [BitVec.getLsbD_and, BitVec.ushiftRight_eq', amU v (by omega), BitVec.getLsbD_ushiftRight, BitVec.getLsbD_one]
  by_cases b : bitB x v = true
  · rw [if_pos b]
    show _ = (1#64).getLsbD i
    rw [BitVec.getLsbD_one]
    unfold bitB at b
    by_cases i0 : i = 0
    · rw [i0, Nat.add_zero, b]; rfl
    · simp [i0]
  · rw [if_neg b]
    show _ = (0#64).getLsbD i
    unfold bitB at b
    by_cases i0 : i = 0
    · rw [i0, Nat.add_zero]
      simp at b
      simp [b]
    · simp [i0]
theorem bit_s (x : Int64) {v : Nat} (hv : v < 36) : (llshr x (v : Int)) &&& 1 = if bitB x v = true then 1 else 0 := by
  refine Int64.toBitVec_inj.mp (BitVec.eq_of_getLsbD_eq fun i hi => ?_)
  show ((x.toBitVec.sshiftRight' (((Int32.ofInt (v : Int)).toInt64 &&& 63).toBitVec.smod 64)) &&& (1#64)).getLsbD i = _
  rw [BitVec.getLsbD_and, BitVec.getLsbD_sshiftRight', amS v (by omega), BitVec.getLsbD_one]
  by_cases b : bitB x v = true
  · rw [if_pos b]
    show _ = (1#64).getLsbD i
    rw [BitVec.getLsbD_one]
    unfold bitB at b
    by_cases i0 : i = 0
    · rw [i0, Nat.add_zero, if_pos (show v < 64 by omega), b]; rfl
    · simp [i0]
  · rw [if_neg b]
    show _ = (0#64).getLsbD i
    unfold bitB at b
    by_cases i0 : i = 0
    · rw [i0, Nat.add_zero, if_pos (show v < 64 by omega)]
      simp at b
      simp [b]
    · simp [i0]
theorem zlcmp_val (x y : Int64) : zlcmp x y = if y.toInt < x.toInt then 1 else if x.toInt = y.toInt then 0 else -1 := by
  unfold zlcmp lg_cmp
  by_cases c : y.toInt < x.toInt
  · rw [if_pos c, if_pos (show x > y from Int64.lt_iff_toInt_lt.mpr c)]
    rfl
  · rw [if_neg c, if_neg (show ¬ x > y from fun q => c (Int64.lt_iff_toInt_lt.mp q))]
    by_cases d : x.toInt = y.toInt
    · rw [if_pos d, if_pos (Int64.toInt_inj.mp d)]
      rfl
    · rw [if_neg d, if_neg (fun q => d (congrArg _ q))]
      rfl
theorem zlcmp_iff {x y : Int64} : zlcmp x y = 0 ↔ x = y := by
  rw [zlcmp_val]
  by_cases c : y.toInt < x.toInt
  · rw [if_pos c]
    exact ⟨fun q => absurd q (by decide), fun q => by rw [q] at c; omega⟩
  · rw [if_neg c]
    by_cases d : x.toInt = y.toInt
    · rw [if_pos d]
      exact ⟨fun _ => Int64.toInt_inj.mp d, fun _ => rfl⟩
    · rw [if_neg d]
      exact ⟨fun q => absurd q (by decide), fun q => absurd (congrArg _ q) d⟩
theorem b01_01 (x : Int64) (v : Nat) : b01 x v = 0 ∨ b01 x v = 1 := by
  unfold b01
  split
  · exact Or.inr rfl
  · exact Or.inl rfl
theorem hasC (M : Mem) (x : Int64) {v : Nat} (hv : v < 36) : fX0_has M x (v : Int) = some (b01 x v) := by
  unfold fX0_has
  rw [bit_u x hv]
  unfold b01
  by_cases b : bitB x v = true
  · rw [if_pos b, if_pos b]
    exact w_bind (t := 1) (w_f (by decide) rfl) (w_gd (Or.inr rfl) rfl)
  · rw [if_neg b, if_neg b]
    exact w_bind (t := 0) (w_t (by decide) rfl) (w_gd (Or.inl rfl) rfl)
theorem prC_L {M : Mem} (hg : GR M) (x : Int64) : ∀ (m e n : Nat) (s : Int), e + m = 60 → m < n → fX0_priceOf_L6 n M x s (e : Int) = some (s + ss (fun i => if b01 x (lo i) = b01 x (hi i) then 0 else M 4 i) e m) := by
  intro m
  induction m with
  | zero =>
    intro e n s h hn
    obtain ⟨n, rfl⟩ : ∃ k, n = k + 1 := ⟨n - 1, by omega⟩
    rw [fX0_priceOf_L6, ss, Int.add_zero]
    exact w_gdR (by omega) (by omega) (w_t (by omega) rfl)
  | succ m ih =>
    intro e n s h hn
    obtain ⟨n, rfl⟩ : ∃ k, n = k + 1 := ⟨n - 1, by omega⟩
    have he : e < 60 := by omega
    have c1 := b01_01 x (lo e)
    have c2 := b01_01 x (hi e)
    rw [fX0_priceOf_L6]
    refine w_gdR (by omega) (by omega) (w_f (by omega) (w_bind (gr_low hg he) (w_bind (hasC M x (lo_lt he)) (w_bind (gr_high hg he) (w_bind (hasC M x (hi_lt he)) (w_gdR (by omega) (by omega) (w_gdR (by omega) (by omega) (w_bind (t := s + (if b01 x (lo e) = b01 x (hi e) then 0 else M 4 e)) ?_ ?_))))))))
    · by_cases q : b01 x (lo e) = b01 x (hi e)
      · exact Eq.trans (w_t q rfl) (congrArg some (by rw [if_pos q, Int.add_zero]))
      · exact Eq.trans (w_f q (w_bind (gr_price he) rfl)) (congrArg some (by rw [if_neg q]))
    · rw [show (e : Int) + 1 = ((e + 1 : Nat) : Int) by omega, ih (e + 1) n _ (by omega) (by omega), ss, Int.add_assoc]
theorem prC {M : Mem} (hg : GR M) (x : Int64) : fX0_priceOf M x = some (enS (M 4) (b01 x)) := by
  have h := prC_L hg x 60 0 FU 0 (by omega) (by have := FU_big; omega)
  rw [Int.zero_add] at h
  unfold fX0_priceOf
  exact w_bind h rfl
def filmP (pn b : Nat → Int) : Prop := ∀ v, v < 36 → pn v ≠ (if b v = 0 then 1 else 2)
theorem ifC_L {M : Mem} (x : Int64) (hp : ∀ v, v < 36 → inR (M 12 v)) : ∀ (m k n : Nat), k + m = 36 → m < n → (∀ v, v < k → M 12 v ≠ (if b01 x v = 0 then 1 else 2)) →
    (filmP (M 12) (b01 x) ∧ fX0_isFilm_L2 n M x (k : Int) = some (.inr ())) ∨ (¬ filmP (M 12) (b01 x) ∧ fX0_isFilm_L2 n M x (k : Int) = some (.inl 0)) := by
  intro m
  induction m with
  | zero =>
    intro k n h hn hk
    obtain ⟨n, rfl⟩ : ∃ k, n = k + 1 := ⟨n - 1, by omega⟩
    refine Or.inl ⟨fun v hv => hk v (by omega), ?_⟩
    rw [fX0_isFilm_L2]
    exact w_gdR (by omega) (by omega) (w_t (by omega) rfl)
  | succ m ih =>
    intro k n h hn hk
    obtain ⟨n, rfl⟩ : ∃ k, n = k + 1 := ⟨n - 1, by omega⟩
    have c1 := b01_01 x k
    have hpk := hp k (by omega)
    have front : ∀ (r : (Int) ⊕ (Unit)), (if M 12 k = (if b01 x k = 0 then 1 else 2) then some (.inl 0) else fX0_isFilm_L2 n M x ((k : Int) + 1)) = some r → fX0_isFilm_L2 (n + 1) M x (k : Int) = some r := by
      intro r hr
      rw [fX0_isFilm_L2]
      refine w_gdR (by omega) (by omega) (w_f (by omega) (w_gdB (by omega) (by omega) (w_bind (hasC M x (by omega)) (w_gdR (by omega) (by omega) (w_bind (t := if b01 x k = 0 then 1 else 2) ?_ ?_)))))
      · by_cases q : b01 x k = 0
        · exact Eq.trans (w_t q rfl) (congrArg some (by rw [if_pos q]))
        · exact Eq.trans (w_f q rfl) (congrArg some (by rw [if_neg q]))
      · rw [Int.toNat_natCast]
        exact w_gd hpk (w_gdR (by split <;> omega) (by split <;> omega) hr)
    by_cases q : M 12 k = (if b01 x k = 0 then 1 else 2)
    · exact Or.inr ⟨fun z => z k (by omega) q, front _ (w_t q rfl)⟩
    · rcases ih (k + 1) n (by omega) (by omega) (fun v hv => by
        by_cases e : v = k
        · rw [e]; exact q
        · exact hk v (by omega)) with ⟨a, b⟩ | ⟨a, b⟩
      · exact Or.inl ⟨a, front _ (w_f q b)⟩
      · exact Or.inr ⟨a, front _ (w_f q b)⟩
theorem ifC {M : Mem} (x : Int64) (hp : ∀ v, v < 36 → inR (M 12 v)) : (filmP (M 12) (b01 x) ∧ fX0_isFilm M x = some 1) ∨ (¬ filmP (M 12) (b01 x) ∧ fX0_isFilm M x = some 0) := by
  unfold fX0_isFilm
  rcases ifC_L x hp 36 0 FU (by omega) (by have := FU_big; omega) (fun v hv => absurd hv (by omega)) with ⟨a, b⟩ | ⟨a, b⟩
  · exact Or.inl ⟨a, w_bind b rfl⟩
  · exact Or.inr ⟨a, w_bind b rfl⟩
theorem ifM_L {M : Mem} (x : Int64) (hp : ∀ v, v < 36 → inR (M 3 v)) : ∀ (m k n : Nat) (b : Int), k + m = 36 → m < n → (b = 0 ∨ b = 1) → (b = 1 ↔ ∀ v, v < k → M 3 v ≠ (if b01 x v = 0 then 1 else 2)) →
    ∃ r, fX6_costOf_L33 n M x b (k : Int) = some r ∧ (r = 0 ∨ r = 1) ∧ (r = 1 ↔ filmP (M 3) (b01 x)) := by
  intro m
  induction m with
  | zero =>
    intro k n b h hn hb hk
    obtain ⟨n, rfl⟩ : ∃ k, n = k + 1 := ⟨n - 1, by omega⟩
    have e : k = 36 := by omega
    subst e
    refine ⟨b, ?_, hb, hk⟩
    clear hk
    rw [fX6_costOf_L33]
    exact w_gdR (by omega) (by omega) (w_t (by omega) rfl)
  | succ m ih =>
    intro k n b h hn hb hk
    obtain ⟨n, rfl⟩ : ∃ k, n = k + 1 := ⟨n - 1, by omega⟩
    have c1 := b01_01 x k
    have hpk := hp k (by omega)
    have bit : (if zlcmp ((llshr x (k : Int)) &&& 1) 1 = 0 then some (1 : Int) else some 0) = some (b01 x k) := by
      rw [bit_s x (by omega)]
      unfold b01
      by_cases q : bitB x k = true
      · rw [if_pos q, if_pos q]; exact w_t (by decide) rfl
      · rw [if_neg q, if_neg q]; exact w_f (by decide) rfl
    have key : ∃ y, (y = 0 ∨ y = 1) ∧ (y = 1 ↔ ∀ v, v < k + 1 → M 3 v ≠ (if b01 x v = 0 then 1 else 2)) ∧ (if b = 0 then (some (0 : Int)) else (gd (inB (k : Int) 36) (gd (inR (b01 x k)) (Option.bind (if b01 x k = 0 then (some (1)) else (some (2))) (fun t21 => gd (inR (M 3 k)) (gd (inR (t21)) (if M 3 k = t21 then (some (0)) else (some (1))))))))) = some y := by
      have t21 : (if b01 x k = 0 then (some (1 : Int)) else (some (2))) = some (if b01 x k = 0 then 1 else 2) := by
        by_cases q : b01 x k = 0
        · rw [if_pos q, if_pos q]
        · rw [if_neg q, if_neg q]
      rcases hb with rfl | rfl
      · refine ⟨0, Or.inl rfl, ⟨fun q => absurd q (by decide), fun q => hk.mpr (fun v hv => q v (by omega))⟩, w_t rfl rfl⟩
      · by_cases q : M 3 k = (if b01 x k = 0 then 1 else 2)
        · exact ⟨0, Or.inl rfl, ⟨fun z => absurd z (by decide), fun z => absurd q (z k (by omega))⟩, w_f N1 (w_gdB (by omega) (by omega) (w_gdR (by omega) (by omega) (w_bind t21 (w_gd hpk (w_gdR (by split <;> omega) (by split <;> omega) (w_t q rfl))))))⟩
        · refine ⟨1, Or.inr rfl, ⟨fun _ v hv => ?_, fun _ => rfl⟩, w_f N1 (w_gdB (by omega) (by omega) (w_gdR (by omega) (by omega) (w_bind t21 (w_gd hpk (w_gdR (by split <;> omega) (by split <;> omega) (w_f q rfl))))))⟩
          by_cases e : v = k
          · rw [e]; exact q
          · exact hk.mp rfl v (by omega)
    clear hk
    obtain ⟨y, y1, y2, y3⟩ := key
    obtain ⟨r, g1, g2⟩ := ih (k + 1) n y (by omega) (by omega) y1 y2
    refine ⟨r, ?_, g2⟩
    clear y2
    rw [fX6_costOf_L33]
    refine w_gdR (by omega) (by omega) (w_f (by omega) (w_bind bit (w_gdR (by omega) (by omega) (w_bind (t := y) ?_ ?_))))
    · rw [Int.toNat_natCast]; exact y3
    · rw [show (k : Int) + 1 = ((k + 1 : Nat) : Int) by omega]; exact g1
theorem prM_L {M : Mem} (x : Int64) (x3 : Int) : ∀ (m e n : Nat) (s : Int), e + m = 60 → m < n → fX6_costOf_L100 n M x x3 s (e : Int) = some (s + ss (fun i => if b01 x (lo i) = b01 x (hi i) then 0 else coM M i) e m) := by
  intro m
  induction m with
  | zero =>
    intro e n s h hn
    obtain ⟨n, rfl⟩ : ∃ k, n = k + 1 := ⟨n - 1, by omega⟩
    rw [fX6_costOf_L100, ss, Int.add_zero]
    exact w_gdR (by omega) (by omega) (w_t (by omega) rfl)
  | succ m ih =>
    intro e n s h hn
    obtain ⟨n, rfl⟩ : ∃ k, n = k + 1 := ⟨n - 1, by omega⟩
    have he : e < 60 := by omega
    rw [fX6_costOf_L100]
    refine w_gdR (by omega) (by omega) (w_f (by omega) (w_bind (m_first M he) (w_bind (m_second M he) (w_bind (t := if b01 x (lo e) = b01 x (hi e) then 0 else coM M e) ?_ ?_))))
    · rw [bit_s x (lo_lt he), bit_s x (hi_lt he)]
      unfold b01
      by_cases p : bitB x (lo e) = true
      · by_cases q : bitB x (hi e) = true
        · rw [if_pos p, if_pos q, if_pos p, if_pos q, if_pos rfl]; exact w_t (by decide) rfl
        · rw [if_pos p, if_neg q, if_pos p, if_neg q]; exact Eq.trans (w_f (fun z => absurd (zlcmp_iff.mp z) (by decide)) (w_bind (m_cost M he) rfl)) (congrArg some (if_neg (show ¬ (1 : Int) = 0 by decide)).symm)
      · by_cases q : bitB x (hi e) = true
        · rw [if_neg p, if_pos q, if_neg p, if_pos q]; exact Eq.trans (w_f (fun z => absurd (zlcmp_iff.mp z) (by decide)) (w_bind (m_cost M he) rfl)) (congrArg some (if_neg (show ¬ (0 : Int) = 1 by decide)).symm)
        · rw [if_neg p, if_neg q, if_neg p, if_neg q, if_pos rfl]; exact w_t (by decide) rfl
    · rw [show (e : Int) + 1 = ((e + 1 : Nat) : Int) by omega, ih (e + 1) n _ (by omega) (by omega), ss, Int.add_assoc]
theorem am36 : (((Int32.ofInt 36).toInt64.toUInt64 &&& Int64.toUInt64 63).toBitVec % 64).toNat = 36 := by decide +kernel
theorem ok36 (x : Int64) : (zlcmp (llushr x 36) 0 = 0 ∧ 0 ≤ x.toInt ∧ x.toInt < 68719476736) ∨ (zlcmp (llushr x 36) 0 ≠ 0 ∧ (x.toInt < 0 ∨ 68719476736 ≤ x.toInt)) := by
  have e1 : x.toInt = x.toBitVec.toInt := rfl
  have e2 := BitVec.toInt_eq_toNat_cond x.toBitVec
  have e3 : (llushr x 36).toBitVec.toNat = x.toBitVec.toNat / 68719476736 := by
    show (x.toBitVec >>> (((Int32.ofInt 36).toInt64.toUInt64 &&& Int64.toUInt64 63).toBitVec % 64)).toNat = _
    rw [BitVec.ushiftRight_eq', am36, BitVec.toNat_ushiftRight, Nat.shiftRight_eq_div_pow]
  have e4 : x.toBitVec.toNat < 18446744073709551616 := x.toBitVec.isLt
  have e5 : zlcmp (llushr x 36) 0 = 0 ↔ x.toBitVec.toNat / 68719476736 = 0 := by
    rw [zlcmp_iff, ← e3]
    exact ⟨fun q => by rw [q]; rfl, fun q => Int64.toBitVec_inj.mp (BitVec.eq_of_toNat_eq q)⟩
  rw [e1, e2]
  by_cases c : x.toBitVec.toNat / 68719476736 = 0
  · refine Or.inl ⟨e5.mpr c, ?_⟩
    rw [if_pos (show 2 * x.toBitVec.toNat < 2 ^ 64 by omega)]
    omega
  · refine Or.inr ⟨fun q => c (e5.mp q), ?_⟩
    by_cases d : 2 * x.toBitVec.toNat < 2 ^ 64
    · rw [if_pos d]; omega
    · rw [if_neg d]
      left
      have : ((2 ^ 64 : Nat) : Int) = 18446744073709551616 := by decide
      omega
theorem F_costOf : Fc_costOf Rl := by
  intro Mc Mm y0 hR
  have h0 := hR.thr 0
  have hp := hR.2.2.2.2.2.2.1
  have z0 : (0 : Int64).toInt = 0 := rfl
  have z36 : (68719476736 : Int64).toInt = 68719476736 := rfl
  rcases ok36 y0 with ⟨a, b, c⟩ | ⟨a, b⟩
  · have hpC : ∀ v, v < 36 → inR (Mc 12 v) := fun v hv => ⟨by have := hp v hv; omega, by have := hp v hv; omega⟩
    have hpM : ∀ v, v < 36 → inR (Mm 3 v) := fun v hv => ⟨by have := hp v hv; omega, by have := hp v hv; omega⟩
    obtain ⟨r, m1, m2, m3⟩ := ifM_L (M := wr Mm 100 0 0) y0 hpM 36 0 FU 1 (by omega) (by have := FU_big; omega) (Or.inr rfl) ⟨fun _ v hv => absurd hv (by omega), fun _ => rfl⟩
    have pM := prM_L (M := wr Mm 100 0 0) y0 r 60 0 FU 0 (by omega) (by have := FU_big; omega)
    rw [Int.zero_add] at pM
    have same : enS (Mc 4) (b01 y0) = ss (fun i => if b01 y0 (lo i) = b01 y0 (hi i) then 0 else coM (wr Mm 100 0 0) i) 0 60 := by
      unfold enS
      refine ss_congr 60 0 (fun e _ he => ?_)
      rw [(h0.2.2.2.1 e (by omega)).2]
    have fp : filmP (Mc 12) (b01 y0) ↔ filmP (wr Mm 100 0 0 3) (b01 y0) := ⟨fun q v hv => by show Mm 3 v ≠ _; rw [← (hp v hv).1]; exact q v hv, fun q v hv => by rw [(hp v hv).1]; exact q v hv⟩
    have head : ∀ (out : Int), (if r = 0 then some (-1 : Int) else some (ss (fun i => if b01 y0 (lo i) = b01 y0 (hi i) then 0 else coM (wr Mm 100 0 0) i) 0 60)) = some out → fX6_costOf Mm y0 = some (out, wr Mm 100 0 0) := by
      intro out ho
      unfold fX6_costOf
      refine w_bind (t := 0) ?_ (w_bind (ref0 Mm) (w_gd R0 (w_t rfl (w_bind m1 (w_bind pM (w_gdR (by omega) (by omega) (w_bind ho rfl)))))))
      rw [zlcmp_val, zlcmp_val, z0, z36]
      refine w_f ?_ (w_f ?_ rfl)
      · split
        · decide
        · split
          · decide
          · omega
      · split
        · omega
        · split
          · omega
          · decide
    rcases ifC y0 hpC with ⟨f1, f2⟩ | ⟨f1, f2⟩
    · have hr : r = 1 := m3.mpr (fp.mp f1)
      refine ⟨(0, enS (Mc 4) (b01 y0), Mc), (enS (Mc 4) (b01 y0), wr Mm 100 0 0), ?_, ?_, Or.inl rfl, rfl, fun _ => rfl, h0⟩
      · unfold fX5_costOf
        exact w_t a (w_bind f2 (w_gd R1 (w_bind (w_f N1 (w_bind (prC hR.1 y0) rfl)) rfl)))
      · refine head _ ?_
        rw [hr, same]
        exact w_f N1 rfl
    · have hr : r = 0 := m2.resolve_right (fun q => f1 (fp.mpr (m3.mp q)))
      refine ⟨(0, -1, Mc), (-1, wr Mm 100 0 0), ?_, ?_, Or.inl rfl, rfl, fun _ => rfl, h0⟩
      · unfold fX5_costOf
        exact w_t a (w_bind f2 (w_gd R0 (w_bind (w_t rfl rfl) rfl)))
      · refine head _ ?_
        rw [hr]
        exact w_t rfl rfl
  · refine ⟨(2, 0, Mc), (0, wr Mm 100 0 1), ?_, ?_, Or.inr rfl, rfl, fun q => absurd (show (2 : Nat) = 0 from q) (by decide), hR.thr 1⟩
    · unfold fX5_costOf
      exact w_f a rfl
    · unfold fX6_costOf
      refine w_bind (t := 1) ?_ (w_bind (refk Mm (Or.inl rfl)) (w_gd R1 (w_f N1 rfl)))
      rw [zlcmp_val, zlcmp_val, z0, z36]
      by_cases d : y0.toInt < 0
      · refine w_t ?_ rfl
        rw [if_neg (by omega), if_neg (by omega)]
        decide
      · refine w_f ?_ (w_t ?_ rfl)
        · split
          · decide
          · split
            · decide
            · omega
        · split
          · decide
          · split
            · decide
            · omega
