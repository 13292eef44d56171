/-! what the law's invariant says of the class's memory and the ghost; mix, isFoam -/
def SI (i : Int) (M Mm : Mem) : Prop := Rl M Mm ∧ M 21 0 = M 102 0 ∧ (∀ v, v < 36 → M 22 v = M 12 v) ∧ (0 ≤ M 105 0 ∧ M 105 0 ≤ 3540 * i) ∧ M 104 0 = enS (M 4) (M 16) + M 105 0
theorem SI.bal {i : Int} {M Mm : Mem} (h : SI i M Mm) : M 104 0 = enS (coM Mm) (Mm 4) + M 105 0 := by
  rw [← en_eq h.1]
  exact h.2.2.2.2
theorem SI.q {i : Int} {M Mm C : Mem} (h : SI i M Mm) (r : Rl C Mm) (f : Qf M C) : SI i C Mm := by
  obtain ⟨h1, h2, h3, h4, h5⟩ := h
  unfold SI
  rw [f 21 (by decide), f 102 (by decide), f 22 (by decide), f 12 (by decide), f 105 (by decide), f 104 (by decide), f 4 (by decide), f 16 (by decide)]
  exact ⟨r, h2, h3, h4, h5⟩
theorem SI.n {i : Int} {M Mm : Mem} (h : SI i M Mm) {k : Nat} (hk : Mm 101 0 = (k : Int)) : M 21 (0 : Int).toNat = (k : Int) := by
  have a : M 21 0 = M 102 0 := h.2.1
  have b : Mm 101 0 = M 102 0 := h.1.2.2.2.2.1.1
  show M 21 0 = (k : Int)
  omega
def fo (c : Int64) (f : Nat → Int) : Nat → Nat → Int64 → Int64
  | 0, _, x => x
  | m + 1, i, x => fo c f m (i + 1) (c * x + (Int32.ofInt (f i)).toInt64)
theorem mix8 {M Mm : Mem} (h : Rl M Mm) : ∀ (m i n : Nat) (x : Int64), i + m = 60 → m < n → fL_mix_L8 n M x (i : Int) = some (fo 31 (coM Mm) m i x) := by
  intro m
  induction m with
  | zero =>
    intro i n x hi hn
    obtain ⟨n, rfl⟩ : ∃ k, n = k + 1 := ⟨n - 1, by omega⟩
    rw [fL_mix_L8]
    exact w_gdR (by omega) (by omega) (w_t (by omega) rfl)
  | succ m ih =>
    intro i n x hi hn
    obtain ⟨n, rfl⟩ : ∃ k, n = k + 1 := ⟨n - 1, by omega⟩
    rw [fL_mix_L8]
    refine w_gdR (by omega) (by omega) (w_f (by omega) (w_bind (g_edge h (by omega)) ?_))
    rw [show (i : Int) + 1 = ((i + 1 : Nat) : Int) by omega]
    exact ih (i + 1) n _ (by omega) (by omega)
theorem mix38 {M Mm : Mem} (h : Rl M Mm) : ∀ (m i n : Nat) (x : Int64), i + m = 36 → m < n → fL_mix_L38 n M x (i : Int) = some (fo 37 (Mm 4) m i x) := by
  intro m
  induction m with
  | zero =>
    intro i n x hi hn
    obtain ⟨n, rfl⟩ : ∃ k, n = k + 1 := ⟨n - 1, by omega⟩
    rw [fL_mix_L38]
    exact w_gdR (by omega) (by omega) (w_t (by omega) rfl)
  | succ m ih =>
    intro i n x hi hn
    obtain ⟨n, rfl⟩ : ∃ k, n = k + 1 := ⟨n - 1, by omega⟩
    rw [fL_mix_L38]
    refine w_gdR (by omega) (by omega) (w_f (by omega) (w_bind (g_bubbleAt h (by omega)) ?_))
    rw [show (i : Int) + 1 = ((i + 1 : Nat) : Int) by omega]
    exact ih (i + 1) n _ (by omega) (by omega)
theorem mix68 {M Mm : Mem} (h : Rl M Mm) {k : Nat} (hk : Mm 101 0 = (k : Int)) (k6 : k ≤ 6) (hn0 : M 21 (0 : Int).toNat = (k : Int)) : ∀ (m i n : Nat) (x : Int64), i + m = k → m < n → fL_mix_L68 n M x (i : Int) = some (fo 41 (Mm 2) m i x) := by
  intro m
  induction m with
  | zero =>
    intro i n x hi hn
    obtain ⟨n, rfl⟩ : ∃ k, n = k + 1 := ⟨n - 1, by omega⟩
    rw [fL_mix_L68, hn0]
    exact w_gdR (by omega) (by omega) (w_gdR (by omega) (by omega) (w_t (by omega) rfl))
  | succ m ih =>
    intro i n x hi hn
    obtain ⟨n, rfl⟩ : ∃ k, n = k + 1 := ⟨n - 1, by omega⟩
    rw [fL_mix_L68, hn0]
    refine w_gdR (by omega) (by omega) (w_gdR (by omega) (by omega) (w_f (by omega) (w_bind (g_townAt h hk (by omega)) ?_)))
    rw [show (i : Int) + 1 = ((i + 1 : Nat) : Int) by omega]
    exact ih (i + 1) n _ (by omega) (by omega)
theorem mix99 {M Mm : Mem} (h : Rl M Mm) : ∀ (m i n : Nat) (x : Int64), i + m = 8 → m < n → fL_mix_L99 n M x (i : Int) = some (fo 43 (Mm 5) m i x, M) := by
  intro m
  induction m with
  | zero =>
    intro i n x hi hn
    obtain ⟨n, rfl⟩ : ∃ k, n = k + 1 := ⟨n - 1, by omega⟩
    rw [fL_mix_L99]
    exact w_gdR (by omega) (by omega) (w_t (by omega) rfl)
  | succ m ih =>
    intro i n x hi hn
    obtain ⟨n, rfl⟩ : ∃ k, n = k + 1 := ⟨n - 1, by omega⟩
    rw [fL_mix_L99]
    refine w_gdR (by omega) (by omega) (w_f (by omega) (w_bind (g_held h (by omega)) ?_))
    rw [show (i : Int) + 1 = ((i + 1 : Nat) : Int) by omega]
    exact ih (i + 1) n _ (by omega) (by omega)
def sdV (Mm : Mem) (y : Int) : Int64 := match fX6_side Mm y with
  | some T => T.1
  | none => 0
def mixV (Mm : Mem) (k : Nat) : Int64 := (((((47 * fo 43 (Mm 5) 8 0 (fo 41 (Mm 2) k 0 (fo 37 (Mm 4) 36 0 (fo 31 (coM Mm) 60 0 (Int32.ofInt (k : Int)).toInt64)))) + (Int32.ofInt (Mm 102 0)).toInt64) + 3 * (Int32.ofInt (Mm 103 0)).toInt64) + 5 * sdV Mm 0) + 7 * sdV Mm 1) + 11 * (Int32.ofInt (-2000000001)).toInt64
theorem q_mix {M Mm : Mem} (h : Rl M Mm) {k : Nat} (hk : Mm 101 0 = (k : Int)) (hn : M 21 (0 : Int).toNat = (k : Int)) : ∃ C : Mem, fL_mix M = some (mixV Mm k, C) ∧ Rl C Mm ∧ Qf M C := by
  obtain ⟨S0, C0, a1, a2, a3, a4⟩ := q_side h (y := 0) (Or.inl rfl)
  obtain ⟨S1, C1, b1, b2, b3, b4⟩ := q_side a3 (y := 1) (Or.inr rfl)
  obtain ⟨k', k1, k2, k3, k4, k5⟩ := h.tws
  have k6 : k ≤ 6 := by omega
  have e0 : sdV Mm 0 = S0.1 := by unfold sdV; rw [a2]
  have e1 : sdV Mm 1 = S1.1 := by unfold sdV; rw [b2]
  have w104 : M 104 0 = Mm 102 0 := h.2.2.2.2.2.2.2.2.2.1
  have w105 : M 105 0 = Mm 103 0 := h.2.2.2.2.2.2.2.2.2.2.1
  have qf := a4.trans b4
  have hx : C1 21 (0 : Int).toNat = C1 102 0 := by
    rw [qf 21 (by decide), qf 102 (by decide), hn]
    omega
  have fu := FU_big
  refine ⟨C1, ?_, b3, qf⟩
  have s1 := mix8 h 60 0 FU (Int32.ofInt (k : Int)).toInt64 (by omega) (by omega)
  have s2 := mix38 h 36 0 FU (fo 31 (coM Mm) 60 0 (Int32.ofInt (k : Int)).toInt64) (by omega) (by omega)
  have s3 := mix68 h hk k6 hn k 0 FU (fo 37 (Mm 4) 36 0 (fo 31 (coM Mm) 60 0 (Int32.ofInt (k : Int)).toInt64)) (by omega) (by omega)
  have s4 := mix99 h 8 0 FU (fo 41 (Mm 2) k 0 (fo 37 (Mm 4) 36 0 (fo 31 (coM Mm) 60 0 (Int32.ofInt (k : Int)).toInt64))) (by omega) (by omega)
  unfold fL_mix mixV
  rw [hn, e0, e1, ← w104, ← w105]
  exact w_bind s1 (w_bind s2 (w_bind s3 (w_bind s4 (w_bind g_en2 (w_bind g_en3 (w_bind a1 (w_bind b1 (w_bind (t_townAt_n b3 hx) rfl))))))))
/-! walls -/
theorem isW_symm {b : Nat → Int} {x y : Int} {e : Nat} : isW b x y e ↔ isW b y x e := ⟨fun h => h.symm, fun h => h.symm⟩
theorem wbS_symm (pc b : Nat → Int) (x y : Int) : wbS pc b x y = wbS pc b y x := by
  unfold wbS
  refine ss_congr 60 0 (fun e _ _ => ?_)
  by_cases q : isW b x y e
  · rw [if_pos q, if_pos (isW_symm.mp q)]
  · rw [if_neg q, if_neg (fun z => q (isW_symm.mp z))]
abbrev wl (pc b : Nat → Int) (k j : Nat) : Int := if (k : Int) = (j : Int) then 0 else wbS pc b (k : Int) (j : Int)
theorem wl_symm (pc b : Nat → Int) (k j : Nat) : wl pc b k j = wl pc b j k := by
  unfold wl
  by_cases q : (k : Int) = (j : Int)
  · rw [if_pos q, if_pos q.symm]
  · rw [if_neg q, if_neg (fun z => q z.symm), wbS_symm]
def wF (a c : Int) (k j : Nat) : Int := if (k : Int) = (j : Int) then 0 else if (a = (k : Int) ∧ c = (j : Int)) ∨ (a = (j : Int) ∧ c = (k : Int)) then 1 else 0
theorem wF_sum : ∀ a : Nat, a < 8 → ∀ c : Nat, c < 8 → ss (fun k => ss (fun j => wF (a : Int) (c : Int) k j) 0 8) 0 8 = if a = c then 0 else 2 := by decide +kernel
theorem wl_sum {pc b : Nat → Int} (hb : ∀ v, v < 36 → 0 ≤ b v ∧ b v < 8) : ss (fun k => ss (fun j => wl pc b k j) 0 8) 0 8 = 2 * enS pc b := by
  have e1 : ∀ k j : Nat, wl pc b k j = ss (fun e => pc e * wF (b (lo e)) (b (hi e)) k j) 0 60 := fun k j => by
    unfold wl wF
    by_cases q : (k : Int) = (j : Int)
    · rw [if_pos q]
      exact (ss_zero 60 0 (fun e _ _ => by rw [if_pos q]; exact Int.mul_zero _)).symm
    · rw [if_neg q]
      unfold wbS
      refine ss_congr 60 0 (fun e _ _ => ?_)
      rw [if_neg q]
      by_cases z : isW b (k : Int) (j : Int) e
      · rw [if_pos z, if_pos z, Int.mul_one]
      · rw [if_neg z, if_neg z, Int.mul_zero]
  have e2 : ss (fun k => ss (fun j => wl pc b k j) 0 8) 0 8 = ss (fun k => ss (fun e => ss (fun j => pc e * wF (b (lo e)) (b (hi e)) k j) 0 8) 0 60) 0 8 := by
    refine ss_congr 8 0 (fun k _ _ => ?_)
    rw [ss_swap (fun e j => pc e * wF (b (lo e)) (b (hi e)) k j) 8 0 60 0]
    exact ss_congr 8 0 (fun j _ _ => e1 k j)
  rw [e2, ss_swap (fun k e => ss (fun j => pc e * wF (b (lo e)) (b (hi e)) k j) 0 8) 60 0 8 0]
  have e3 : 2 * enS pc b = ss (fun e => 2 * (if b (lo e) = b (hi e) then 0 else pc e)) 0 60 := by
    rw [ss_mul]; rfl
  rw [e3]
  refine ss_congr 60 0 (fun e _ he => ?_)
  have he : e < 60 := by omega
  have hl := hb _ (lo_lt he)
  have hh := hb _ (hi_lt he)
  obtain ⟨a, ha⟩ : ∃ a : Nat, b (lo e) = (a : Int) := ⟨(b (lo e)).toNat, by omega⟩
  obtain ⟨c, hc⟩ : ∃ c : Nat, b (hi e) = (c : Int) := ⟨(b (hi e)).toNat, by omega⟩
  have w := wF_sum a (by omega) c (by omega)
  have m : ss (fun k => ss (fun j => pc e * wF (b (lo e)) (b (hi e)) k j) 0 8) 0 8 = pc e * ss (fun k => ss (fun j => wF (b (lo e)) (b (hi e)) k j) 0 8) 0 8 := by
    rw [← ss_mul]
    exact ss_congr 8 0 (fun k _ _ => ss_mul _ _ 8 0)
  rw [m, ha, hc, w]
  by_cases q : a = c
  · rw [if_pos q, if_pos (by omega)]; omega
  · rw [if_neg q, if_neg (by omega)]; omega
theorem sz_sum {b : Nat → Int} (hb : ∀ v, v < 36 → 0 ≤ b v ∧ b v < 8) : ss (fun k => szS b (k : Int)) 0 8 = 36 := by
  unfold szS
  rw [ss_swap (fun k v => if b v = ((k : Nat) : Int) then (1 : Int) else 0) 36 0 8 0]
  have : ∀ v, v < 36 → ss (fun k => if b v = ((k : Nat) : Int) then (1 : Int) else 0) 0 8 = 1 := fun v hv => by
    have h := hb v hv
    refine Eq.trans (ss_congr 8 0 (fun k _ _ => ?_)) (ss_one 1 (k := (b v).toNat) (m := 8) (a := 0) (by omega) (by omega))
    show (if b v = (k : Int) then (1 : Int) else 0) = if k = (b v).toNat then 1 else 0
    by_cases q : k = (b v).toNat
    · rw [if_pos (by omega), if_pos q]
    · rw [if_neg (by omega), if_neg q]
  rw [ss_congr 36 0 (fun v _ hv => this v (by omega))]
  exact ss_ones 36 0
theorem kin_bd : ∀ a : Nat, a < 8 → ∀ b : Nat, b < 8 → ∀ c : Nat, c < 8 → ∀ d : Nat, d < 8 → 1 ≤ pcn 8 (2 ^ a ||| 2 ^ b ||| 2 ^ c ||| 2 ^ d) ∧ pcn 8 (2 ^ a ||| 2 ^ b ||| 2 ^ c ||| 2 ^ d) ≤ 4 := by decide +kernel
theorem cr_sum {b : Nat → Int} (hb : ∀ v, v < 36 → 0 ≤ b v ∧ b v < 8) : crS b 1 + crS b 2 + crS b 3 + crS b 4 = 25 := by
  unfold crS
  rw [ss25 (fun v => if kin b v = 1 then (1 : Int) else 0), ss25 (fun v => if kin b v = 2 then (1 : Int) else 0), ss25 (fun v => if kin b v = 3 then (1 : Int) else 0), ss25 (fun v => if kin b v = 4 then (1 : Int) else 0), ← ss_add, ← ss_add, ← ss_add]
  rw [show (25 : Int) = ((25 : Nat) : Int) from rfl, ← ss_ones 25 0]
  refine ss_congr 25 0 (fun k _ hk => ?_)
  have h : 1 ≤ kin b (6 * (k / 5) + k % 5) ∧ kin b (6 * (k / 5) + k % 5) ≤ 4 := by
    unfold kin
    have b1 := hb (6 * (k / 5) + k % 5) (by omega)
    have b2 := hb (6 * (k / 5) + k % 5 + 1) (by omega)
    have b3 := hb (6 * (k / 5) + k % 5 + 6) (by omega)
    have b4 := hb (6 * (k / 5) + k % 5 + 7) (by omega)
    exact kin_bd _ (by omega) _ (by omega) _ (by omega) _ (by omega)
  show (if kin b (6 * (k / 5) + k % 5) = 1 then (1 : Int) else 0) + (if kin b (6 * (k / 5) + k % 5) = 2 then (1 : Int) else 0) + (if kin b (6 * (k / 5) + k % 5) = 3 then (1 : Int) else 0) + (if kin b (6 * (k / 5) + k % 5) = 4 then (1 : Int) else 0) = 1
  generalize kin b (6 * (k / 5) + k % 5) = z at h ⊢
  have : z = 1 ∨ z = 2 ∨ z = 3 ∨ z = 4 := by omega
  rcases this with rfl | rfl | rfl | rfl <;> decide
theorem kinC_eq {M Mm : Mem} (h : Rl M Mm) (q : Int) : crS (M 16) q = crS (Mm 4) q := by
  have hb := fun v hv => (h.2.2.2.2.2.2.2.1 v hv).1
  unfold crS
  refine ss_congr 5 0 (fun r _ hr => ss_congr 5 0 (fun c _ hc => ?_))
  unfold kin
  rw [hb (r * 6 + c) (by omega), hb (r * 6 + c + 1) (by omega), hb (r * 6 + c + 6) (by omega), hb (r * 6 + c + 7) (by omega)]
theorem szS_bd (b : Nat → Int) (x : Int) : 0 ≤ szS b x ∧ szS b x ≤ 36 := by
  unfold szS
  refine ⟨ss_nn 36 0 (fun v _ _ => by split <;> omega), ?_⟩
  have := ss_ub (c := 1) (f := fun v => if b v = x then (1 : Int) else 0) 36 0 (fun v _ _ => by show (if b v = x then (1 : Int) else 0) ≤ 1; split <;> omega)
  omega
theorem pi_bd {b t : Nat → Int} {x : Int} (hG : GC (piP b x) idv t) (h0 : ∀ v, v < 36 → 0 ≤ t v) : (0 ≤ ss (piN b t x) 0 36 ∧ ss (piN b t x) 0 36 ≤ szS b x) ∧ (0 < ss (piN b t x) 0 36 ↔ 0 < szS b x) := by
  have nn : 0 ≤ ss (piN b t x) 0 36 := ss_nn 36 0 (fun v _ _ => by unfold piN; split <;> (try split) <;> omega)
  have le : ss (piN b t x) 0 36 ≤ szS b x := ss_le 36 0 (fun v _ _ => by
    show (if b v = x then (if t v = (v : Int) then (1 : Int) else 0) else 0) ≤ if b v = x then 1 else 0
    by_cases q : b v = x
    · rw [if_pos q, if_pos q]; split <;> omega
    · rw [if_neg q, if_neg q]; omega)
  refine ⟨⟨nn, le⟩, ⟨fun h => by omega, fun h => ?_⟩⟩
  have key : ∀ n : Nat, n ≤ 36 → (∀ v, v < n → b v ≠ x) ∨ ∃ v, v < n ∧ b v = x ∧ ∀ u, u < v → b u ≠ x := by
    intro n
    induction n with
    | zero => intro _; exact Or.inl (fun v hv => absurd hv (by omega))
    | succ n ih =>
      intro hn
      rcases ih (by omega) with z | ⟨v, v1, v2, v3⟩
      · by_cases q : b n = x
        · exact Or.inr ⟨n, by omega, q, z⟩
        · refine Or.inl (fun v hv => ?_)
          by_cases e : v = n
          · rw [e]; exact q
          · exact z v (by omega)
      · exact Or.inr ⟨v, by omega, v2, v3⟩
  rcases key 36 (Nat.le_refl _) with z | ⟨v, v1, v2, v3⟩
  · have : szS b x = 0 := ss_zero 36 0 (fun v _ hv => if_neg (z v (by omega)))
    omega
  · have hg : LE36 (fun u => if b u = x then (v : Int) else 0) t := hG.2.2 _ (fun e he => by
      have hp : piP b x e = 0 ∨ piP b x e = 100 := by unfold piP; split <;> simp
      show (if b (hi e) = x then (v : Int) else 0) ≤ (if b (lo e) = x then (v : Int) else 0) + piP b x e ∧ (if b (lo e) = x then (v : Int) else 0) ≤ (if b (hi e) = x then (v : Int) else 0) + piP b x e
      by_cases q1 : b (lo e) = x
      · by_cases q2 : b (hi e) = x
        · rw [if_pos q1, if_pos q2]; rcases hp with z | z <;> rw [z] <;> omega
        · have : piP b x e = 100 := by unfold piP; rw [if_neg (fun z => q2 z.2)]
          rw [if_pos q1, if_neg q2, this]; omega
      · have : piP b x e = 100 := by unfold piP; rw [if_neg (fun z => q1 z.1)]
        rw [if_neg q1, this]
        split <;> omega) (fun u hu => by
      show (if b u = x then (v : Int) else 0) ≤ (u : Int)
      by_cases q : b u = x
      · rw [if_pos q]
        rcases Nat.lt_or_ge u v with z | z
        · exact absurd q (v3 u z)
        · omega
      · rw [if_neg q]; omega)
    have a1 := hg v v1
    have a1 : (if b v = x then (v : Int) else 0) ≤ t v := a1
    rw [if_pos v2] at a1
    have a2 : t v ≤ (v : Int) := hG.2.1 v v1
    have tv : t v = (v : Int) := by omega
    have ge := ss_ge (f := piN b t x) (m := 36) (a := 0) (k := v) (Nat.zero_le _) (by omega) (fun i _ _ => by unfold piN; split <;> (try split) <;> omega)
    have pv : piN b t x v = 1 := by unfold piN; rw [if_pos v2, if_pos tv]
    omega
