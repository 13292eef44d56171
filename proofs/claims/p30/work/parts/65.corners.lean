/-! counting bits; corners -/
def pcn : Nat → Nat → Int
  | 0, _ => 0
  | k + 1, z => ((z % 2 : Nat) : Int) + pcn k (z / 2)
theorem pcn_zero : ∀ k, pcn k 0 = 0
  | 0 => rfl
  | k + 1 => by rw [pcn, pcn_zero k]; rfl
theorem pcn_bd : ∀ k z, 0 ≤ pcn k z ∧ pcn k z ≤ (k : Int)
  | 0, _ => ⟨Int.le_refl _, Int.le_refl _⟩
  | k + 1, z => by
    have := pcn_bd k (z / 2)
    rw [pcn]
    omega
theorem pcM (M : Mem) : ∀ (k z n : Nat) (x : Int), z < 2 ^ k → z < 256 → k < n → fX6_kindsAt_L51 n M x (z : Int) = some (x + pcn k z) := by
  intro k
  induction k with
  | zero =>
    intro z n x h h2 hn
    obtain ⟨n, rfl⟩ : ∃ k, n = k + 1 := ⟨n - 1, by omega⟩
    have e : z = 0 := by
      rw [Nat.pow_zero] at h
      omega
    subst e
    rw [fX6_kindsAt_L51, pcn, Int.add_zero]
    exact w_gdR (by omega) (by omega) (w_t (by omega) rfl)
  | succ k ih =>
    intro z n x h h2 hn
    obtain ⟨n, rfl⟩ : ∃ k, n = k + 1 := ⟨n - 1, by omega⟩
    by_cases c : z = 0
    · subst c
      rw [fX6_kindsAt_L51, pcn_zero, Int.add_zero]
      exact w_gdR (by omega) (by omega) (w_t (by omega) rfl)
    · rw [Nat.pow_succ] at h
      rw [fX6_kindsAt_L51]
      refine w_gdR (by omega) (by omega) (w_f (by omega) (w_gd ⟨by omega, by omega⟩ (w_gd ⟨by omega, by omega⟩ ?_)))
      rw [show (z : Int) / 2 = ((z / 2 : Nat) : Int) by omega, ih (z / 2) n _ (by omega) (by omega) (by omega), pcn, show (z : Int) % 2 = ((z % 2 : Nat) : Int) by omega, Int.add_assoc]
theorem pcC : ∀ z : Nat, z < 256 → fJ6_bitCount_0f7a4 (fun _ _ => 0) (z : Int) = some (pcn 8 z) := by decide +kernel
theorem pcCM (M : Mem) {z : Nat} (h : z < 256) : fJ6_bitCount_0f7a4 M (z : Int) = some (pcn 8 z) := pcC z h
theorem zor4 : ∀ a : Nat, a < 8 → ∀ b : Nat, b < 8 → ∀ c : Nat, c < 8 → ∀ d : Nat, d < 8 → zor (zor (zshl 1 (a : Int)) (zshl 1 (b : Int))) (zor (zshl 1 (c : Int)) (zshl 1 (d : Int))) = ((2 ^ a ||| 2 ^ b ||| 2 ^ c ||| 2 ^ d : Nat) : Int) ∧ zor (zor (zor (zshl 1 (a : Int)) (zshl 1 (b : Int))) (zshl 1 (c : Int))) (zshl 1 (d : Int)) = ((2 ^ a ||| 2 ^ b ||| 2 ^ c ||| 2 ^ d : Nat) : Int) ∧ (2 ^ a ||| 2 ^ b ||| 2 ^ c ||| 2 ^ d : Nat) < 256 := by decide +kernel
def kin (b : Nat → Int) (v : Nat) : Int := pcn 8 (2 ^ (b v).toNat ||| 2 ^ (b (v + 1)).toNat ||| 2 ^ (b (v + 6)).toNat ||| 2 ^ (b (v + 7)).toNat)
theorem kinC {M : Mem} (ht : TB M 16) {v : Nat} (hv : v + 7 < 36) : fX1_kindsAt M (v : Int) = some (kin (M 16) v) := by
  have h1 := ht.2.2 v (by omega)
  have h2 := ht.2.2 (v + 1) (by omega)
  have h3 := ht.2.2 (v + 6) (by omega)
  have h4 := ht.2.2 (v + 7) (by omega)
  unfold fX1_kindsAt kin
  refine w_gdB (by omega) (by omega) (w_gdB (by omega) (by omega) (w_gdB (by omega) (by omega) (w_gdB (by omega) (by omega) ?_)))
  rw [show ((v : Int) + 1).toNat = v + 1 by omega, show ((v : Int) + 6).toNat = v + 6 by omega, show ((v : Int) + 6 + 1).toNat = v + 7 by omega, Int.toNat_natCast]
  obtain ⟨a, ha⟩ : ∃ a : Nat, M 16 v = a := ⟨(M 16 v).toNat, by omega⟩
  obtain ⟨b, hb⟩ : ∃ a : Nat, M 16 (v + 1) = a := ⟨(M 16 (v + 1)).toNat, by omega⟩
  obtain ⟨c, hc⟩ : ∃ a : Nat, M 16 (v + 6) = a := ⟨(M 16 (v + 6)).toNat, by omega⟩
  obtain ⟨d, hd⟩ : ∃ a : Nat, M 16 (v + 7) = a := ⟨(M 16 (v + 7)).toNat, by omega⟩
  rw [ha, hb, hc, hd]
  have z := zor4 a (by omega) b (by omega) c (by omega) d (by omega)
  rw [z.1]
  simp only [Int.toNat_natCast]
  exact w_bind (pcCM M z.2.2) rfl
theorem kinM {M : Mem} (ht : BR M) {v : Nat} (hv : v + 7 < 36) : fX6_kindsAt M (v : Int) = some (kin (M 4) v) := by
  have h1 := ht v (by omega)
  have h2 := ht (v + 1) (by omega)
  have h3 := ht (v + 6) (by omega)
  have h4 := ht (v + 7) (by omega)
  unfold fX6_kindsAt kin
  refine w_gdB (by omega) (by omega) (w_gdB (by omega) (by omega) (w_gdB (by omega) (by omega) (w_gdB (by omega) (by omega) ?_)))
  rw [show ((v : Int) + 1).toNat = v + 1 by omega, show ((v : Int) + 6).toNat = v + 6 by omega, show ((v : Int) + 6 + 1).toNat = v + 7 by omega, Int.toNat_natCast]
  obtain ⟨a, ha⟩ : ∃ a : Nat, M 4 v = a := ⟨(M 4 v).toNat, by omega⟩
  obtain ⟨b, hb⟩ : ∃ a : Nat, M 4 (v + 1) = a := ⟨(M 4 (v + 1)).toNat, by omega⟩
  obtain ⟨c, hc⟩ : ∃ a : Nat, M 4 (v + 6) = a := ⟨(M 4 (v + 6)).toNat, by omega⟩
  obtain ⟨d, hd⟩ : ∃ a : Nat, M 4 (v + 7) = a := ⟨(M 4 (v + 7)).toNat, by omega⟩
  rw [ha, hb, hc, hd]
  have z := zor4 a (by omega) b (by omega) c (by omega) d (by omega)
  rw [z.2.1]
  simp only [Int.toNat_natCast]
  refine w_bind (pcM M 8 _ FU 0 z.2.2 z.2.2 (by have := FU_big; omega)) ?_
  rw [Int.zero_add]
theorem coC_L1 {M : Mem} (ht : TB M 16) {q : Int} (hq : inR q) {r : Nat} (hr : r < 5) : ∀ (m c n : Nat) (s : Int), c + m = 5 → m < n → fX1_cornersOf_L12 n M q s (r : Int) (c : Int) = some (s + ss (fun c => if kin (M 16) (r * 6 + c) = q then 1 else 0) c m) := by
  intro m
  induction m with
  | zero =>
    intro c n s h hn
    obtain ⟨n, rfl⟩ : ∃ k, n = k + 1 := ⟨n - 1, by omega⟩
    rw [fX1_cornersOf_L12, ss, Int.add_zero]
    exact w_gdR (by omega) (by omega) (w_t (by omega) rfl)
  | succ m ih =>
    intro c n s h hn
    obtain ⟨n, rfl⟩ : ∃ k, n = k + 1 := ⟨n - 1, by omega⟩
    have hk := pcn_bd 8 (2 ^ (M 16 (r * 6 + c)).toNat ||| 2 ^ (M 16 (r * 6 + c + 1)).toNat ||| 2 ^ (M 16 (r * 6 + c + 6)).toNat ||| 2 ^ (M 16 (r * 6 + c + 7)).toNat)
    rw [fX1_cornersOf_L12, show (r : Int) * 6 + (c : Int) = ((r * 6 + c : Nat) : Int) by omega]
    refine w_gdR (by omega) (by omega) (w_f (by omega) (w_bind (kinC ht (by omega)) (w_gd ⟨?_, ?_⟩ (w_gd hq (w_bind (t := s + (if kin (M 16) (r * 6 + c) = q then 1 else 0)) ?_ ?_)))))
    · unfold kin; omega
    · unfold kin; omega
    · by_cases g : kin (M 16) (r * 6 + c) = q
      · exact Eq.trans (w_t g rfl) (congrArg some (by rw [if_pos g]))
      · exact Eq.trans (w_f g rfl) (congrArg some (by rw [if_neg g, Int.add_zero]))
    · rw [show (c : Int) + 1 = ((c + 1 : Nat) : Int) by omega, ih (c + 1) n _ (by omega) (by omega), ss, Int.add_assoc]
theorem coC_L2 {M : Mem} (ht : TB M 16) {q : Int} (hq : inR q) : ∀ (m r n : Nat) (s : Int), r + m = 5 → m < n → fX1_cornersOf_L4 n M q s (r : Int) = some (s + ss (fun r => ss (fun c => if kin (M 16) (r * 6 + c) = q then 1 else 0) 0 5) r m) := by
  intro m
  induction m with
  | zero =>
    intro c n s h hn
    obtain ⟨n, rfl⟩ : ∃ k, n = k + 1 := ⟨n - 1, by omega⟩
    rw [fX1_cornersOf_L4, ss, Int.add_zero]
    exact w_gdR (by omega) (by omega) (w_t (by omega) rfl)
  | succ m ih =>
    intro r n s h hn
    obtain ⟨n, rfl⟩ : ∃ k, n = k + 1 := ⟨n - 1, by omega⟩
    rw [fX1_cornersOf_L4]
    refine w_gdR (by omega) (by omega) (w_f (by omega) (w_bind (coC_L1 ht hq (r := r) (by omega) 5 0 FU s (by omega) (by have := FU_big; omega)) ?_))
    rw [show (r : Int) + 1 = ((r + 1 : Nat) : Int) by omega, ih (r + 1) n _ (by omega) (by omega), Int.add_assoc]
    rfl
theorem coM_L {M : Mem} (ht : BR M) {q : Int} (hq : inR q) : ∀ (m k n : Nat) (s : Int), k + m = 25 → m < n → fX6_corners_L27 n M q s (k : Int) = some (s + ss (fun k => if kin (M 4) (6 * (k / 5) + k % 5) = q then 1 else 0) k m) := by
  intro m
  induction m with
  | zero =>
    intro c n s h hn
    obtain ⟨n, rfl⟩ : ∃ k, n = k + 1 := ⟨n - 1, by omega⟩
    rw [fX6_corners_L27, ss, Int.add_zero]
    exact w_gdR (by omega) (by omega) (w_t (by omega) rfl)
  | succ m ih =>
    intro k n s h hn
    obtain ⟨n, rfl⟩ : ∃ k, n = k + 1 := ⟨n - 1, by omega⟩
    obtain ⟨v, hv⟩ : ∃ v, v = 6 * (k / 5) + k % 5 := ⟨_, rfl⟩
    have hk := pcn_bd 8 (2 ^ (M 4 v).toNat ||| 2 ^ (M 4 (v + 1)).toNat ||| 2 ^ (M 4 (v + 6)).toNat ||| 2 ^ (M 4 (v + 7)).toNat)
    rw [fX6_corners_L27, show 6 * ((k : Int) / 5) + (k : Int) % 5 = (v : Int) by omega]
    refine w_gdR (by omega) (by omega) (w_f (by omega) (w_gd ⟨by omega, by omega⟩ (w_gd ⟨by omega, by omega⟩ (w_bind (kinM ht (by omega)) (w_gd ⟨?_, ?_⟩ (w_gd hq (w_bind (t := if kin (M 4) v = q then 1 else 0) ?_ ?_)))))))
    · unfold kin; omega
    · unfold kin; omega
    · by_cases g : kin (M 4) v = q
      · exact Eq.trans (w_t g rfl) (congrArg some (by rw [if_pos g]))
      · exact Eq.trans (w_f g rfl) (congrArg some (by rw [if_neg g]))
    · rw [show (k : Int) + 1 = ((k + 1 : Nat) : Int) by omega, ih (k + 1) n _ (by omega) (by omega), ss, Int.add_assoc, hv]
theorem ss25 (f : Nat → Int) : ss (fun r => ss (fun c => f (r * 6 + c)) 0 5) 0 5 = ss (fun k => f (6 * (k / 5) + k % 5)) 0 25 := by
  simp only [ss, Nat.reduceAdd, Nat.reduceMul, Nat.reduceDiv, Nat.reduceMod, Nat.zero_add, Nat.add_zero, Nat.zero_mul, Nat.mul_zero, Nat.zero_div, Nat.zero_mod]
  omega
theorem F_corners : Fc_corners Rl := by
  intro Mc Mm y0 hR hy
  by_cases c : 1 ≤ y0 ∧ y0 ≤ 4
  · have h0 := hR.thr 0
    have e : ss (fun r => ss (fun c => if kin (Mc 16) (r * 6 + c) = y0 then (1 : Int) else 0) 0 5) 0 5 = ss (fun k => if kin (Mm 4) (6 * (k / 5) + k % 5) = y0 then (1 : Int) else 0) 0 25 := by
      rw [ss25 (fun v => if kin (Mc 16) v = y0 then (1 : Int) else 0)]
      refine ss_congr 25 0 (fun k _ hk => ?_)
      have b := fun v hv => (hR.2.2.2.2.2.2.2.1 v hv).1
      unfold kin
      rw [b (6 * (k / 5) + k % 5) (by omega), b (6 * (k / 5) + k % 5 + 1) (by omega), b (6 * (k / 5) + k % 5 + 6) (by omega), b (6 * (k / 5) + k % 5 + 7) (by omega)]
    have hC := coC_L2 hR.owns hy 5 0 FU 0 (by omega) (by have := FU_big; omega)
    have hM := coM_L h0.bubs hy 25 0 FU 0 (by omega) (by have := FU_big; omega)
    rw [Int.zero_add] at hC hM
    refine ⟨(0, _, Mc), (_, wr Mm 100 0 0), ?_, ?_, Or.inl rfl, rfl, fun _ => e, h0⟩
    · unfold fX5_corners
      refine w_gd hy (w_f (by omega) (w_t (by omega) (w_bind ?_ rfl)))
      unfold fX1_cornersOf
      exact w_bind hC rfl
    · unfold fX6_corners
      exact w_bind (in_yes Mm hy R1 R4 c) (w_gd R1 (w_bind (t := 0) (w_f N1 rfl) (w_bind (ref0 Mm) (w_gd R0 (w_t rfl (w_bind hM rfl))))))
  · refine ⟨(2, 0, Mc), (0, wr Mm 100 0 1), ?_, ?_, Or.inr rfl, rfl, fun q => absurd (show (2 : Nat) = 0 from q) (by decide), hR.thr 1⟩
    · unfold fX5_corners
      refine w_gd hy ?_
      by_cases q : y0 < 1
      · exact w_t q rfl
      · exact w_f q (w_f (by omega) rfl)
    · unfold fX6_corners
      exact w_bind (in_no Mm hy R1 R4 (by omega)) (w_gd R0 (w_bind (t := 1) (w_t rfl rfl) (w_bind (refk Mm (Or.inl rfl)) (w_gd R1 (w_f N1 rfl)))))
