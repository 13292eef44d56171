/-! cost: what a direction costs changes the prices along it -/
theorem chg_L (x3 : Int) : ∀ (m k n : Nat) (M : Mem), k + m = 60 → m < n → (∀ e, e < k → M 4 e = M 3 e + if e < 30 then M 100 0 else M 101 0) →
    ∃ M', fX2_changeDirection_L36 n M x3 (k : Int) = some M' ∧ (∀ a, a ≠ 4 → M' a = M a) ∧ ∀ e, e < 60 → M' 4 e = M 3 e + if e < 30 then M 100 0 else M 101 0 := by
  intro m
  induction m with
  | zero =>
    intro k n M h hn hk
    obtain ⟨n, rfl⟩ : ∃ k, n = k + 1 := ⟨n - 1, by omega⟩
    refine ⟨M, ?_, fun _ _ => rfl, fun e he => hk e (by omega)⟩
    rw [fX2_changeDirection_L36]
    exact w_gdR (by omega) (by omega) (w_t (by omega) rfl)
  | succ m ih =>
    intro k n M h hn hk
    obtain ⟨n, rfl⟩ : ∃ k, n = k + 1 := ⟨n - 1, by omega⟩
    have r3 : wr M 4 k (M 3 k + if k < 30 then M 100 0 else M 101 0) 3 = M 3 := wr_row M _ (by decide)
    have r100 : wr M 4 k (M 3 k + if k < 30 then M 100 0 else M 101 0) 100 = M 100 := wr_row M _ (by decide)
    have r101 : wr M 4 k (M 3 k + if k < 30 then M 100 0 else M 101 0) 101 = M 101 := wr_row M _ (by decide)
    obtain ⟨M', k1, k2, k3⟩ := ih (k + 1) n (wr M 4 k (M 3 k + if k < 30 then M 100 0 else M 101 0)) (by omega) (by omega) (fun e he => by
      rw [r3, r100, r101]
      by_cases q : e = k
      · rw [q]; exact wr_at _ _ _ _
      · have := hk e (by omega)
        show (if (4 : Nat) = 4 ∧ e = k then _ else M 4 e) = _
        rw [if_neg (fun z => q z.2)]; exact this)
    refine ⟨M', ?_, fun a ha => (k2 a ha).trans (wr_row M _ ha), fun e he => by rw [k3 e he, r3, r100, r101]⟩
    rw [fX2_changeDirection_L36]
    refine w_gdR (by omega) (by omega) (w_f (by omega) (w_gdB (by omega) (by omega) (w_bind (t := if k < 30 then M 100 0 else M 101 0) ?_ (w_gdB (by omega) (by omega) ?_))))
    · by_cases q : k < 30
      · rw [if_pos q]; exact w_f (by omega) rfl
      · rw [if_neg q]; exact w_t (by omega) rfl
    · rw [Int.toNat_natCast, show (k : Int) + 1 = ((k + 1 : Nat) : Int) by omega]
      exact k1
theorem Rl.dir {Mc Mm M' : Mem} (h : Rl Mc Mm) {d : Nat} (hd : d = 0 ∨ d = 1) {x : Int} (hx : 1 ≤ x ∧ x ≤ 9) (h1 : ∀ a, a ≠ 4 → M' a = wr Mc (100 + d) 0 x a) (h2 : ∀ e, e < 60 → M' 4 e = Mc 3 e + if e < 30 then wr Mc (100 + d) 0 x 100 0 else wr Mc (100 + d) 0 x 101 0) : Rl (wr M' 103 0 0) (wr Mm 0 d x) := by
  obtain ⟨a1, a2, a3, a4, a5, a6, a7, a8, a9, b1, b2, b3⟩ := h
  have e0 : ∀ a, a ≠ 4 → a ≠ 100 → a ≠ 101 → M' a = Mc a := fun a q1 q2 q3 => (h1 a q1).trans (wr_row Mc x (by omega))
  have d0 : wr Mc (100 + d) 0 x 100 0 = wr Mm 0 d x 0 0 ∧ wr Mc (100 + d) 0 x 101 0 = wr Mm 0 d x 0 1 := by
    rcases hd with rfl | rfl
    · exact ⟨rfl, a3.2⟩
    · exact ⟨a3.1, rfl⟩
  have hm : MR (wr Mm 0 d x) := by
    rcases hd with rfl | rfl
    · exact ⟨⟨by show 1 ≤ x; omega, by show x ≤ 9; omega⟩, a2.2.1, a2.2.2⟩
    · exact ⟨a2.1, ⟨by show 1 ≤ x; omega, by show x ≤ 9; omega⟩, a2.2.2⟩
  have hp : ∀ e, e < 60 → M' 4 e = coM (wr Mm 0 d x) e := fun e he => by
    rw [h2 e he, d0.1, d0.2, (a4 e he).1, Int.add_comm]
    rfl
  have c : ∀ a, a ≠ 103 → wr M' 103 0 0 a = M' a := fun a q => wr_row M' 0 q
  have m : ∀ a, a ≠ 0 → wr Mm 0 d x a = Mm a := fun a q => wr_row Mm x q
  unfold Rl GR TWr
  rw [c 0 (by decide), c 1 (by decide), c 2 (by decide), c 3 (by decide), c 4 (by decide), c 7 (by decide), c 12 (by decide), c 16 (by decide), c 18 (by decide), c 100 (by decide), c 101 (by decide), c 102 (by decide), c 104 (by decide), c 105 (by decide), m 1 (by decide), m 2 (by decide), m 3 (by decide), m 4 (by decide), m 5 (by decide), m 101 (by decide), m 102 (by decide), m 103 (by decide), m 104 (by decide), e0 0 (by decide) (by decide) (by decide), e0 1 (by decide) (by decide) (by decide), e0 2 (by decide) (by decide) (by decide), e0 3 (by decide) (by decide) (by decide), e0 7 (by decide) (by decide) (by decide), e0 12 (by decide) (by decide) (by decide), e0 16 (by decide) (by decide) (by decide), e0 18 (by decide) (by decide) (by decide), e0 102 (by decide) (by decide) (by decide), e0 104 (by decide) (by decide) (by decide), e0 105 (by decide) (by decide) (by decide), h1 100 (by decide), h1 101 (by decide)]
  refine ⟨⟨fun e he => ⟨(a1.1 e he).1, (a1.1 e he).2.1, ?_⟩, a1.2⟩, hm, d0, fun e he => ⟨(a4 e he).1, hp e he⟩, a5, Or.inl (wr_at _ _ _ _), a7, a8, a9, b1, b2, b3⟩
  rw [hp e he]
  exact coM_bd hm he
