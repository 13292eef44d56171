/-! does -/
theorem i64 {z : Int} (h : 0 ≤ z ∧ z < 2147483648) : ((Int32.ofInt z).toInt64).toInt = z := by
  rw [Int32.toInt_toInt64]
  exact zi_toInt ⟨by omega, h.2⟩
theorem far_lo {z : Int} (h : 0 ≤ z ∧ z < 2147483648) : ¬ zlcmp (llushr ((-1) - (Int32.ofInt z).toInt64) 36) 0 = 0 := by
  intro q
  have e : ((-1 : Int64) - (Int32.ofInt z).toInt64).toInt = -1 - z := by
    rw [Int64.toInt_sub, i64 h]
    have : (-1 : Int64).toInt = -1 := rfl
    rw [this]
    exact Int.bmod_eq_of_le_mul_two (by omega) (by omega)
  rcases ok36 ((-1) - (Int32.ofInt z).toInt64) with ⟨_, a, b⟩ | ⟨a, _⟩
  · omega
  · exact a q
theorem far_hi {z : Int} (h : 0 ≤ z ∧ z < 2147483648) : ¬ zlcmp (llushr (68719476736 + (Int32.ofInt z).toInt64) 36) 0 = 0 := by
  intro q
  have e : ((68719476736 : Int64) + (Int32.ofInt z).toInt64).toInt = 68719476736 + z := by
    rw [Int64.toInt_add, i64 h]
    have : (68719476736 : Int64).toInt = 68719476736 := rfl
    rw [this]
    exact Int.bmod_eq_of_le_mul_two (by omega) (by omega)
  rcases ok36 (68719476736 + (Int32.ofInt z).toInt64) with ⟨_, a, b⟩ | ⟨a, _⟩
  · omega
  · exact a q
theorem Refd.R {x : Int} (h : Refd x) : inR x := by
  rcases h with h | h | h <;> rw [h] <;> exact ⟨by decide, by decide⟩
theorem refV {M : Mem} {x : Int} (h : Refd x) : fL_isRefused M x = some 1 := by
  rw [isRef h.R]
  exact congrArg some (if_pos h)
theorem okV {M : Mem} {x : Int} (h : OkT x) : fL_isRefused M x = some 0 := by
  rw [isRef ⟨by have := h.1; omega, by have := h.2; omega⟩, if_neg (notR h.1)]

theorem dn_0 {i : Int} {M Mm : Mem} (h : SI i M Mm) (hi : 0 ≤ i ∧ i ≤ 90) {x : Int} (hx : 0 ≤ x ∧ x < 2147483648) (hk : x % 20 = 0) : ∃ told C, fL_does M x = some (told, C) ∧ Dn i M Mm told C := by
  obtain ⟨told, C, e1, e2⟩ := e_cost h (u := x / 20 % 3) (y := x / 20 / 40 % 11) ⟨by omega, by omega⟩ ⟨by omega, by omega⟩
  refine ⟨told, C, ?_, e2.dn h⟩
  unfold fL_does
  exact w_gd ⟨by omega, by omega⟩ (w_gd ⟨by omega, by omega⟩ (w_gd ⟨by omega, by omega⟩ (w_gdR (by omega) (by omega) (w_t hk (w_gd ⟨by omega, by omega⟩ (w_gd ⟨by omega, by omega⟩ (w_bind e1 rfl)))))))

theorem dn_1 {i : Int} {M Mm : Mem} (h : SI i M Mm) (hi : 0 ≤ i ∧ i ≤ 90) {x : Int} (hx : 0 ≤ x ∧ x < 2147483648) (hk : x % 20 = 1) : ∃ told C, fL_does M x = some (told, C) ∧ Dn i M Mm told C := by
  obtain ⟨v, v1, v2⟩ : ∃ v : Int, (if x / 20 / 40 % 3 = 0 then some 0 else gd (0 ≤ x / 20 / 40 ∧ x / 20 / 40 < 2147483648) (gd (0 ≤ x / 20 / 40 / 3 ∧ x / 20 / 40 / 3 < 2147483648) (some (x / 20 / 40 / 3 % 52)))) = some v ∧ 0 ≤ v ∧ v ≤ 51 := by
    by_cases q : x / 20 / 40 % 3 = 0
    · exact ⟨0, w_t q rfl, by omega, by omega⟩
    · exact ⟨x / 20 / 40 / 3 % 52, w_f q (w_gd ⟨by omega, by omega⟩ (w_gd ⟨by omega, by omega⟩ rfl)), by omega, by omega⟩
  obtain ⟨told, C, e1, e2⟩ := e_lay h (u := x / 20 % 61) (y := v) ⟨by omega, by omega⟩ v2
  refine ⟨told, C, ?_, e2.dn h⟩
  unfold fL_does
  exact w_gd ⟨by omega, by omega⟩ (w_gd ⟨by omega, by omega⟩ (w_gd ⟨by omega, by omega⟩ (w_gdR (by omega) (by omega) (w_f (by omega) (w_t hk (w_gd ⟨by omega, by omega⟩ (w_gd ⟨by omega, by omega⟩ (w_gdR (by omega) (by omega) (w_bind v1 (w_bind e1 rfl))))))))))

theorem dn_2 {i : Int} {M Mm : Mem} (h : SI i M Mm) (hi : 0 ≤ i ∧ i ≤ 90) {x : Int} (hx : 0 ≤ x ∧ x < 2147483648) (hk : x % 20 = 2) : ∃ told C, fL_does M x = some (told, C) ∧ Dn i M Mm told C := by
  obtain ⟨v, v1, v2⟩ : ∃ v : Int, (if x / 20 / 40 % 3 = 0 then some 0 else gd (0 ≤ x / 20 / 40 ∧ x / 20 / 40 < 2147483648) (gd (0 ≤ x / 20 / 40 / 3 ∧ x / 20 / 40 / 3 < 2147483648) (some (x / 20 / 40 / 3 % 52)))) = some v ∧ 0 ≤ v ∧ v ≤ 51 := by
    by_cases q : x / 20 / 40 % 3 = 0
    · exact ⟨0, w_t q rfl, by omega, by omega⟩
    · exact ⟨x / 20 / 40 / 3 % 52, w_f q (w_gd ⟨by omega, by omega⟩ (w_gd ⟨by omega, by omega⟩ rfl)), by omega, by omega⟩
  obtain ⟨told, C, e1, e2⟩ := e_lay h (u := x / 20 % 61) (y := v) ⟨by omega, by omega⟩ v2
  refine ⟨told, C, ?_, e2.dn h⟩
  unfold fL_does
  exact w_gd ⟨by omega, by omega⟩ (w_gd ⟨by omega, by omega⟩ (w_gd ⟨by omega, by omega⟩ (w_gdR (by omega) (by omega) (w_f (by omega) (w_f (by omega) (w_t hk (w_gd ⟨by omega, by omega⟩ (w_gd ⟨by omega, by omega⟩ (w_gdR (by omega) (by omega) (w_bind v1 (w_bind e1 rfl)))))))))))

theorem dn_3 {i : Int} {M Mm : Mem} (h : SI i M Mm) (hi : 0 ≤ i ∧ i ≤ 90) {x : Int} (hx : 0 ≤ x ∧ x < 2147483648) (hk : x % 20 = 3) : ∃ told C, fL_does M x = some (told, C) ∧ Dn i M Mm told C := by
  obtain ⟨v, v1, v2⟩ : ∃ v : Int, (if x / 20 / 40 % 3 = 0 then some 0 else gd (0 ≤ x / 20 / 40 ∧ x / 20 / 40 < 2147483648) (gd (0 ≤ x / 20 / 40 / 3 ∧ x / 20 / 40 / 3 < 2147483648) (some (x / 20 / 40 / 3 % 52)))) = some v ∧ 0 ≤ v ∧ v ≤ 51 := by
    by_cases q : x / 20 / 40 % 3 = 0
    · exact ⟨0, w_t q rfl, by omega, by omega⟩
    · exact ⟨x / 20 / 40 / 3 % 52, w_f q (w_gd ⟨by omega, by omega⟩ (w_gd ⟨by omega, by omega⟩ rfl)), by omega, by omega⟩
  obtain ⟨told, C, e1, e2⟩ := e_lay h (u := x / 20 % 61) (y := v) ⟨by omega, by omega⟩ v2
  refine ⟨told, C, ?_, e2.dn h⟩
  unfold fL_does
  exact w_gd ⟨by omega, by omega⟩ (w_gd ⟨by omega, by omega⟩ (w_gd ⟨by omega, by omega⟩ (w_gdR (by omega) (by omega) (w_f (by omega) (w_f (by omega) (w_f (by omega) (w_t hk (w_gd ⟨by omega, by omega⟩ (w_gd ⟨by omega, by omega⟩ (w_gdR (by omega) (by omega) (w_bind v1 (w_bind e1 rfl))))))))))))

theorem dn_4 {i : Int} {M Mm : Mem} (h : SI i M Mm) (hi : 0 ≤ i ∧ i ≤ 90) {x : Int} (hx : 0 ≤ x ∧ x < 2147483648) (hk : x % 20 = 4) : ∃ told C, fL_does M x = some (told, C) ∧ Dn i M Mm told C := by
  obtain ⟨told, C, e1, e2⟩ := e_town h (u := x / 20 % 37) ⟨by omega, by omega⟩
  rcases e2 with ⟨a, b⟩ | ⟨a, Mm', b⟩
  · refine ⟨told, wr C 21 0 (C 21 0 + 0), ?_, Or.inl ⟨a, ?_⟩⟩
    · unfold fL_does
      exact w_gd ⟨by omega, by omega⟩ (w_gd ⟨by omega, by omega⟩ (w_gd ⟨by omega, by omega⟩ (w_gdR (by omega) (by omega) (w_f (by omega) (w_f (by omega) (w_f (by omega) (w_f (by omega) (w_t hk (w_gd ⟨by omega, by omega⟩ (w_bind e1 (w_bind (refV a) (w_gd R1 (w_bind (t := 0) (w_f N1 rfl) rfl)))))))))))))
    · rw [show C 21 0 + 0 = C 21 0 by omega, wr_self, b]; exact h
  · refine ⟨told, wr C 21 0 (C 21 0 + 1), ?_, Or.inr ⟨a, Mm', b.up⟩⟩
    unfold fL_does
    exact w_gd ⟨by omega, by omega⟩ (w_gd ⟨by omega, by omega⟩ (w_gd ⟨by omega, by omega⟩ (w_gdR (by omega) (by omega) (w_f (by omega) (w_f (by omega) (w_f (by omega) (w_f (by omega) (w_t hk (w_gd ⟨by omega, by omega⟩ (w_bind e1 (w_bind (okV a) (w_gd R0 (w_bind (t := 1) (w_t rfl rfl) rfl)))))))))))))

theorem dn_5 {i : Int} {M Mm : Mem} (h : SI i M Mm) (hi : 0 ≤ i ∧ i ≤ 90) {x : Int} (hx : 0 ≤ x ∧ x < 2147483648) (hk : x % 20 = 5) : ∃ told C, fL_does M x = some (told, C) ∧ Dn i M Mm told C := by
  obtain ⟨told, C, e1, e2⟩ := e_town h (u := x / 20 % 37) ⟨by omega, by omega⟩
  rcases e2 with ⟨a, b⟩ | ⟨a, Mm', b⟩
  · refine ⟨told, wr C 21 0 (C 21 0 + 0), ?_, Or.inl ⟨a, ?_⟩⟩
    · unfold fL_does
      exact w_gd ⟨by omega, by omega⟩ (w_gd ⟨by omega, by omega⟩ (w_gd ⟨by omega, by omega⟩ (w_gdR (by omega) (by omega) (w_f (by omega) (w_f (by omega) (w_f (by omega) (w_f (by omega) (w_f (by omega) (w_t hk (w_gd ⟨by omega, by omega⟩ (w_bind e1 (w_bind (refV a) (w_gd R1 (w_bind (t := 0) (w_f N1 rfl) rfl))))))))))))))
    · rw [show C 21 0 + 0 = C 21 0 by omega, wr_self, b]; exact h
  · refine ⟨told, wr C 21 0 (C 21 0 + 1), ?_, Or.inr ⟨a, Mm', b.up⟩⟩
    unfold fL_does
    exact w_gd ⟨by omega, by omega⟩ (w_gd ⟨by omega, by omega⟩ (w_gd ⟨by omega, by omega⟩ (w_gdR (by omega) (by omega) (w_f (by omega) (w_f (by omega) (w_f (by omega) (w_f (by omega) (w_f (by omega) (w_t hk (w_gd ⟨by omega, by omega⟩ (w_bind e1 (w_bind (okV a) (w_gd R0 (w_bind (t := 1) (w_t rfl rfl) rfl))))))))))))))

theorem dn_6 {i : Int} {M Mm : Mem} (h : SI i M Mm) (hi : 0 ≤ i ∧ i ≤ 90) {x : Int} (hx : 0 ≤ x ∧ x < 2147483648) (hk : x % 20 = 6) : ∃ told C, fL_does M x = some (told, C) ∧ Dn i M Mm told C := by
  obtain ⟨told, C, e1, e2⟩ := e_town h (u := x / 20 % 37) ⟨by omega, by omega⟩
  rcases e2 with ⟨a, b⟩ | ⟨a, Mm', b⟩
  · refine ⟨told, wr C 21 0 (C 21 0 + 0), ?_, Or.inl ⟨a, ?_⟩⟩
    · unfold fL_does
      exact w_gd ⟨by omega, by omega⟩ (w_gd ⟨by omega, by omega⟩ (w_gd ⟨by omega, by omega⟩ (w_gdR (by omega) (by omega) (w_f (by omega) (w_f (by omega) (w_f (by omega) (w_f (by omega) (w_f (by omega) (w_f (by omega) (w_t hk (w_gd ⟨by omega, by omega⟩ (w_bind e1 (w_bind (refV a) (w_gd R1 (w_bind (t := 0) (w_f N1 rfl) rfl)))))))))))))))
    · rw [show C 21 0 + 0 = C 21 0 by omega, wr_self, b]; exact h
  · refine ⟨told, wr C 21 0 (C 21 0 + 1), ?_, Or.inr ⟨a, Mm', b.up⟩⟩
    unfold fL_does
    exact w_gd ⟨by omega, by omega⟩ (w_gd ⟨by omega, by omega⟩ (w_gd ⟨by omega, by omega⟩ (w_gdR (by omega) (by omega) (w_f (by omega) (w_f (by omega) (w_f (by omega) (w_f (by omega) (w_f (by omega) (w_f (by omega) (w_t hk (w_gd ⟨by omega, by omega⟩ (w_bind e1 (w_bind (okV a) (w_gd R0 (w_bind (t := 1) (w_t rfl rfl) rfl)))))))))))))))

theorem dn_7 {i : Int} {M Mm : Mem} (h : SI i M Mm) (hi : 0 ≤ i ∧ i ≤ 90) {x : Int} (hx : 0 ≤ x ∧ x < 2147483648) (hk : x % 20 = 7) : ∃ told C, fL_does M x = some (told, C) ∧ Dn i M Mm told C := by
  obtain ⟨told, C, e1, e2⟩ := e_away h (u := x / 20 % 7) ⟨by omega, by omega⟩
  rcases e2 with ⟨a, b⟩ | ⟨a, Mm', b⟩
  · refine ⟨told, wr C 21 0 (C 21 0 - 0), ?_, Or.inl ⟨a, ?_⟩⟩
    · unfold fL_does
      exact w_gd ⟨by omega, by omega⟩ (w_gd ⟨by omega, by omega⟩ (w_gd ⟨by omega, by omega⟩ (w_gdR (by omega) (by omega) (w_f (by omega) (w_f (by omega) (w_f (by omega) (w_f (by omega) (w_f (by omega) (w_f (by omega) (w_f (by omega) (w_t hk (w_gd ⟨by omega, by omega⟩ (w_bind e1 (w_bind (refV a) (w_gd R1 (w_bind (t := 0) (w_f N1 rfl) rfl))))))))))))))))
    · rw [show C 21 0 - 0 = C 21 0 by omega, wr_self, b]; exact h
  · refine ⟨told, wr C 21 0 (C 21 0 - 1), ?_, Or.inr ⟨a, Mm', b.up⟩⟩
    unfold fL_does
    exact w_gd ⟨by omega, by omega⟩ (w_gd ⟨by omega, by omega⟩ (w_gd ⟨by omega, by omega⟩ (w_gdR (by omega) (by omega) (w_f (by omega) (w_f (by omega) (w_f (by omega) (w_f (by omega) (w_f (by omega) (w_f (by omega) (w_f (by omega) (w_t hk (w_gd ⟨by omega, by omega⟩ (w_bind e1 (w_bind (okV a) (w_gd R0 (w_bind (t := 1) (w_t rfl rfl) rfl))))))))))))))))

theorem dn_8 {i : Int} {M Mm : Mem} (h : SI i M Mm) (hi : 0 ≤ i ∧ i ≤ 90) {x : Int} (hx : 0 ≤ x ∧ x < 2147483648) (hk : x % 20 = 8) : ∃ told C, fL_does M x = some (told, C) ∧ Dn i M Mm told C := by
  obtain ⟨told, C, e1, e2⟩ := e_pin h (u := x / 20 % 37) (y := x / 20 / 40 % 4) ⟨by omega, by omega⟩ ⟨by omega, by omega⟩
  rcases e2 with ⟨a, b⟩ | ⟨a, b1, b2, Mm', b3⟩
  · refine ⟨told, C, ?_, Or.inl ⟨a, by rw [b]; exact h⟩⟩
    unfold fL_does
    exact w_gd ⟨by omega, by omega⟩ (w_gd ⟨by omega, by omega⟩ (w_gd ⟨by omega, by omega⟩ (w_gdR (by omega) (by omega) (w_f (by omega) (w_f (by omega) (w_f (by omega) (w_f (by omega) (w_f (by omega) (w_f (by omega) (w_f (by omega) (w_f (by omega) (w_t hk (w_gd ⟨by omega, by omega⟩ (w_gd ⟨by omega, by omega⟩ (w_bind e1 (w_bind (refV a) (w_gd R1 (w_f N1 rfl))))))))))))))))))
  · have a9 := a
    rw [← b2] at a9
    have a1 := a9.1
    have a2 := a9.2
    refine ⟨told, wr C 22 (x / 20 % 37).toNat (x / 20 / 40 % 4), ?_, Or.inr ⟨a, Mm', b3.up⟩⟩
    unfold fL_does
    exact w_gd ⟨by omega, by omega⟩ (w_gd ⟨by omega, by omega⟩ (w_gd ⟨by omega, by omega⟩ (w_gdR (by omega) (by omega) (w_f (by omega) (w_f (by omega) (w_f (by omega) (w_f (by omega) (w_f (by omega) (w_f (by omega) (w_f (by omega) (w_f (by omega) (w_t hk (w_gd ⟨by omega, by omega⟩ (w_gd ⟨by omega, by omega⟩ (w_bind e1 (w_bind (okV a) (w_gd R0 (w_t rfl (w_gd ⟨by omega, by omega⟩ (w_gdB (by omega) (by omega) (w_gd (show inR (C 22 (x / 20 % 37).toNat) from ⟨by omega, by omega⟩) (w_gdR (by have := a.1; omega) (by have := a.2; omega) (w_bind (t := 1) (w_t b2 rfl) (w_gd ⟨by omega, by omega⟩ (w_gd ⟨by omega, by omega⟩ (w_gdB (by omega) (by omega) (w_gd R1 (w_bind (t := told) (w_f N1 rfl) rfl))))))))))))))))))))))))))))

theorem dn_9 {i : Int} {M Mm : Mem} (h : SI i M Mm) (hi : 0 ≤ i ∧ i ≤ 90) {x : Int} (hx : 0 ≤ x ∧ x < 2147483648) (hk : x % 20 = 9) : ∃ told C, fL_does M x = some (told, C) ∧ Dn i M Mm told C := by
  obtain ⟨told, C, e1, e2⟩ := e_pin h (u := x / 20 % 37) (y := x / 20 / 40 % 4) ⟨by omega, by omega⟩ ⟨by omega, by omega⟩
  rcases e2 with ⟨a, b⟩ | ⟨a, b1, b2, Mm', b3⟩
  · refine ⟨told, C, ?_, Or.inl ⟨a, by rw [b]; exact h⟩⟩
    unfold fL_does
    exact w_gd ⟨by omega, by omega⟩ (w_gd ⟨by omega, by omega⟩ (w_gd ⟨by omega, by omega⟩ (w_gdR (by omega) (by omega) (w_f (by omega) (w_f (by omega) (w_f (by omega) (w_f (by omega) (w_f (by omega) (w_f (by omega) (w_f (by omega) (w_f (by omega) (w_f (by omega) (w_t hk (w_gd ⟨by omega, by omega⟩ (w_gd ⟨by omega, by omega⟩ (w_bind e1 (w_bind (refV a) (w_gd R1 (w_f N1 rfl)))))))))))))))))))
  · have a9 := a
    rw [← b2] at a9
    have a1 := a9.1
    have a2 := a9.2
    refine ⟨told, wr C 22 (x / 20 % 37).toNat (x / 20 / 40 % 4), ?_, Or.inr ⟨a, Mm', b3.up⟩⟩
    unfold fL_does
    exact w_gd ⟨by omega, by omega⟩ (w_gd ⟨by omega, by omega⟩ (w_gd ⟨by omega, by omega⟩ (w_gdR (by omega) (by omega) (w_f (by omega) (w_f (by omega) (w_f (by omega) (w_f (by omega) (w_f (by omega) (w_f (by omega) (w_f (by omega) (w_f (by omega) (w_f (by omega) (w_t hk (w_gd ⟨by omega, by omega⟩ (w_gd ⟨by omega, by omega⟩ (w_bind e1 (w_bind (okV a) (w_gd R0 (w_t rfl (w_gd ⟨by omega, by omega⟩ (w_gdB (by omega) (by omega) (w_gd (show inR (C 22 (x / 20 % 37).toNat) from ⟨by omega, by omega⟩) (w_gdR (by have := a.1; omega) (by have := a.2; omega) (w_bind (t := 1) (w_t b2 rfl) (w_gd ⟨by omega, by omega⟩ (w_gd ⟨by omega, by omega⟩ (w_gdB (by omega) (by omega) (w_gd R1 (w_bind (t := told) (w_f N1 rfl) rfl)))))))))))))))))))))))))))))

theorem dn_10 {i : Int} {M Mm : Mem} (h : SI i M Mm) (hi : 0 ≤ i ∧ i ≤ 90) {x : Int} (hx : 0 ≤ x ∧ x < 2147483648) (hk : x % 20 = 10) : ∃ told C, fL_does M x = some (told, C) ∧ Dn i M Mm told C := by
  obtain ⟨told, C, e1, e2⟩ := e_pin h (u := x / 20 % 37) (y := x / 20 / 40 % 4) ⟨by omega, by omega⟩ ⟨by omega, by omega⟩
  rcases e2 with ⟨a, b⟩ | ⟨a, b1, b2, Mm', b3⟩
  · refine ⟨told, C, ?_, Or.inl ⟨a, by rw [b]; exact h⟩⟩
    unfold fL_does
    exact w_gd ⟨by omega, by omega⟩ (w_gd ⟨by omega, by omega⟩ (w_gd ⟨by omega, by omega⟩ (w_gdR (by omega) (by omega) (w_f (by omega) (w_f (by omega) (w_f (by omega) (w_f (by omega) (w_f (by omega) (w_f (by omega) (w_f (by omega) (w_f (by omega) (w_f (by omega) (w_f (by omega) (w_t hk (w_gd ⟨by omega, by omega⟩ (w_gd ⟨by omega, by omega⟩ (w_bind e1 (w_bind (refV a) (w_gd R1 (w_f N1 rfl))))))))))))))))))))
  · have a9 := a
    rw [← b2] at a9
    have a1 := a9.1
    have a2 := a9.2
    refine ⟨told, wr C 22 (x / 20 % 37).toNat (x / 20 / 40 % 4), ?_, Or.inr ⟨a, Mm', b3.up⟩⟩
    unfold fL_does
    exact w_gd ⟨by omega, by omega⟩ (w_gd ⟨by omega, by omega⟩ (w_gd ⟨by omega, by omega⟩ (w_gdR (by omega) (by omega) (w_f (by omega) (w_f (by omega) (w_f (by omega) (w_f (by omega) (w_f (by omega) (w_f (by omega) (w_f (by omega) (w_f (by omega) (w_f (by omega) (w_f (by omega) (w_t hk (w_gd ⟨by omega, by omega⟩ (w_gd ⟨by omega, by omega⟩ (w_bind e1 (w_bind (okV a) (w_gd R0 (w_t rfl (w_gd ⟨by omega, by omega⟩ (w_gdB (by omega) (by omega) (w_gd (show inR (C 22 (x / 20 % 37).toNat) from ⟨by omega, by omega⟩) (w_gdR (by have := a.1; omega) (by have := a.2; omega) (w_bind (t := 1) (w_t b2 rfl) (w_gd ⟨by omega, by omega⟩ (w_gd ⟨by omega, by omega⟩ (w_gdB (by omega) (by omega) (w_gd R1 (w_bind (t := told) (w_f N1 rfl) rfl))))))))))))))))))))))))))))))

theorem dn_11 {i : Int} {M Mm : Mem} (h : SI i M Mm) (hi : 0 ≤ i ∧ i ≤ 90) {x : Int} (hx : 0 ≤ x ∧ x < 2147483648) (hk : x % 20 = 11) : ∃ told C, fL_does M x = some (told, C) ∧ Dn i M Mm told C := by
  obtain ⟨v, v1, v2⟩ : ∃ v : Int, (if x / 20 / 40 % 2 = 0 then gd (0 ≤ x / 20 / 40 ∧ x / 20 / 40 < 2147483648) (gd (0 ≤ x / 20 / 40 / 2 ∧ x / 20 / 40 / 2 < 2147483648) (some (x / 20 / 40 / 2 % 9))) else gd (0 ≤ x / 20 / 40 ∧ x / 20 / 40 < 2147483648) (gd (0 ≤ x / 20 / 40 / 2 ∧ x / 20 / 40 / 2 < 2147483648) (some (x / 20 / 40 / 2 % 3)))) = some v ∧ 0 ≤ v ∧ v ≤ 8 := by
    by_cases q : x / 20 / 40 % 2 = 0
    · exact ⟨x / 20 / 40 / 2 % 9, w_t q (w_gd ⟨by omega, by omega⟩ (w_gd ⟨by omega, by omega⟩ rfl)), by omega, by omega⟩
    · exact ⟨x / 20 / 40 / 2 % 3, w_f q (w_gd ⟨by omega, by omega⟩ (w_gd ⟨by omega, by omega⟩ rfl)), by omega, by omega⟩
  obtain ⟨told, C, e1, e2⟩ := e_pull h (u := x / 20 % 37) (y := v) ⟨by omega, by omega⟩ v2
  refine ⟨told, C, ?_, e2.dn h⟩
  unfold fL_does
  exact w_gd ⟨by omega, by omega⟩ (w_gd ⟨by omega, by omega⟩ (w_gd ⟨by omega, by omega⟩ (w_gdR (by omega) (by omega) (w_f (by omega) (w_f (by omega) (w_f (by omega) (w_f (by omega) (w_f (by omega) (w_f (by omega) (w_f (by omega) (w_f (by omega) (w_f (by omega) (w_f (by omega) (w_f (by omega) (w_t hk (w_gd ⟨by omega, by omega⟩ (w_gd ⟨by omega, by omega⟩ (w_gdR (by omega) (by omega) (w_bind v1 (w_bind e1 rfl))))))))))))))))))))

theorem dn_12 {i : Int} {M Mm : Mem} (h : SI i M Mm) (hi : 0 ≤ i ∧ i ≤ 90) {x : Int} (hx : 0 ≤ x ∧ x < 2147483648) (hk : x % 20 = 12) : ∃ told C, fL_does M x = some (told, C) ∧ Dn i M Mm told C := by
  obtain ⟨v, v1, v2⟩ : ∃ v : Int, (if x / 20 / 40 % 2 = 0 then gd (0 ≤ x / 20 / 40 ∧ x / 20 / 40 < 2147483648) (gd (0 ≤ x / 20 / 40 / 2 ∧ x / 20 / 40 / 2 < 2147483648) (some (x / 20 / 40 / 2 % 9))) else gd (0 ≤ x / 20 / 40 ∧ x / 20 / 40 < 2147483648) (gd (0 ≤ x / 20 / 40 / 2 ∧ x / 20 / 40 / 2 < 2147483648) (some (x / 20 / 40 / 2 % 3)))) = some v ∧ 0 ≤ v ∧ v ≤ 8 := by
    by_cases q : x / 20 / 40 % 2 = 0
    · exact ⟨x / 20 / 40 / 2 % 9, w_t q (w_gd ⟨by omega, by omega⟩ (w_gd ⟨by omega, by omega⟩ rfl)), by omega, by omega⟩
    · exact ⟨x / 20 / 40 / 2 % 3, w_f q (w_gd ⟨by omega, by omega⟩ (w_gd ⟨by omega, by omega⟩ rfl)), by omega, by omega⟩
  obtain ⟨told, C, e1, e2⟩ := e_pull h (u := x / 20 % 37) (y := v) ⟨by omega, by omega⟩ v2
  refine ⟨told, C, ?_, e2.dn h⟩
  unfold fL_does
  exact w_gd ⟨by omega, by omega⟩ (w_gd ⟨by omega, by omega⟩ (w_gd ⟨by omega, by omega⟩ (w_gdR (by omega) (by omega) (w_f (by omega) (w_f (by omega) (w_f (by omega) (w_f (by omega) (w_f (by omega) (w_f (by omega) (w_f (by omega) (w_f (by omega) (w_f (by omega) (w_f (by omega) (w_f (by omega) (w_f (by omega) (w_t hk (w_gd ⟨by omega, by omega⟩ (w_gd ⟨by omega, by omega⟩ (w_gdR (by omega) (by omega) (w_bind v1 (w_bind e1 rfl)))))))))))))))))))))

theorem dn_13 {i : Int} {M Mm : Mem} (h : SI i M Mm) (hi : 0 ≤ i ∧ i ≤ 90) {x : Int} (hx : 0 ≤ x ∧ x < 2147483648) (hk : x % 20 = 13) : ∃ told C, fL_does M x = some (told, C) ∧ Dn i M Mm told C := by
  obtain ⟨v, v1, v2⟩ : ∃ v : Int, (if x / 20 / 40 % 2 = 0 then gd (0 ≤ x / 20 / 40 ∧ x / 20 / 40 < 2147483648) (gd (0 ≤ x / 20 / 40 / 2 ∧ x / 20 / 40 / 2 < 2147483648) (some (x / 20 / 40 / 2 % 9))) else gd (0 ≤ x / 20 / 40 ∧ x / 20 / 40 < 2147483648) (gd (0 ≤ x / 20 / 40 / 2 ∧ x / 20 / 40 / 2 < 2147483648) (some (x / 20 / 40 / 2 % 3)))) = some v ∧ 0 ≤ v ∧ v ≤ 8 := by
    by_cases q : x / 20 / 40 % 2 = 0
    · exact ⟨x / 20 / 40 / 2 % 9, w_t q (w_gd ⟨by omega, by omega⟩ (w_gd ⟨by omega, by omega⟩ rfl)), by omega, by omega⟩
    · exact ⟨x / 20 / 40 / 2 % 3, w_f q (w_gd ⟨by omega, by omega⟩ (w_gd ⟨by omega, by omega⟩ rfl)), by omega, by omega⟩
  obtain ⟨told, C, e1, e2⟩ := e_pull h (u := x / 20 % 37) (y := v) ⟨by omega, by omega⟩ v2
  refine ⟨told, C, ?_, e2.dn h⟩
  unfold fL_does
  exact w_gd ⟨by omega, by omega⟩ (w_gd ⟨by omega, by omega⟩ (w_gd ⟨by omega, by omega⟩ (w_gdR (by omega) (by omega) (w_f (by omega) (w_f (by omega) (w_f (by omega) (w_f (by omega) (w_f (by omega) (w_f (by omega) (w_f (by omega) (w_f (by omega) (w_f (by omega) (w_f (by omega) (w_f (by omega) (w_f (by omega) (w_f (by omega) (w_t hk (w_gd ⟨by omega, by omega⟩ (w_gd ⟨by omega, by omega⟩ (w_gdR (by omega) (by omega) (w_bind v1 (w_bind e1 rfl))))))))))))))))))))))

theorem dn_14 {i : Int} {M Mm : Mem} (h : SI i M Mm) (hi : 0 ≤ i ∧ i ≤ 90) {x : Int} (hx : 0 ≤ x ∧ x < 2147483648) (hk : x % 20 = 14) : ∃ told C, fL_does M x = some (told, C) ∧ Dn i M Mm told C := by
  obtain ⟨v, v1, v2⟩ : ∃ v : Int, (if x / 20 / 40 % 2 = 0 then gd (0 ≤ x / 20 / 40 ∧ x / 20 / 40 < 2147483648) (gd (0 ≤ x / 20 / 40 / 2 ∧ x / 20 / 40 / 2 < 2147483648) (some (x / 20 / 40 / 2 % 9))) else gd (0 ≤ x / 20 / 40 ∧ x / 20 / 40 < 2147483648) (gd (0 ≤ x / 20 / 40 / 2 ∧ x / 20 / 40 / 2 < 2147483648) (some (x / 20 / 40 / 2 % 3)))) = some v ∧ 0 ≤ v ∧ v ≤ 8 := by
    by_cases q : x / 20 / 40 % 2 = 0
    · exact ⟨x / 20 / 40 / 2 % 9, w_t q (w_gd ⟨by omega, by omega⟩ (w_gd ⟨by omega, by omega⟩ rfl)), by omega, by omega⟩
    · exact ⟨x / 20 / 40 / 2 % 3, w_f q (w_gd ⟨by omega, by omega⟩ (w_gd ⟨by omega, by omega⟩ rfl)), by omega, by omega⟩
  obtain ⟨told, C, e1, e2⟩ := e_pull h (u := x / 20 % 37) (y := v) ⟨by omega, by omega⟩ v2
  refine ⟨told, C, ?_, e2.dn h⟩
  unfold fL_does
  exact w_gd ⟨by omega, by omega⟩ (w_gd ⟨by omega, by omega⟩ (w_gd ⟨by omega, by omega⟩ (w_gdR (by omega) (by omega) (w_f (by omega) (w_f (by omega) (w_f (by omega) (w_f (by omega) (w_f (by omega) (w_f (by omega) (w_f (by omega) (w_f (by omega) (w_f (by omega) (w_f (by omega) (w_f (by omega) (w_f (by omega) (w_f (by omega) (w_f (by omega) (w_t hk (w_gd ⟨by omega, by omega⟩ (w_gd ⟨by omega, by omega⟩ (w_gdR (by omega) (by omega) (w_bind v1 (w_bind e1 rfl)))))))))))))))))))))))

theorem dn_15 {i : Int} {M Mm : Mem} (h : SI i M Mm) (hi : 0 ≤ i ∧ i ≤ 90) {x : Int} (hx : 0 ≤ x ∧ x < 2147483648) (hk : x % 20 = 15) : ∃ told C, fL_does M x = some (told, C) ∧ Dn i M Mm told C := by
  obtain ⟨v, v1, v2⟩ : ∃ v : Int, (if x / 20 / 40 % 2 = 0 then gd (0 ≤ x / 20 / 40 ∧ x / 20 / 40 < 2147483648) (gd (0 ≤ x / 20 / 40 / 2 ∧ x / 20 / 40 / 2 < 2147483648) (some (x / 20 / 40 / 2 % 9))) else gd (0 ≤ x / 20 / 40 ∧ x / 20 / 40 < 2147483648) (gd (0 ≤ x / 20 / 40 / 2 ∧ x / 20 / 40 / 2 < 2147483648) (some (x / 20 / 40 / 2 % 3)))) = some v ∧ 0 ≤ v ∧ v ≤ 8 := by
    by_cases q : x / 20 / 40 % 2 = 0
    · exact ⟨x / 20 / 40 / 2 % 9, w_t q (w_gd ⟨by omega, by omega⟩ (w_gd ⟨by omega, by omega⟩ rfl)), by omega, by omega⟩
    · exact ⟨x / 20 / 40 / 2 % 3, w_f q (w_gd ⟨by omega, by omega⟩ (w_gd ⟨by omega, by omega⟩ rfl)), by omega, by omega⟩
  obtain ⟨told, C, e1, e2⟩ := e_pull h (u := x / 20 % 37) (y := v) ⟨by omega, by omega⟩ v2
  refine ⟨told, C, ?_, e2.dn h⟩
  unfold fL_does
  exact w_gd ⟨by omega, by omega⟩ (w_gd ⟨by omega, by omega⟩ (w_gd ⟨by omega, by omega⟩ (w_gdR (by omega) (by omega) (w_f (by omega) (w_f (by omega) (w_f (by omega) (w_f (by omega) (w_f (by omega) (w_f (by omega) (w_f (by omega) (w_f (by omega) (w_f (by omega) (w_f (by omega) (w_f (by omega) (w_f (by omega) (w_f (by omega) (w_f (by omega) (w_f (by omega) (w_t hk (w_gd ⟨by omega, by omega⟩ (w_gd ⟨by omega, by omega⟩ (w_gdR (by omega) (by omega) (w_bind v1 (w_bind e1 rfl))))))))))))))))))))))))

theorem dn_16 {i : Int} {M Mm : Mem} (h : SI i M Mm) (hi : 0 ≤ i ∧ i ≤ 90) {x : Int} (hx : 0 ≤ x ∧ x < 2147483648) (hk : x % 20 = 16) : ∃ told C, fL_does M x = some (told, C) ∧ Dn i M Mm told C := by
  obtain ⟨v, v1, v2⟩ : ∃ v : Int, (if x / 20 / 40 % 3 = 0 then some 1 else some 0) = some v ∧ (v = 0 ∨ v = 1) := by
    by_cases q : x / 20 / 40 % 3 = 0
    · exact ⟨1, w_t q rfl, Or.inr rfl⟩
    · exact ⟨0, w_f q rfl, Or.inl rfl⟩
  obtain ⟨told, C, e1, e2⟩ := e_hold h (u := x / 20 % 9) (y := v) ⟨by omega, by omega⟩ v2
  refine ⟨told, C, ?_, e2.dn h⟩
  unfold fL_does
  exact w_gd ⟨by omega, by omega⟩ (w_gd ⟨by omega, by omega⟩ (w_gd ⟨by omega, by omega⟩ (w_gdR (by omega) (by omega) (w_f (by omega) (w_f (by omega) (w_f (by omega) (w_f (by omega) (w_f (by omega) (w_f (by omega) (w_f (by omega) (w_f (by omega) (w_f (by omega) (w_f (by omega) (w_f (by omega) (w_f (by omega) (w_f (by omega) (w_f (by omega) (w_f (by omega) (w_f (by omega) (w_t hk (w_gd ⟨by omega, by omega⟩ (w_gd ⟨by omega, by omega⟩ (w_gdR (by omega) (by omega) (w_bind v1 (w_bind e1 rfl)))))))))))))))))))))))))

theorem dn_17 {i : Int} {M Mm : Mem} (h : SI i M Mm) (hi : 0 ≤ i ∧ i ≤ 90) {x : Int} (hx : 0 ≤ x ∧ x < 2147483648) (hk : x % 20 = 17) : ∃ told C, fL_does M x = some (told, C) ∧ Dn i M Mm told C := by
  have q1 := t_costOf_n (M := M) (far_lo (z := x / 20) ⟨by omega, by omega⟩)
  have q2 := t_costOf_n (M := M) (far_hi (z := x / 20) ⟨by omega, by omega⟩)
  have rf : fL_isRefused M (-2000000002) = some 1 := refV (Or.inr (Or.inl rfl))
  refine ⟨0, M, ?_, Or.inr ⟨⟨by omega, by omega⟩, Mm, h.up⟩⟩
  unfold fL_does
  exact w_gd ⟨by omega, by omega⟩ (w_gd ⟨by omega, by omega⟩ (w_gd ⟨by omega, by omega⟩ (w_gdR (by omega) (by omega) (w_f (by omega) (w_f (by omega) (w_f (by omega) (w_f (by omega) (w_f (by omega) (w_f (by omega) (w_f (by omega) (w_f (by omega) (w_f (by omega) (w_f (by omega) (w_f (by omega) (w_f (by omega) (w_f (by omega) (w_f (by omega) (w_f (by omega) (w_f (by omega) (w_f (by omega) (w_t hk (w_bind q1 (w_bind rf (w_gd R1 (w_bind (t := 0) (w_f N1 (w_bind q2 (w_bind rf (w_gd R1 (w_f N1 rfl))))) rfl)))))))))))))))))))))))))

theorem dn_18 {i : Int} {M Mm : Mem} (h : SI i M Mm) (hi : 0 ≤ i ∧ i ≤ 90) {x : Int} (hx : 0 ≤ x ∧ x < 2147483648) (hk : 18 ≤ x % 20) : ∃ told C, fL_does M x = some (told, C) ∧ Dn i M Mm told C := by
  obtain ⟨B, hB⟩ : ∃ B : Nat, x / 20 / 40 % 4 = (B : Int) := ⟨(x / 20 / 40 % 4).toNat, by omega⟩
  obtain ⟨told, C, e1, e2⟩ := q_breathes h hi (B := B) (by omega)
  rw [← hB] at e1
  refine ⟨told, C, ?_, e2⟩
  unfold fL_does
  exact w_gd ⟨by omega, by omega⟩ (w_gd ⟨by omega, by omega⟩ (w_gd ⟨by omega, by omega⟩ (w_gdR (by omega) (by omega) (w_f (by omega) (w_f (by omega) (w_f (by omega) (w_f (by omega) (w_f (by omega) (w_f (by omega) (w_f (by omega) (w_f (by omega) (w_f (by omega) (w_f (by omega) (w_f (by omega) (w_f (by omega) (w_f (by omega) (w_f (by omega) (w_f (by omega) (w_f (by omega) (w_f (by omega) (w_f (by omega) (w_gd ⟨by omega, by omega⟩ (w_bind e1 rfl)))))))))))))))))))))))

theorem q_does {i : Int} {M Mm : Mem} (h : SI i M Mm) (hi : 0 ≤ i ∧ i ≤ 90) {x : Int} (hx : 0 ≤ x ∧ x < 2147483648) : ∃ told C, fL_does M x = some (told, C) ∧ Dn i M Mm told C := by
  by_cases c0 : x % 20 = 0
  · exact dn_0 h hi hx c0
  by_cases c1 : x % 20 = 1
  · exact dn_1 h hi hx c1
  by_cases c2 : x % 20 = 2
  · exact dn_2 h hi hx c2
  by_cases c3 : x % 20 = 3
  · exact dn_3 h hi hx c3
  by_cases c4 : x % 20 = 4
  · exact dn_4 h hi hx c4
  by_cases c5 : x % 20 = 5
  · exact dn_5 h hi hx c5
  by_cases c6 : x % 20 = 6
  · exact dn_6 h hi hx c6
  by_cases c7 : x % 20 = 7
  · exact dn_7 h hi hx c7
  by_cases c8 : x % 20 = 8
  · exact dn_8 h hi hx c8
  by_cases c9 : x % 20 = 9
  · exact dn_9 h hi hx c9
  by_cases c10 : x % 20 = 10
  · exact dn_10 h hi hx c10
  by_cases c11 : x % 20 = 11
  · exact dn_11 h hi hx c11
  by_cases c12 : x % 20 = 12
  · exact dn_12 h hi hx c12
  by_cases c13 : x % 20 = 13
  · exact dn_13 h hi hx c13
  by_cases c14 : x % 20 = 14
  · exact dn_14 h hi hx c14
  by_cases c15 : x % 20 = 15
  · exact dn_15 h hi hx c15
  by_cases c16 : x % 20 = 16
  · exact dn_16 h hi hx c16
  by_cases c17 : x % 20 = 17
  · exact dn_17 h hi hx c17
  exact dn_18 h hi hx (by omega)
