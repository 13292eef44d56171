theorem zlcmp_eq {x y : Int64} (h : x = y) : zlcmp x y = 0 := by
  subst h
  unfold zlcmp lg_cmp
  rw [if_neg (by simp), if_pos rfl]
  rfl
theorem lx_S {G : LSt → Nat → List (Nat × Value) → List Value → Prop} {S S' : LSt} {pc : Nat} {lv : List (Nat × Value)} {st : List Value} (h : S = S') (k : G S' pc lv st) : G S pc lv st := h ▸ k
theorem lx_topl {G : LSt → Nat → List (Nat × Value) → List Value → Prop} {S : LSt} {pc : Nat} {lv : List (Nat × Value)} {st : List Value} {x x' : Int64} (h : x = x') (k : G S pc lv (.long x' :: st)) : G S pc lv (.long x :: st) := h ▸ k
theorem hcl_148 : Cond.constantLong RL 148 (4294967295) ∈ wsL_law := by decide +kernel
def Fc_cost (Rel : Mem → Mem → Prop) : Prop := ∀ (Mc Mm : Mem) (y0 : Int) (y1 : Int), Rel Mc Mm → (inR y0) → (inR y1) → ∃ (T : Nat × Int × Mem) (T9 : Int × Mem), fX5_cost Mc y0 y1 = some T ∧ fX6_cost Mm y0 y1 = some T9 ∧ (T.1 = 0 ∨ T.1 = 2) ∧ T9.2 100 0 = (if T.1 = 0 then 0 else 1) ∧ (T.1 = 0 → T.2.1 = T9.1) ∧ Rel T.2.2 T9.2
def Fc_lay (Rel : Mem → Mem → Prop) : Prop := ∀ (Mc Mm : Mem) (y0 : Int) (y1 : Int), Rel Mc Mm → (inR y0) → (inR y1) → ∃ (T : Nat × Int × Mem) (T9 : Int × Mem), fX5_lay Mc y0 y1 = some T ∧ fX6_lay Mm y0 y1 = some T9 ∧ (T.1 = 0 ∨ T.1 = 1 ∨ T.1 = 2) ∧ T9.2 100 0 = (if T.1 = 0 then 0 else if T.1 = 1 then 1 else 2) ∧ (T.1 = 0 → T.2.1 = T9.1) ∧ Rel T.2.2 T9.2
def Fc_edge (Rel : Mem → Mem → Prop) : Prop := ∀ (Mc Mm : Mem) (y0 : Int), Rel Mc Mm → (inR y0) → ∃ (T : Nat × Int × Mem) (T9 : Int × Mem), fX5_edge Mc y0 = some T ∧ fX6_edge Mm y0 = some T9 ∧ (T.1 = 0 ∨ T.1 = 1) ∧ T9.2 100 0 = (if T.1 = 0 then 0 else 1) ∧ (T.1 = 0 → T.2.1 = T9.1) ∧ Rel Mc T9.2
def Fc_apart (Rel : Mem → Mem → Prop) : Prop := ∀ (Mc Mm : Mem) (y0 : Int) (y1 : Int), Rel Mc Mm → (inR y0) → (inR y1) → ∃ (T : Nat × Int × Mem) (T9 : Int × Mem), fX5_apart Mc y0 y1 = some T ∧ fX6_apart Mm y0 y1 = some T9 ∧ (T.1 = 0 ∨ T.1 = 1) ∧ T9.2 100 0 = (if T.1 = 0 then 0 else 1) ∧ (T.1 = 0 → T.2.1 = T9.1) ∧ Rel T.2.2 T9.2
def Fc_town (Rel : Mem → Mem → Prop) : Prop := ∀ (Mc Mm : Mem) (y0 : Int), Rel Mc Mm → (inR y0) → ∃ (T : Nat × Int × Mem) (T9 : Int × Mem), fX5_town Mc y0 = some T ∧ fX6_town Mm y0 = some T9 ∧ (T.1 = 0 ∨ T.1 = 1 ∨ T.1 = 3) ∧ T9.2 100 0 = (if T.1 = 0 then 0 else if T.1 = 1 then 1 else 2) ∧ (T.1 = 0 → T.2.1 = T9.1) ∧ Rel T.2.2 T9.2
def Fc_away (Rel : Mem → Mem → Prop) : Prop := ∀ (Mc Mm : Mem) (y0 : Int), Rel Mc Mm → (inR y0) → ∃ (T : Nat × Int × Mem) (T9 : Int × Mem), fX5_away Mc y0 = some T ∧ fX6_away Mm y0 = some T9 ∧ (T.1 = 0 ∨ T.1 = 1) ∧ T9.2 100 0 = (if T.1 = 0 then 0 else 1) ∧ (T.1 = 0 → T.2.1 = T9.1) ∧ Rel T.2.2 T9.2
def Fc_townAt (Rel : Mem → Mem → Prop) : Prop := ∀ (Mc Mm : Mem) (y0 : Int), Rel Mc Mm → (inR y0) → ∃ (T : Nat × Int × Mem) (T9 : Int × Mem), fX5_townAt Mc y0 = some T ∧ fX6_townAt Mm y0 = some T9 ∧ (T.1 = 0 ∨ T.1 = 1) ∧ T9.2 100 0 = (if T.1 = 0 then 0 else 1) ∧ (T.1 = 0 → T.2.1 = T9.1) ∧ Rel Mc T9.2
def Fc_least (Rel : Mem → Mem → Prop) : Prop := ∀ (Mc Mm : Mem) , Rel Mc Mm → ∃ (T : Int × Mem) (T9 : Int × Mem), fX5_least Mc  = some T ∧ fX6_least Mm  = some T9 ∧ T.1 = T9.1 ∧ inR T9.1 ∧ Rel T.2 T9.2
def Fc_leastAnew (Rel : Mem → Mem → Prop) : Prop := ∀ (Mc Mm : Mem) , Rel Mc Mm → ∃ (T : Int × Mem) (T9 : Int × Mem), fX5_leastAnew Mc  = some T ∧ fX6_leastAnew Mm  = some T9 ∧ T.1 = T9.1 ∧ inR T9.1 ∧ Rel T.2 T9.2
def Fc_bound (Rel : Mem → Mem → Prop) : Prop := ∀ (Mc Mm : Mem) , Rel Mc Mm → ∃ (T : Int × Mem) (T9 : Int × Mem), fX5_bound Mc  = some T ∧ fX6_bound Mm  = some T9 ∧ T.1 = T9.1 ∧ inR T9.1 ∧ Rel T.2 T9.2
def Fc_gap (Rel : Mem → Mem → Prop) : Prop := ∀ (Mc Mm : Mem) , Rel Mc Mm → ∃ (T : Int × Mem) (T9 : Int × Mem), fX5_gap Mc  = some T ∧ fX6_gap Mm  = some T9 ∧ T.1 = T9.1 ∧ inR T9.1 ∧ Rel T.2 T9.2
def Fc_isUsed (Rel : Mem → Mem → Prop) : Prop := ∀ (Mc Mm : Mem) (y0 : Int), Rel Mc Mm → (inR y0) → ∃ (T : Nat × Int × Mem) (T9 : Int × Mem), fX5_isUsed Mc y0 = some T ∧ fX6_isUsed Mm y0 = some T9 ∧ (T.1 = 0 ∨ T.1 = 1) ∧ T9.2 100 0 = (if T.1 = 0 then 0 else 1) ∧ (T.1 = 0 → T.2.1 = T9.1 ∧ (T.2.1 = 0 ∨ T.2.1 = 1)) ∧ Rel T.2.2 T9.2
def Fc_twoWays (Rel : Mem → Mem → Prop) : Prop := ∀ (Mc Mm : Mem) (y0 : Int) (y1 : Int), Rel Mc Mm → (inR y0) → (inR y1) → ∃ (T : Nat × Int × Mem) (T9 : Int × Mem), fX5_twoWays Mc y0 y1 = some T ∧ fX6_twoWays Mm y0 y1 = some T9 ∧ (T.1 = 0 ∨ T.1 = 1 ∨ T.1 = 2) ∧ T9.2 100 0 = (if T.1 = 0 then 0 else if T.1 = 1 then 1 else 2) ∧ (T.1 = 0 → T.2.1 = T9.1) ∧ Rel T.2.2 T9.2
def Fc_pin (Rel : Mem → Mem → Prop) : Prop := ∀ (Mc Mm : Mem) (y0 : Int) (y1 : Int), Rel Mc Mm → (inR y0) → (inR y1) → ∃ (T : Nat × Int × Mem) (T9 : Int × Mem), fX5_pin Mc y0 y1 = some T ∧ fX6_pin Mm y0 y1 = some T9 ∧ (T.1 = 0 ∨ T.1 = 1 ∨ T.1 = 2) ∧ T9.2 100 0 = (if T.1 = 0 then 0 else if T.1 = 1 then 1 else 2) ∧ (T.1 = 0 → T.2.1 = T9.1) ∧ Rel T.2.2 T9.2
def Fc_film (Rel : Mem → Mem → Prop) : Prop := ∀ (Mc Mm : Mem) , Rel Mc Mm → ∃ (T : Int × Mem) (T9 : Int × Mem), fX5_film Mc  = some T ∧ fX6_film Mm  = some T9 ∧ T.1 = T9.1 ∧ inR T9.1 ∧ Rel T.2 T9.2
def Fc_proof (Rel : Mem → Mem → Prop) : Prop := ∀ (Mc Mm : Mem) , Rel Mc Mm → ∃ (T : Int × Mem) (T9 : Int × Mem), fX5_proof Mc  = some T ∧ fX6_proof Mm  = some T9 ∧ T.1 = T9.1 ∧ inR T9.1 ∧ Rel T.2 T9.2
def Fc_side (Rel : Mem → Mem → Prop) : Prop := ∀ (Mc Mm : Mem) (y0 : Int), Rel Mc Mm → (y0 = 0 ∨ y0 = 1) → ∃ (T : Int64 × Mem) (T9 : Int64 × Mem), fX5_side Mc y0 = some T ∧ fX6_side Mm y0 = some T9 ∧ T.1 = T9.1 ∧ Rel T.2 T9.2
def Fc_costOf (Rel : Mem → Mem → Prop) : Prop := ∀ (Mc Mm : Mem) (y0 : Int64), Rel Mc Mm → ∃ (T : Nat × Int × Mem) (T9 : Int × Mem), fX5_costOf Mc y0 = some T ∧ fX6_costOf Mm y0 = some T9 ∧ (T.1 = 0 ∨ T.1 = 2) ∧ T9.2 100 0 = (if T.1 = 0 then 0 else 1) ∧ (T.1 = 0 → T.2.1 = T9.1) ∧ Rel Mc T9.2
def Fc_pull (Rel : Mem → Mem → Prop) : Prop := ∀ (Mc Mm : Mem) (y0 : Int) (y1 : Int), Rel Mc Mm → (inR y0) → (inR y1) → ∃ (T : Nat × Int × Mem) (T9 : Int × Mem), fX5_pull Mc y0 y1 = some T ∧ fX6_pull Mm y0 y1 = some T9 ∧ (T.1 = 0 ∨ T.1 = 1) ∧ T9.2 100 0 = (if T.1 = 0 then 0 else 1) ∧ (T.1 = 0 → T.2.1 = T9.1) ∧ Rel T.2.2 T9.2
def Fc_hold (Rel : Mem → Mem → Prop) : Prop := ∀ (Mc Mm : Mem) (y0 : Int) (y1 : Int), Rel Mc Mm → (inR y0) → (y1 = 0 ∨ y1 = 1) → ∃ (T : Nat × Int × Mem) (T9 : Int × Mem), fX5_hold Mc y0 y1 = some T ∧ fX6_hold Mm y0 y1 = some T9 ∧ (T.1 = 0 ∨ T.1 = 1) ∧ T9.2 100 0 = (if T.1 = 0 then 0 else 1) ∧ (T.1 = 0 → T.2.1 = T9.1 ∧ (T.2.1 = 0 ∨ T.2.1 = 1)) ∧ Rel T.2.2 T9.2
def Fc_breathe (Rel : Mem → Mem → Prop) : Prop := ∀ (Mc Mm : Mem) (y0 : Int), Rel Mc Mm → (inR y0) → ∃ (T : Nat × Int × Mem) (T9 : Int × Mem), fX5_breathe Mc y0 = some T ∧ fX6_breathe Mm y0 = some T9 ∧ (T.1 = 0 ∨ T.1 = 2) ∧ T9.2 100 0 = (if T.1 = 0 then 0 else 1) ∧ (T.1 = 0 → T.2.1 = T9.1) ∧ Rel T.2.2 T9.2
def Fc_bubbleAt (Rel : Mem → Mem → Prop) : Prop := ∀ (Mc Mm : Mem) (y0 : Int), Rel Mc Mm → (inR y0) → ∃ (T : Nat × Int × Mem) (T9 : Int × Mem), fX5_bubbleAt Mc y0 = some T ∧ fX6_bubbleAt Mm y0 = some T9 ∧ (T.1 = 0 ∨ T.1 = 1) ∧ T9.2 100 0 = (if T.1 = 0 then 0 else 1) ∧ (T.1 = 0 → T.2.1 = T9.1) ∧ Rel Mc T9.2
def Fc_bubble (Rel : Mem → Mem → Prop) : Prop := ∀ (Mc Mm : Mem) (y0 : Int) (y1 : Int), Rel Mc Mm → (inR y0) → (inR y1) → ∃ (T : Nat × Int × Mem) (T9 : Int × Mem), fX5_bubble Mc y0 y1 = some T ∧ fX6_bubble Mm y0 y1 = some T9 ∧ (T.1 = 0 ∨ T.1 = 1 ∨ T.1 = 2) ∧ T9.2 100 0 = (if T.1 = 0 then 0 else if T.1 = 1 then 1 else 2) ∧ (T.1 = 0 → T.2.1 = T9.1) ∧ Rel T.2.2 T9.2
def Fc_wall (Rel : Mem → Mem → Prop) : Prop := ∀ (Mc Mm : Mem) (y0 : Int) (y1 : Int), Rel Mc Mm → (inR y0) → (inR y1) → ∃ (T : Nat × Int × Mem) (T9 : Int × Mem), fX5_wall Mc y0 y1 = some T ∧ fX6_wall Mm y0 y1 = some T9 ∧ (T.1 = 0 ∨ T.1 = 1) ∧ T9.2 100 0 = (if T.1 = 0 then 0 else 1) ∧ (T.1 = 0 → T.2.1 = T9.1) ∧ Rel Mc T9.2
def Fc_corners (Rel : Mem → Mem → Prop) : Prop := ∀ (Mc Mm : Mem) (y0 : Int), Rel Mc Mm → (inR y0) → ∃ (T : Nat × Int × Mem) (T9 : Int × Mem), fX5_corners Mc y0 = some T ∧ fX6_corners Mm y0 = some T9 ∧ (T.1 = 0 ∨ T.1 = 2) ∧ T9.2 100 0 = (if T.1 = 0 then 0 else 1) ∧ (T.1 = 0 → T.2.1 = T9.1) ∧ Rel Mc T9.2
def Fc_rests (Rel : Mem → Mem → Prop) : Prop := ∀ (Mc Mm : Mem) , Rel Mc Mm → ∃ (T : Int × Mem) (T9 : Int × Mem), fX5_rests Mc  = some T ∧ fX6_rests Mm  = some T9 ∧ T.1 = T9.1 ∧ inR T9.1 ∧ Rel T.2 T9.2
def Fc_energy (Rel : Mem → Mem → Prop) : Prop := ∀ (Mc Mm : Mem) (y0 : Int), Rel Mc Mm → (inR y0) → ∃ (T : Nat × Int × Mem) (T9 : Int × Mem), fX5_energy Mc y0 = some T ∧ fX6_energy Mm y0 = some T9 ∧ (T.1 = 0 ∨ T.1 = 2) ∧ T9.2 100 0 = (if T.1 = 0 then 0 else 1) ∧ (T.1 = 0 → T.2.1 = T9.1) ∧ Rel T.2.2 T9.2
set_option maxRecDepth 100000 in
set_option maxHeartbeats 4000000 in
theorem lc_cost {Rel : Mem → Mem → Prop} (F : Fc_cost Rel) (l : Launch) (hl : l.stackTraces = false) (adC adM : Nat → Nat) (ao b L : Nat) (xs : Nat → Int32) (G : LSt → Nat → List (Nat × Value) → List Value → Prop) (cx : CL adC adM ao RL cL_law 7 wsL_law room_1 l (fun _ => True) (some (b, L, xs)) 512 (fun z _ => z = 1) G) (hL : L < 2147483648) (k : Nat) (Mc Mm : Mem) (o : Nat → Int64) (i : Int) (hk : k < 512) (hi : 0 ≤ i) (hi2 : i + 2 < (L : Int)) (hR : Rel Mc Mm) (J : ∀ (k2 : Nat) (Mc2 Mm2 : Mem) (o2 : Nat → Int64), k2 = k + 1 → Rel Mc2 Mm2 → G (k2, Mc2, Mm2, o2) 1527 [(0, .ref b), (1, .ref (adC 26)), (2, .ref (adM 14)), (3, .ref ao), (4, iV i)] []) : G (k, Mc, Mm, o) 160 [(0, .ref b), (1, .ref (adC 26)), (2, .ref (adM 14)), (3, .ref ao), (4, iV i)] [] := by
  obtain ⟨T, T9, hT, hT9, hc, hth, hv0, hrel⟩ := F Mc Mm (xs (i + 1).toNat).toInt (xs (i + 2).toNat).toInt hR (zi_inR _) (zi_inR _)
  have hh := hL_cost l hl adC adM ao (k, Mc, Mm, o) (xs (i + 1).toNat).toInt (xs (i + 2).toNat).toInt T hT hc
  rcases hc with h0 | h0
  · have hz : (if T.1 = 0 then (0 : Int) else 1) = 0 := by rw [h0]; rfl
    rw [hz] at hth hh
    have hv := (hv0 h0)
    rw [if_pos h0] at hh
    refine lx_aload_n cx 1 dL_law_160 rfl rfl ?_
    refine lx_aload_n cx 0 dL_law_161 rfl rfl ?_
    refine lx_iload cx 4 dL_law_162 rfl ?_
    refine lx_iconst cx dL_law_164 ?_
    refine lx_iadd cx dL_law_165 ?_
    refine lx_sld cx rfl hL ⟨by omega, by omega⟩ dL_law_166 ?_
    refine lx_aload_n cx 0 dL_law_167 rfl rfl ?_
    refine lx_iload cx 4 dL_law_168 rfl ?_
    refine lx_iconst cx dL_law_170 ?_
    refine lx_iadd cx dL_law_171 ?_
    refine lx_sld cx rfl hL ⟨by omega, by omega⟩ dL_law_172 ?_
    refine lx_aload_n cx 3 dL_law_173 rfl rfl ?_
    refine lx_callH (As := [.ref (adC 26), iV (xs (i + 1).toNat).toInt, iV (xs (i + 2).toNat).toInt, .ref ao]) (n := 4) (st := []) cx hh (by show k + 1 ≤ 512; omega) gL_law_L_cost rfl ⟨rfl, rfl⟩ (by decide +kernel) rfl ⟨by decide, by decide⟩ rfl (Nat.le_of_ble_eq_true rfl) dL_law_174 ?_
    refine lx_S (S' := (k + 1, T.2.2, Mm, (vp_updL o 0 (Int32.ofInt T.2.1).toInt64))) rfl ?_
    refine lx_istore (lv' := [(5, iV 0), (0, .ref b), (1, .ref (adC 26)), (2, .ref (adM 14)), (3, .ref ao), (4, iV i)]) cx dL_law_177 (by decide) rfl ?_
    refine lx_aload_n cx 3 dL_law_179 rfl rfl ?_
    refine lx_aload_n cx 1 dL_law_180 rfl rfl ?_
    refine lx_iload cx 5 dL_law_181 rfl ?_
    refine lx_iconst cx dL_law_183 ?_
    refine lx_iadd cx dL_law_184 ?_
    refine lx_sld cx rfl hL ⟨by omega, by omega⟩ dL_law_185 ?_
    refine lx_aload_n cx 1 dL_law_186 rfl rfl ?_
    refine lx_iload cx 5 dL_law_187 rfl ?_
    refine lx_iconst cx dL_law_189 ?_
    refine lx_iadd cx dL_law_190 ?_
    refine lx_sld cx rfl hL ⟨by omega, by omega⟩ dL_law_191 ?_
    refine lx_callM (As := [iV (xs (i + 1).toNat).toInt, iV (xs (i + 2).toNat).toInt]) (n := 2) (st := []) cx (kX6_cost l adM Mm (xs (i + 1).toNat).toInt (xs (i + 2).toNat).toInt _ hT9) (by show k + 1 ≤ 512; omega) gL_law_X6_cost rfl ⟨rfl, rfl⟩ (by decide +kernel) rfl ⟨by decide, by decide⟩ rfl (Nat.le_of_ble_eq_true rfl) dL_law_192 ?_
    refine lx_S (S' := (k + 1, T.2.2, T9.2, (vp_updL o 0 (Int32.ofInt T.2.1).toInt64))) rfl ?_
    refine lx_istore (lv' := [(6, iV (T9.1)), (5, iV 0), (0, .ref b), (1, .ref (adC 26)), (2, .ref (adM 14)), (3, .ref ao), (4, iV i)]) cx dL_law_195 (by decide) rfl ?_
    refine lx_aload_n cx 4 dL_law_197 rfl rfl ?_
    refine lx_callM (As := []) (n := 0) (st := []) cx (kX6_thrown l adM T9.2 _ rfl) (by show k + 1 ≤ 512; omega) gL_law_X6_thrown rfl ⟨rfl, rfl⟩ (by decide +kernel) rfl ⟨by decide, by decide⟩ rfl (Nat.le_of_ble_eq_true rfl) dL_law_198 ?_
    refine lx_S (S' := (k + 1, T.2.2, T9.2, (vp_updL o 0 (Int32.ofInt T.2.1).toInt64))) rfl ?_
    refine lx_iload cx 1 dL_law_201 rfl ?_
    refine lx_icmp_eq cx 208 dL_law_203 (by decide) (by rw [hth]; exact ⟨by decide, by decide⟩) ⟨by decide, by decide⟩ (fun c => ?_) (fun c => absurd hth c)
    refine lx_iload cx 1 dL_law_208 rfl ?_
    refine lx_if_ne cx 225 dL_law_210 (by decide) ⟨by decide, by decide⟩ (fun c => ?_) (fun c => absurd rfl c)
    refine lx_aload_n cx 5 dL_law_213 rfl rfl ?_
    refine lx_iconst cx dL_law_214 ?_
    refine lx_lald cx dL_law_215 ?_
    refine lx_topl (x' := (Int32.ofInt T.2.1).toInt64) rfl ?_
    refine lx_iload cx 0 dL_law_216 rfl ?_
    refine lx_i2l cx dL_law_218 ?_
    refine lx_lcmp cx dL_law_219 ?_
    refine lx_if_eq cx 225 dL_law_220 (by decide) (zlcmp_R _ _) (fun c => ?_) (fun c => absurd (by first | exact zlcmp_eq hv | exact zlcmp_eq (by rw [hv]) | exact zlcmp_eq rfl) c)
    refine lx_goto cx 1527 dL_law_225 (by decide) ?_
    refine lx_lv cx [2, 3, 4, 5, 6] rfl ?_
    exact J _ _ _ _ rfl hrel
  · have hz : (if T.1 = 0 then (0 : Int) else 1) = 1 := by rw [h0]; rfl
    rw [hz] at hth hh
    rw [if_neg (by rw [h0]; decide)] at hh
    refine lx_aload_n cx 1 dL_law_160 rfl rfl ?_
    refine lx_aload_n cx 0 dL_law_161 rfl rfl ?_
    refine lx_iload cx 4 dL_law_162 rfl ?_
    refine lx_iconst cx dL_law_164 ?_
    refine lx_iadd cx dL_law_165 ?_
    refine lx_sld cx rfl hL ⟨by omega, by omega⟩ dL_law_166 ?_
    refine lx_aload_n cx 0 dL_law_167 rfl rfl ?_
    refine lx_iload cx 4 dL_law_168 rfl ?_
    refine lx_iconst cx dL_law_170 ?_
    refine lx_iadd cx dL_law_171 ?_
    refine lx_sld cx rfl hL ⟨by omega, by omega⟩ dL_law_172 ?_
    refine lx_aload_n cx 3 dL_law_173 rfl rfl ?_
    refine lx_callH (As := [.ref (adC 26), iV (xs (i + 1).toNat).toInt, iV (xs (i + 2).toNat).toInt, .ref ao]) (n := 4) (st := []) cx hh (by show k + 1 ≤ 512; omega) gL_law_L_cost rfl ⟨rfl, rfl⟩ (by decide +kernel) rfl ⟨by decide, by decide⟩ rfl (Nat.le_of_ble_eq_true rfl) dL_law_174 ?_
    refine lx_S (S' := (k + 1, T.2.2, Mm, o)) rfl ?_
    refine lx_istore (lv' := [(5, iV 1), (0, .ref b), (1, .ref (adC 26)), (2, .ref (adM 14)), (3, .ref ao), (4, iV i)]) cx dL_law_177 (by decide) rfl ?_
    refine lx_aload_n cx 3 dL_law_179 rfl rfl ?_
    refine lx_aload_n cx 1 dL_law_180 rfl rfl ?_
    refine lx_iload cx 5 dL_law_181 rfl ?_
    refine lx_iconst cx dL_law_183 ?_
    refine lx_iadd cx dL_law_184 ?_
    refine lx_sld cx rfl hL ⟨by omega, by omega⟩ dL_law_185 ?_
    refine lx_aload_n cx 1 dL_law_186 rfl rfl ?_
    refine lx_iload cx 5 dL_law_187 rfl ?_
    refine lx_iconst cx dL_law_189 ?_
    refine lx_iadd cx dL_law_190 ?_
    refine lx_sld cx rfl hL ⟨by omega, by omega⟩ dL_law_191 ?_
    refine lx_callM (As := [iV (xs (i + 1).toNat).toInt, iV (xs (i + 2).toNat).toInt]) (n := 2) (st := []) cx (kX6_cost l adM Mm (xs (i + 1).toNat).toInt (xs (i + 2).toNat).toInt _ hT9) (by show k + 1 ≤ 512; omega) gL_law_X6_cost rfl ⟨rfl, rfl⟩ (by decide +kernel) rfl ⟨by decide, by decide⟩ rfl (Nat.le_of_ble_eq_true rfl) dL_law_192 ?_
    refine lx_S (S' := (k + 1, T.2.2, T9.2, o)) rfl ?_
    refine lx_istore (lv' := [(6, iV (T9.1)), (5, iV 1), (0, .ref b), (1, .ref (adC 26)), (2, .ref (adM 14)), (3, .ref ao), (4, iV i)]) cx dL_law_195 (by decide) rfl ?_
    refine lx_aload_n cx 4 dL_law_197 rfl rfl ?_
    refine lx_callM (As := []) (n := 0) (st := []) cx (kX6_thrown l adM T9.2 _ rfl) (by show k + 1 ≤ 512; omega) gL_law_X6_thrown rfl ⟨rfl, rfl⟩ (by decide +kernel) rfl ⟨by decide, by decide⟩ rfl (Nat.le_of_ble_eq_true rfl) dL_law_198 ?_
    refine lx_S (S' := (k + 1, T.2.2, T9.2, o)) rfl ?_
    refine lx_iload cx 1 dL_law_201 rfl ?_
    refine lx_icmp_eq cx 208 dL_law_203 (by decide) (by rw [hth]; exact ⟨by decide, by decide⟩) ⟨by decide, by decide⟩ (fun c => ?_) (fun c => absurd hth c)
    refine lx_iload cx 1 dL_law_208 rfl ?_
    refine lx_if_ne cx 225 dL_law_210 (by decide) ⟨by decide, by decide⟩ (fun c => absurd c (by decide)) (fun c => ?_)
    refine lx_goto cx 1527 dL_law_225 (by decide) ?_
    refine lx_lv cx [2, 3, 4, 5, 6] rfl ?_
    exact J _ _ _ _ rfl hrel
set_option maxRecDepth 100000 in
set_option maxHeartbeats 4000000 in
theorem lc_lay {Rel : Mem → Mem → Prop} (F : Fc_lay Rel) (l : Launch) (hl : l.stackTraces = false) (adC adM : Nat → Nat) (ao b L : Nat) (xs : Nat → Int32) (G : LSt → Nat → List (Nat × Value) → List Value → Prop) (cx : CL adC adM ao RL cL_law 7 wsL_law room_1 l (fun _ => True) (some (b, L, xs)) 512 (fun z _ => z = 1) G) (hL : L < 2147483648) (k : Nat) (Mc Mm : Mem) (o : Nat → Int64) (i : Int) (hk : k < 512) (hi : 0 ≤ i) (hi2 : i + 2 < (L : Int)) (hR : Rel Mc Mm) (J : ∀ (k2 : Nat) (Mc2 Mm2 : Mem) (o2 : Nat → Int64), k2 = k + 1 → Rel Mc2 Mm2 → G (k2, Mc2, Mm2, o2) 1527 [(0, .ref b), (1, .ref (adC 26)), (2, .ref (adM 14)), (3, .ref ao), (4, iV i)] []) : G (k, Mc, Mm, o) 228 [(0, .ref b), (1, .ref (adC 26)), (2, .ref (adM 14)), (3, .ref ao), (4, iV i)] [] := by
  obtain ⟨T, T9, hT, hT9, hc, hth, hv0, hrel⟩ := F Mc Mm (xs (i + 1).toNat).toInt (xs (i + 2).toNat).toInt hR (zi_inR _) (zi_inR _)
  have hh := hL_lay l hl adC adM ao (k, Mc, Mm, o) (xs (i + 1).toNat).toInt (xs (i + 2).toNat).toInt T hT hc
  rcases hc with h0 | h0 | h0
  · have hz : (if T.1 = 0 then (0 : Int) else if T.1 = 1 then 1 else 2) = 0 := by rw [h0]; rfl
    rw [hz] at hth hh
    have hv := (hv0 h0)
    rw [if_pos h0] at hh
    refine lx_aload_n cx 1 dL_law_228 rfl rfl ?_
    refine lx_aload_n cx 0 dL_law_229 rfl rfl ?_
    refine lx_iload cx 4 dL_law_230 rfl ?_
    refine lx_iconst cx dL_law_232 ?_
    refine lx_iadd cx dL_law_233 ?_
    refine lx_sld cx rfl hL ⟨by omega, by omega⟩ dL_law_234 ?_
    refine lx_aload_n cx 0 dL_law_235 rfl rfl ?_
    refine lx_iload cx 4 dL_law_236 rfl ?_
    refine lx_iconst cx dL_law_238 ?_
    refine lx_iadd cx dL_law_239 ?_
    refine lx_sld cx rfl hL ⟨by omega, by omega⟩ dL_law_240 ?_
    refine lx_aload_n cx 3 dL_law_241 rfl rfl ?_
    refine lx_callH (As := [.ref (adC 26), iV (xs (i + 1).toNat).toInt, iV (xs (i + 2).toNat).toInt, .ref ao]) (n := 4) (st := []) cx hh (by show k + 1 ≤ 512; omega) gL_law_L_lay rfl ⟨rfl, rfl⟩ (by decide +kernel) rfl ⟨by decide, by decide⟩ rfl (Nat.le_of_ble_eq_true rfl) dL_law_242 ?_
    refine lx_S (S' := (k + 1, T.2.2, Mm, (vp_updL o 0 (Int32.ofInt T.2.1).toInt64))) rfl ?_
    refine lx_istore (lv' := [(5, iV 0), (0, .ref b), (1, .ref (adC 26)), (2, .ref (adM 14)), (3, .ref ao), (4, iV i)]) cx dL_law_245 (by decide) rfl ?_
    refine lx_aload_n cx 3 dL_law_247 rfl rfl ?_
    refine lx_aload_n cx 1 dL_law_248 rfl rfl ?_
    refine lx_iload cx 5 dL_law_249 rfl ?_
    refine lx_iconst cx dL_law_251 ?_
    refine lx_iadd cx dL_law_252 ?_
    refine lx_sld cx rfl hL ⟨by omega, by omega⟩ dL_law_253 ?_
    refine lx_aload_n cx 1 dL_law_254 rfl rfl ?_
    refine lx_iload cx 5 dL_law_255 rfl ?_
    refine lx_iconst cx dL_law_257 ?_
    refine lx_iadd cx dL_law_258 ?_
    refine lx_sld cx rfl hL ⟨by omega, by omega⟩ dL_law_259 ?_
    refine lx_callM (As := [iV (xs (i + 1).toNat).toInt, iV (xs (i + 2).toNat).toInt]) (n := 2) (st := []) cx (kX6_lay l adM Mm (xs (i + 1).toNat).toInt (xs (i + 2).toNat).toInt _ hT9) (by show k + 1 ≤ 512; omega) gL_law_X6_lay rfl ⟨rfl, rfl⟩ (by decide +kernel) rfl ⟨by decide, by decide⟩ rfl (Nat.le_of_ble_eq_true rfl) dL_law_260 ?_
    refine lx_S (S' := (k + 1, T.2.2, T9.2, (vp_updL o 0 (Int32.ofInt T.2.1).toInt64))) rfl ?_
    refine lx_istore (lv' := [(6, iV (T9.1)), (5, iV 0), (0, .ref b), (1, .ref (adC 26)), (2, .ref (adM 14)), (3, .ref ao), (4, iV i)]) cx dL_law_263 (by decide) rfl ?_
    refine lx_aload_n cx 4 dL_law_265 rfl rfl ?_
    refine lx_callM (As := []) (n := 0) (st := []) cx (kX6_thrown l adM T9.2 _ rfl) (by show k + 1 ≤ 512; omega) gL_law_X6_thrown rfl ⟨rfl, rfl⟩ (by decide +kernel) rfl ⟨by decide, by decide⟩ rfl (Nat.le_of_ble_eq_true rfl) dL_law_266 ?_
    refine lx_S (S' := (k + 1, T.2.2, T9.2, (vp_updL o 0 (Int32.ofInt T.2.1).toInt64))) rfl ?_
    refine lx_iload cx 1 dL_law_269 rfl ?_
    refine lx_icmp_eq cx 276 dL_law_271 (by decide) (by rw [hth]; exact ⟨by decide, by decide⟩) ⟨by decide, by decide⟩ (fun c => ?_) (fun c => absurd hth c)
    refine lx_iload cx 1 dL_law_276 rfl ?_
    refine lx_if_ne cx 293 dL_law_278 (by decide) ⟨by decide, by decide⟩ (fun c => ?_) (fun c => absurd rfl c)
    refine lx_aload_n cx 5 dL_law_281 rfl rfl ?_
    refine lx_iconst cx dL_law_282 ?_
    refine lx_lald cx dL_law_283 ?_
    refine lx_topl (x' := (Int32.ofInt T.2.1).toInt64) rfl ?_
    refine lx_iload cx 0 dL_law_284 rfl ?_
    refine lx_i2l cx dL_law_286 ?_
    refine lx_lcmp cx dL_law_287 ?_
    refine lx_if_eq cx 293 dL_law_288 (by decide) (zlcmp_R _ _) (fun c => ?_) (fun c => absurd (by first | exact zlcmp_eq hv | exact zlcmp_eq (by rw [hv]) | exact zlcmp_eq rfl) c)
    refine lx_goto cx 1527 dL_law_293 (by decide) ?_
    refine lx_lv cx [2, 3, 4, 5, 6] rfl ?_
    exact J _ _ _ _ rfl hrel
  · have hz : (if T.1 = 0 then (0 : Int) else if T.1 = 1 then 1 else 2) = 1 := by rw [h0]; rfl
    rw [hz] at hth hh
    rw [if_neg (by rw [h0]; decide)] at hh
    refine lx_aload_n cx 1 dL_law_228 rfl rfl ?_
    refine lx_aload_n cx 0 dL_law_229 rfl rfl ?_
    refine lx_iload cx 4 dL_law_230 rfl ?_
    refine lx_iconst cx dL_law_232 ?_
    refine lx_iadd cx dL_law_233 ?_
    refine lx_sld cx rfl hL ⟨by omega, by omega⟩ dL_law_234 ?_
    refine lx_aload_n cx 0 dL_law_235 rfl rfl ?_
    refine lx_iload cx 4 dL_law_236 rfl ?_
    refine lx_iconst cx dL_law_238 ?_
    refine lx_iadd cx dL_law_239 ?_
    refine lx_sld cx rfl hL ⟨by omega, by omega⟩ dL_law_240 ?_
    refine lx_aload_n cx 3 dL_law_241 rfl rfl ?_
    refine lx_callH (As := [.ref (adC 26), iV (xs (i + 1).toNat).toInt, iV (xs (i + 2).toNat).toInt, .ref ao]) (n := 4) (st := []) cx hh (by show k + 1 ≤ 512; omega) gL_law_L_lay rfl ⟨rfl, rfl⟩ (by decide +kernel) rfl ⟨by decide, by decide⟩ rfl (Nat.le_of_ble_eq_true rfl) dL_law_242 ?_
    refine lx_S (S' := (k + 1, T.2.2, Mm, o)) rfl ?_
    refine lx_istore (lv' := [(5, iV 1), (0, .ref b), (1, .ref (adC 26)), (2, .ref (adM 14)), (3, .ref ao), (4, iV i)]) cx dL_law_245 (by decide) rfl ?_
    refine lx_aload_n cx 3 dL_law_247 rfl rfl ?_
    refine lx_aload_n cx 1 dL_law_248 rfl rfl ?_
    refine lx_iload cx 5 dL_law_249 rfl ?_
    refine lx_iconst cx dL_law_251 ?_
    refine lx_iadd cx dL_law_252 ?_
    refine lx_sld cx rfl hL ⟨by omega, by omega⟩ dL_law_253 ?_
    refine lx_aload_n cx 1 dL_law_254 rfl rfl ?_
    refine lx_iload cx 5 dL_law_255 rfl ?_
    refine lx_iconst cx dL_law_257 ?_
    refine lx_iadd cx dL_law_258 ?_
    refine lx_sld cx rfl hL ⟨by omega, by omega⟩ dL_law_259 ?_
    refine lx_callM (As := [iV (xs (i + 1).toNat).toInt, iV (xs (i + 2).toNat).toInt]) (n := 2) (st := []) cx (kX6_lay l adM Mm (xs (i + 1).toNat).toInt (xs (i + 2).toNat).toInt _ hT9) (by show k + 1 ≤ 512; omega) gL_law_X6_lay rfl ⟨rfl, rfl⟩ (by decide +kernel) rfl ⟨by decide, by decide⟩ rfl (Nat.le_of_ble_eq_true rfl) dL_law_260 ?_
    refine lx_S (S' := (k + 1, T.2.2, T9.2, o)) rfl ?_
    refine lx_istore (lv' := [(6, iV (T9.1)), (5, iV 1), (0, .ref b), (1, .ref (adC 26)), (2, .ref (adM 14)), (3, .ref ao), (4, iV i)]) cx dL_law_263 (by decide) rfl ?_
    refine lx_aload_n cx 4 dL_law_265 rfl rfl ?_
    refine lx_callM (As := []) (n := 0) (st := []) cx (kX6_thrown l adM T9.2 _ rfl) (by show k + 1 ≤ 512; omega) gL_law_X6_thrown rfl ⟨rfl, rfl⟩ (by decide +kernel) rfl ⟨by decide, by decide⟩ rfl (Nat.le_of_ble_eq_true rfl) dL_law_266 ?_
    refine lx_S (S' := (k + 1, T.2.2, T9.2, o)) rfl ?_
    refine lx_iload cx 1 dL_law_269 rfl ?_
    refine lx_icmp_eq cx 276 dL_law_271 (by decide) (by rw [hth]; exact ⟨by decide, by decide⟩) ⟨by decide, by decide⟩ (fun c => ?_) (fun c => absurd hth c)
    refine lx_iload cx 1 dL_law_276 rfl ?_
    refine lx_if_ne cx 293 dL_law_278 (by decide) ⟨by decide, by decide⟩ (fun c => absurd c (by decide)) (fun c => ?_)
    refine lx_goto cx 1527 dL_law_293 (by decide) ?_
    refine lx_lv cx [2, 3, 4, 5, 6] rfl ?_
    exact J _ _ _ _ rfl hrel
  · have hz : (if T.1 = 0 then (0 : Int) else if T.1 = 1 then 1 else 2) = 2 := by rw [h0]; rfl
    rw [hz] at hth hh
    rw [if_neg (by rw [h0]; decide)] at hh
    refine lx_aload_n cx 1 dL_law_228 rfl rfl ?_
    refine lx_aload_n cx 0 dL_law_229 rfl rfl ?_
    refine lx_iload cx 4 dL_law_230 rfl ?_
    refine lx_iconst cx dL_law_232 ?_
    refine lx_iadd cx dL_law_233 ?_
    refine lx_sld cx rfl hL ⟨by omega, by omega⟩ dL_law_234 ?_
    refine lx_aload_n cx 0 dL_law_235 rfl rfl ?_
    refine lx_iload cx 4 dL_law_236 rfl ?_
    refine lx_iconst cx dL_law_238 ?_
    refine lx_iadd cx dL_law_239 ?_
    refine lx_sld cx rfl hL ⟨by omega, by omega⟩ dL_law_240 ?_
    refine lx_aload_n cx 3 dL_law_241 rfl rfl ?_
    refine lx_callH (As := [.ref (adC 26), iV (xs (i + 1).toNat).toInt, iV (xs (i + 2).toNat).toInt, .ref ao]) (n := 4) (st := []) cx hh (by show k + 1 ≤ 512; omega) gL_law_L_lay rfl ⟨rfl, rfl⟩ (by decide +kernel) rfl ⟨by decide, by decide⟩ rfl (Nat.le_of_ble_eq_true rfl) dL_law_242 ?_
    refine lx_S (S' := (k + 1, T.2.2, Mm, o)) rfl ?_
    refine lx_istore (lv' := [(5, iV 2), (0, .ref b), (1, .ref (adC 26)), (2, .ref (adM 14)), (3, .ref ao), (4, iV i)]) cx dL_law_245 (by decide) rfl ?_
    refine lx_aload_n cx 3 dL_law_247 rfl rfl ?_
    refine lx_aload_n cx 1 dL_law_248 rfl rfl ?_
    refine lx_iload cx 5 dL_law_249 rfl ?_
    refine lx_iconst cx dL_law_251 ?_
    refine lx_iadd cx dL_law_252 ?_
    refine lx_sld cx rfl hL ⟨by omega, by omega⟩ dL_law_253 ?_
    refine lx_aload_n cx 1 dL_law_254 rfl rfl ?_
    refine lx_iload cx 5 dL_law_255 rfl ?_
    refine lx_iconst cx dL_law_257 ?_
    refine lx_iadd cx dL_law_258 ?_
    refine lx_sld cx rfl hL ⟨by omega, by omega⟩ dL_law_259 ?_
    refine lx_callM (As := [iV (xs (i + 1).toNat).toInt, iV (xs (i + 2).toNat).toInt]) (n := 2) (st := []) cx (kX6_lay l adM Mm (xs (i + 1).toNat).toInt (xs (i + 2).toNat).toInt _ hT9) (by show k + 1 ≤ 512; omega) gL_law_X6_lay rfl ⟨rfl, rfl⟩ (by decide +kernel) rfl ⟨by decide, by decide⟩ rfl (Nat.le_of_ble_eq_true rfl) dL_law_260 ?_
    refine lx_S (S' := (k + 1, T.2.2, T9.2, o)) rfl ?_
    refine lx_istore (lv' := [(6, iV (T9.1)), (5, iV 2), (0, .ref b), (1, .ref (adC 26)), (2, .ref (adM 14)), (3, .ref ao), (4, iV i)]) cx dL_law_263 (by decide) rfl ?_
    refine lx_aload_n cx 4 dL_law_265 rfl rfl ?_
    refine lx_callM (As := []) (n := 0) (st := []) cx (kX6_thrown l adM T9.2 _ rfl) (by show k + 1 ≤ 512; omega) gL_law_X6_thrown rfl ⟨rfl, rfl⟩ (by decide +kernel) rfl ⟨by decide, by decide⟩ rfl (Nat.le_of_ble_eq_true rfl) dL_law_266 ?_
    refine lx_S (S' := (k + 1, T.2.2, T9.2, o)) rfl ?_
    refine lx_iload cx 1 dL_law_269 rfl ?_
    refine lx_icmp_eq cx 276 dL_law_271 (by decide) (by rw [hth]; exact ⟨by decide, by decide⟩) ⟨by decide, by decide⟩ (fun c => ?_) (fun c => absurd hth c)
    refine lx_iload cx 1 dL_law_276 rfl ?_
    refine lx_if_ne cx 293 dL_law_278 (by decide) ⟨by decide, by decide⟩ (fun c => absurd c (by decide)) (fun c => ?_)
    refine lx_goto cx 1527 dL_law_293 (by decide) ?_
    refine lx_lv cx [2, 3, 4, 5, 6] rfl ?_
    exact J _ _ _ _ rfl hrel
set_option maxRecDepth 100000 in
set_option maxHeartbeats 4000000 in
theorem lc_edge {Rel : Mem → Mem → Prop} (F : Fc_edge Rel) (l : Launch) (hl : l.stackTraces = false) (adC adM : Nat → Nat) (ao b L : Nat) (xs : Nat → Int32) (G : LSt → Nat → List (Nat × Value) → List Value → Prop) (cx : CL adC adM ao RL cL_law 7 wsL_law room_1 l (fun _ => True) (some (b, L, xs)) 512 (fun z _ => z = 1) G) (hL : L < 2147483648) (k : Nat) (Mc Mm : Mem) (o : Nat → Int64) (i : Int) (hk : k < 512) (hi : 0 ≤ i) (hi2 : i + 2 < (L : Int)) (hR : Rel Mc Mm) (J : ∀ (k2 : Nat) (Mc2 Mm2 : Mem) (o2 : Nat → Int64), k2 = k + 1 → Rel Mc2 Mm2 → G (k2, Mc2, Mm2, o2) 1527 [(0, .ref b), (1, .ref (adC 26)), (2, .ref (adM 14)), (3, .ref ao), (4, iV i)] []) : G (k, Mc, Mm, o) 296 [(0, .ref b), (1, .ref (adC 26)), (2, .ref (adM 14)), (3, .ref ao), (4, iV i)] [] := by
  obtain ⟨T, T9, hT, hT9, hc, hth, hv0, hrel⟩ := F Mc Mm (xs (i + 1).toNat).toInt hR (zi_inR _)
  have hh := hL_edge l hl adC adM ao (k, Mc, Mm, o) (xs (i + 1).toNat).toInt T hT hc
  rcases hc with h0 | h0
  · have hz : (if T.1 = 0 then (0 : Int) else 1) = 0 := by rw [h0]; rfl
    rw [hz] at hth hh
    have hv := (hv0 h0)
    rw [if_pos h0] at hh
    refine lx_aload_n cx 1 dL_law_296 rfl rfl ?_
    refine lx_aload_n cx 0 dL_law_297 rfl rfl ?_
    refine lx_iload cx 4 dL_law_298 rfl ?_
    refine lx_iconst cx dL_law_300 ?_
    refine lx_iadd cx dL_law_301 ?_
    refine lx_sld cx rfl hL ⟨by omega, by omega⟩ dL_law_302 ?_
    refine lx_aload_n cx 3 dL_law_303 rfl rfl ?_
    refine lx_callH (As := [.ref (adC 26), iV (xs (i + 1).toNat).toInt, .ref ao]) (n := 3) (st := []) cx hh (by show k + 1 ≤ 512; omega) gL_law_L_edge rfl ⟨rfl, rfl⟩ (by decide +kernel) rfl ⟨by decide, by decide⟩ rfl (Nat.le_of_ble_eq_true rfl) dL_law_304 ?_
    refine lx_S (S' := (k + 1, Mc, Mm, (vp_updL o 0 (Int32.ofInt T.2.1).toInt64))) rfl ?_
    refine lx_istore (lv' := [(5, iV 0), (0, .ref b), (1, .ref (adC 26)), (2, .ref (adM 14)), (3, .ref ao), (4, iV i)]) cx dL_law_307 (by decide) rfl ?_
    refine lx_aload_n cx 3 dL_law_309 rfl rfl ?_
    refine lx_aload_n cx 1 dL_law_310 rfl rfl ?_
    refine lx_iload cx 5 dL_law_311 rfl ?_
    refine lx_iconst cx dL_law_313 ?_
    refine lx_iadd cx dL_law_314 ?_
    refine lx_sld cx rfl hL ⟨by omega, by omega⟩ dL_law_315 ?_
    refine lx_callM (As := [iV (xs (i + 1).toNat).toInt]) (n := 1) (st := []) cx (kX6_edge l adM Mm (xs (i + 1).toNat).toInt _ hT9) (by show k + 1 ≤ 512; omega) gL_law_X6_edge rfl ⟨rfl, rfl⟩ (by decide +kernel) rfl ⟨by decide, by decide⟩ rfl (Nat.le_of_ble_eq_true rfl) dL_law_316 ?_
    refine lx_S (S' := (k + 1, Mc, T9.2, (vp_updL o 0 (Int32.ofInt T.2.1).toInt64))) rfl ?_
    refine lx_istore (lv' := [(6, iV (T9.1)), (5, iV 0), (0, .ref b), (1, .ref (adC 26)), (2, .ref (adM 14)), (3, .ref ao), (4, iV i)]) cx dL_law_319 (by decide) rfl ?_
    refine lx_aload_n cx 4 dL_law_321 rfl rfl ?_
    refine lx_callM (As := []) (n := 0) (st := []) cx (kX6_thrown l adM T9.2 _ rfl) (by show k + 1 ≤ 512; omega) gL_law_X6_thrown rfl ⟨rfl, rfl⟩ (by decide +kernel) rfl ⟨by decide, by decide⟩ rfl (Nat.le_of_ble_eq_true rfl) dL_law_322 ?_
    refine lx_S (S' := (k + 1, Mc, T9.2, (vp_updL o 0 (Int32.ofInt T.2.1).toInt64))) rfl ?_
    refine lx_iload cx 1 dL_law_325 rfl ?_
    refine lx_icmp_eq cx 332 dL_law_327 (by decide) (by rw [hth]; exact ⟨by decide, by decide⟩) ⟨by decide, by decide⟩ (fun c => ?_) (fun c => absurd hth c)
    refine lx_iload cx 1 dL_law_332 rfl ?_
    refine lx_if_ne cx 349 dL_law_334 (by decide) ⟨by decide, by decide⟩ (fun c => ?_) (fun c => absurd rfl c)
    refine lx_aload_n cx 5 dL_law_337 rfl rfl ?_
    refine lx_iconst cx dL_law_338 ?_
    refine lx_lald cx dL_law_339 ?_
    refine lx_topl (x' := (Int32.ofInt T.2.1).toInt64) rfl ?_
    refine lx_iload cx 0 dL_law_340 rfl ?_
    refine lx_i2l cx dL_law_342 ?_
    refine lx_lcmp cx dL_law_343 ?_
    refine lx_if_eq cx 349 dL_law_344 (by decide) (zlcmp_R _ _) (fun c => ?_) (fun c => absurd (by first | exact zlcmp_eq hv | exact zlcmp_eq (by rw [hv]) | exact zlcmp_eq rfl) c)
    refine lx_goto cx 1527 dL_law_349 (by decide) ?_
    refine lx_lv cx [2, 3, 4, 5, 6] rfl ?_
    exact J _ _ _ _ rfl hrel
  · have hz : (if T.1 = 0 then (0 : Int) else 1) = 1 := by rw [h0]; rfl
    rw [hz] at hth hh
    rw [if_neg (by rw [h0]; decide)] at hh
    refine lx_aload_n cx 1 dL_law_296 rfl rfl ?_
    refine lx_aload_n cx 0 dL_law_297 rfl rfl ?_
    refine lx_iload cx 4 dL_law_298 rfl ?_
    refine lx_iconst cx dL_law_300 ?_
    refine lx_iadd cx dL_law_301 ?_
    refine lx_sld cx rfl hL ⟨by omega, by omega⟩ dL_law_302 ?_
    refine lx_aload_n cx 3 dL_law_303 rfl rfl ?_
    refine lx_callH (As := [.ref (adC 26), iV (xs (i + 1).toNat).toInt, .ref ao]) (n := 3) (st := []) cx hh (by show k + 1 ≤ 512; omega) gL_law_L_edge rfl ⟨rfl, rfl⟩ (by decide +kernel) rfl ⟨by decide, by decide⟩ rfl (Nat.le_of_ble_eq_true rfl) dL_law_304 ?_
    refine lx_S (S' := (k + 1, Mc, Mm, o)) rfl ?_
    refine lx_istore (lv' := [(5, iV 1), (0, .ref b), (1, .ref (adC 26)), (2, .ref (adM 14)), (3, .ref ao), (4, iV i)]) cx dL_law_307 (by decide) rfl ?_
    refine lx_aload_n cx 3 dL_law_309 rfl rfl ?_
    refine lx_aload_n cx 1 dL_law_310 rfl rfl ?_
    refine lx_iload cx 5 dL_law_311 rfl ?_
    refine lx_iconst cx dL_law_313 ?_
    refine lx_iadd cx dL_law_314 ?_
    refine lx_sld cx rfl hL ⟨by omega, by omega⟩ dL_law_315 ?_
    refine lx_callM (As := [iV (xs (i + 1).toNat).toInt]) (n := 1) (st := []) cx (kX6_edge l adM Mm (xs (i + 1).toNat).toInt _ hT9) (by show k + 1 ≤ 512; omega) gL_law_X6_edge rfl ⟨rfl, rfl⟩ (by decide +kernel) rfl ⟨by decide, by decide⟩ rfl (Nat.le_of_ble_eq_true rfl) dL_law_316 ?_
    refine lx_S (S' := (k + 1, Mc, T9.2, o)) rfl ?_
    refine lx_istore (lv' := [(6, iV (T9.1)), (5, iV 1), (0, .ref b), (1, .ref (adC 26)), (2, .ref (adM 14)), (3, .ref ao), (4, iV i)]) cx dL_law_319 (by decide) rfl ?_
    refine lx_aload_n cx 4 dL_law_321 rfl rfl ?_
    refine lx_callM (As := []) (n := 0) (st := []) cx (kX6_thrown l adM T9.2 _ rfl) (by show k + 1 ≤ 512; omega) gL_law_X6_thrown rfl ⟨rfl, rfl⟩ (by decide +kernel) rfl ⟨by decide, by decide⟩ rfl (Nat.le_of_ble_eq_true rfl) dL_law_322 ?_
    refine lx_S (S' := (k + 1, Mc, T9.2, o)) rfl ?_
    refine lx_iload cx 1 dL_law_325 rfl ?_
    refine lx_icmp_eq cx 332 dL_law_327 (by decide) (by rw [hth]; exact ⟨by decide, by decide⟩) ⟨by decide, by decide⟩ (fun c => ?_) (fun c => absurd hth c)
    refine lx_iload cx 1 dL_law_332 rfl ?_
    refine lx_if_ne cx 349 dL_law_334 (by decide) ⟨by decide, by decide⟩ (fun c => absurd c (by decide)) (fun c => ?_)
    refine lx_goto cx 1527 dL_law_349 (by decide) ?_
    refine lx_lv cx [2, 3, 4, 5, 6] rfl ?_
    exact J _ _ _ _ rfl hrel
set_option maxRecDepth 100000 in
set_option maxHeartbeats 4000000 in
theorem lc_apart {Rel : Mem → Mem → Prop} (F : Fc_apart Rel) (l : Launch) (hl : l.stackTraces = false) (adC adM : Nat → Nat) (ao b L : Nat) (xs : Nat → Int32) (G : LSt → Nat → List (Nat × Value) → List Value → Prop) (cx : CL adC adM ao RL cL_law 7 wsL_law room_1 l (fun _ => True) (some (b, L, xs)) 512 (fun z _ => z = 1) G) (hL : L < 2147483648) (k : Nat) (Mc Mm : Mem) (o : Nat → Int64) (i : Int) (hk : k < 512) (hi : 0 ≤ i) (hi2 : i + 2 < (L : Int)) (hR : Rel Mc Mm) (J : ∀ (k2 : Nat) (Mc2 Mm2 : Mem) (o2 : Nat → Int64), k2 = k + 1 → Rel Mc2 Mm2 → G (k2, Mc2, Mm2, o2) 1527 [(0, .ref b), (1, .ref (adC 26)), (2, .ref (adM 14)), (3, .ref ao), (4, iV i)] []) : G (k, Mc, Mm, o) 352 [(0, .ref b), (1, .ref (adC 26)), (2, .ref (adM 14)), (3, .ref ao), (4, iV i)] [] := by
  obtain ⟨T, T9, hT, hT9, hc, hth, hv0, hrel⟩ := F Mc Mm (xs (i + 1).toNat).toInt (xs (i + 2).toNat).toInt hR (zi_inR _) (zi_inR _)
  have hh := hL_apart l hl adC adM ao (k, Mc, Mm, o) (xs (i + 1).toNat).toInt (xs (i + 2).toNat).toInt T hT hc
  rcases hc with h0 | h0
  · have hz : (if T.1 = 0 then (0 : Int) else 1) = 0 := by rw [h0]; rfl
    rw [hz] at hth hh
    have hv := (hv0 h0)
    rw [if_pos h0] at hh
    refine lx_aload_n cx 1 dL_law_352 rfl rfl ?_
    refine lx_aload_n cx 0 dL_law_353 rfl rfl ?_
    refine lx_iload cx 4 dL_law_354 rfl ?_
    refine lx_iconst cx dL_law_356 ?_
    refine lx_iadd cx dL_law_357 ?_
    refine lx_sld cx rfl hL ⟨by omega, by omega⟩ dL_law_358 ?_
    refine lx_aload_n cx 0 dL_law_359 rfl rfl ?_
    refine lx_iload cx 4 dL_law_360 rfl ?_
    refine lx_iconst cx dL_law_362 ?_
    refine lx_iadd cx dL_law_363 ?_
    refine lx_sld cx rfl hL ⟨by omega, by omega⟩ dL_law_364 ?_
    refine lx_aload_n cx 3 dL_law_365 rfl rfl ?_
    refine lx_callH (As := [.ref (adC 26), iV (xs (i + 1).toNat).toInt, iV (xs (i + 2).toNat).toInt, .ref ao]) (n := 4) (st := []) cx hh (by show k + 1 ≤ 512; omega) gL_law_L_apart rfl ⟨rfl, rfl⟩ (by decide +kernel) rfl ⟨by decide, by decide⟩ rfl (Nat.le_of_ble_eq_true rfl) dL_law_366 ?_
    refine lx_S (S' := (k + 1, T.2.2, Mm, (vp_updL o 0 (Int32.ofInt T.2.1).toInt64))) rfl ?_
    refine lx_istore (lv' := [(5, iV 0), (0, .ref b), (1, .ref (adC 26)), (2, .ref (adM 14)), (3, .ref ao), (4, iV i)]) cx dL_law_369 (by decide) rfl ?_
    refine lx_aload_n cx 3 dL_law_371 rfl rfl ?_
    refine lx_aload_n cx 1 dL_law_372 rfl rfl ?_
    refine lx_iload cx 5 dL_law_373 rfl ?_
    refine lx_iconst cx dL_law_375 ?_
    refine lx_iadd cx dL_law_376 ?_
    refine lx_sld cx rfl hL ⟨by omega, by omega⟩ dL_law_377 ?_
    refine lx_aload_n cx 1 dL_law_378 rfl rfl ?_
    refine lx_iload cx 5 dL_law_379 rfl ?_
    refine lx_iconst cx dL_law_381 ?_
    refine lx_iadd cx dL_law_382 ?_
    refine lx_sld cx rfl hL ⟨by omega, by omega⟩ dL_law_383 ?_
    refine lx_callM (As := [iV (xs (i + 1).toNat).toInt, iV (xs (i + 2).toNat).toInt]) (n := 2) (st := []) cx (kX6_apart l adM Mm (xs (i + 1).toNat).toInt (xs (i + 2).toNat).toInt _ hT9) (by show k + 1 ≤ 512; omega) gL_law_X6_apart rfl ⟨rfl, rfl⟩ (by decide +kernel) rfl ⟨by decide, by decide⟩ rfl (Nat.le_of_ble_eq_true rfl) dL_law_384 ?_
    refine lx_S (S' := (k + 1, T.2.2, T9.2, (vp_updL o 0 (Int32.ofInt T.2.1).toInt64))) rfl ?_
    refine lx_istore (lv' := [(6, iV (T9.1)), (5, iV 0), (0, .ref b), (1, .ref (adC 26)), (2, .ref (adM 14)), (3, .ref ao), (4, iV i)]) cx dL_law_387 (by decide) rfl ?_
    refine lx_aload_n cx 4 dL_law_389 rfl rfl ?_
    refine lx_callM (As := []) (n := 0) (st := []) cx (kX6_thrown l adM T9.2 _ rfl) (by show k + 1 ≤ 512; omega) gL_law_X6_thrown rfl ⟨rfl, rfl⟩ (by decide +kernel) rfl ⟨by decide, by decide⟩ rfl (Nat.le_of_ble_eq_true rfl) dL_law_390 ?_
    refine lx_S (S' := (k + 1, T.2.2, T9.2, (vp_updL o 0 (Int32.ofInt T.2.1).toInt64))) rfl ?_
    refine lx_iload cx 1 dL_law_393 rfl ?_
    refine lx_icmp_eq cx 400 dL_law_395 (by decide) (by rw [hth]; exact ⟨by decide, by decide⟩) ⟨by decide, by decide⟩ (fun c => ?_) (fun c => absurd hth c)
    refine lx_iload cx 1 dL_law_400 rfl ?_
    refine lx_if_ne cx 417 dL_law_402 (by decide) ⟨by decide, by decide⟩ (fun c => ?_) (fun c => absurd rfl c)
    refine lx_aload_n cx 5 dL_law_405 rfl rfl ?_
    refine lx_iconst cx dL_law_406 ?_
    refine lx_lald cx dL_law_407 ?_
    refine lx_topl (x' := (Int32.ofInt T.2.1).toInt64) rfl ?_
    refine lx_iload cx 0 dL_law_408 rfl ?_
    refine lx_i2l cx dL_law_410 ?_
    refine lx_lcmp cx dL_law_411 ?_
    refine lx_if_eq cx 417 dL_law_412 (by decide) (zlcmp_R _ _) (fun c => ?_) (fun c => absurd (by first | exact zlcmp_eq hv | exact zlcmp_eq (by rw [hv]) | exact zlcmp_eq rfl) c)
    refine lx_goto cx 1527 dL_law_417 (by decide) ?_
    refine lx_lv cx [2, 3, 4, 5, 6] rfl ?_
    exact J _ _ _ _ rfl hrel
  · have hz : (if T.1 = 0 then (0 : Int) else 1) = 1 := by rw [h0]; rfl
    rw [hz] at hth hh
    rw [if_neg (by rw [h0]; decide)] at hh
    refine lx_aload_n cx 1 dL_law_352 rfl rfl ?_
    refine lx_aload_n cx 0 dL_law_353 rfl rfl ?_
    refine lx_iload cx 4 dL_law_354 rfl ?_
    refine lx_iconst cx dL_law_356 ?_
    refine lx_iadd cx dL_law_357 ?_
    refine lx_sld cx rfl hL ⟨by omega, by omega⟩ dL_law_358 ?_
    refine lx_aload_n cx 0 dL_law_359 rfl rfl ?_
    refine lx_iload cx 4 dL_law_360 rfl ?_
    refine lx_iconst cx dL_law_362 ?_
    refine lx_iadd cx dL_law_363 ?_
    refine lx_sld cx rfl hL ⟨by omega, by omega⟩ dL_law_364 ?_
    refine lx_aload_n cx 3 dL_law_365 rfl rfl ?_
    refine lx_callH (As := [.ref (adC 26), iV (xs (i + 1).toNat).toInt, iV (xs (i + 2).toNat).toInt, .ref ao]) (n := 4) (st := []) cx hh (by show k + 1 ≤ 512; omega) gL_law_L_apart rfl ⟨rfl, rfl⟩ (by decide +kernel) rfl ⟨by decide, by decide⟩ rfl (Nat.le_of_ble_eq_true rfl) dL_law_366 ?_
    refine lx_S (S' := (k + 1, T.2.2, Mm, o)) rfl ?_
    refine lx_istore (lv' := [(5, iV 1), (0, .ref b), (1, .ref (adC 26)), (2, .ref (adM 14)), (3, .ref ao), (4, iV i)]) cx dL_law_369 (by decide) rfl ?_
    refine lx_aload_n cx 3 dL_law_371 rfl rfl ?_
    refine lx_aload_n cx 1 dL_law_372 rfl rfl ?_
    refine lx_iload cx 5 dL_law_373 rfl ?_
    refine lx_iconst cx dL_law_375 ?_
    refine lx_iadd cx dL_law_376 ?_
    refine lx_sld cx rfl hL ⟨by omega, by omega⟩ dL_law_377 ?_
    refine lx_aload_n cx 1 dL_law_378 rfl rfl ?_
    refine lx_iload cx 5 dL_law_379 rfl ?_
    refine lx_iconst cx dL_law_381 ?_
    refine lx_iadd cx dL_law_382 ?_
    refine lx_sld cx rfl hL ⟨by omega, by omega⟩ dL_law_383 ?_
    refine lx_callM (As := [iV (xs (i + 1).toNat).toInt, iV (xs (i + 2).toNat).toInt]) (n := 2) (st := []) cx (kX6_apart l adM Mm (xs (i + 1).toNat).toInt (xs (i + 2).toNat).toInt _ hT9) (by show k + 1 ≤ 512; omega) gL_law_X6_apart rfl ⟨rfl, rfl⟩ (by decide +kernel) rfl ⟨by decide, by decide⟩ rfl (Nat.le_of_ble_eq_true rfl) dL_law_384 ?_
    refine lx_S (S' := (k + 1, T.2.2, T9.2, o)) rfl ?_
    refine lx_istore (lv' := [(6, iV (T9.1)), (5, iV 1), (0, .ref b), (1, .ref (adC 26)), (2, .ref (adM 14)), (3, .ref ao), (4, iV i)]) cx dL_law_387 (by decide) rfl ?_
    refine lx_aload_n cx 4 dL_law_389 rfl rfl ?_
    refine lx_callM (As := []) (n := 0) (st := []) cx (kX6_thrown l adM T9.2 _ rfl) (by show k + 1 ≤ 512; omega) gL_law_X6_thrown rfl ⟨rfl, rfl⟩ (by decide +kernel) rfl ⟨by decide, by decide⟩ rfl (Nat.le_of_ble_eq_true rfl) dL_law_390 ?_
    refine lx_S (S' := (k + 1, T.2.2, T9.2, o)) rfl ?_
    refine lx_iload cx 1 dL_law_393 rfl ?_
    refine lx_icmp_eq cx 400 dL_law_395 (by decide) (by rw [hth]; exact ⟨by decide, by decide⟩) ⟨by decide, by decide⟩ (fun c => ?_) (fun c => absurd hth c)
    refine lx_iload cx 1 dL_law_400 rfl ?_
    refine lx_if_ne cx 417 dL_law_402 (by decide) ⟨by decide, by decide⟩ (fun c => absurd c (by decide)) (fun c => ?_)
    refine lx_goto cx 1527 dL_law_417 (by decide) ?_
    refine lx_lv cx [2, 3, 4, 5, 6] rfl ?_
    exact J _ _ _ _ rfl hrel
set_option maxRecDepth 100000 in
set_option maxHeartbeats 4000000 in
theorem lc_town {Rel : Mem → Mem → Prop} (F : Fc_town Rel) (l : Launch) (hl : l.stackTraces = false) (adC adM : Nat → Nat) (ao b L : Nat) (xs : Nat → Int32) (G : LSt → Nat → List (Nat × Value) → List Value → Prop) (cx : CL adC adM ao RL cL_law 7 wsL_law room_1 l (fun _ => True) (some (b, L, xs)) 512 (fun z _ => z = 1) G) (hL : L < 2147483648) (k : Nat) (Mc Mm : Mem) (o : Nat → Int64) (i : Int) (hk : k < 512) (hi : 0 ≤ i) (hi2 : i + 2 < (L : Int)) (hR : Rel Mc Mm) (J : ∀ (k2 : Nat) (Mc2 Mm2 : Mem) (o2 : Nat → Int64), k2 = k + 1 → Rel Mc2 Mm2 → G (k2, Mc2, Mm2, o2) 1527 [(0, .ref b), (1, .ref (adC 26)), (2, .ref (adM 14)), (3, .ref ao), (4, iV i)] []) : G (k, Mc, Mm, o) 420 [(0, .ref b), (1, .ref (adC 26)), (2, .ref (adM 14)), (3, .ref ao), (4, iV i)] [] := by
  obtain ⟨T, T9, hT, hT9, hc, hth, hv0, hrel⟩ := F Mc Mm (xs (i + 1).toNat).toInt hR (zi_inR _)
  have hh := hL_town l hl adC adM ao (k, Mc, Mm, o) (xs (i + 1).toNat).toInt T hT hc
  rcases hc with h0 | h0 | h0
  · have hz : (if T.1 = 0 then (0 : Int) else if T.1 = 1 then 1 else 2) = 0 := by rw [h0]; rfl
    rw [hz] at hth hh
    have hv := (hv0 h0)
    rw [if_pos h0] at hh
    refine lx_aload_n cx 1 dL_law_420 rfl rfl ?_
    refine lx_aload_n cx 0 dL_law_421 rfl rfl ?_
    refine lx_iload cx 4 dL_law_422 rfl ?_
    refine lx_iconst cx dL_law_424 ?_
    refine lx_iadd cx dL_law_425 ?_
    refine lx_sld cx rfl hL ⟨by omega, by omega⟩ dL_law_426 ?_
    refine lx_aload_n cx 3 dL_law_427 rfl rfl ?_
    refine lx_callH (As := [.ref (adC 26), iV (xs (i + 1).toNat).toInt, .ref ao]) (n := 3) (st := []) cx hh (by show k + 1 ≤ 512; omega) gL_law_L_town rfl ⟨rfl, rfl⟩ (by decide +kernel) rfl ⟨by decide, by decide⟩ rfl (Nat.le_of_ble_eq_true rfl) dL_law_428 ?_
    refine lx_S (S' := (k + 1, T.2.2, Mm, (vp_updL o 0 (Int32.ofInt T.2.1).toInt64))) rfl ?_
    refine lx_istore (lv' := [(5, iV 0), (0, .ref b), (1, .ref (adC 26)), (2, .ref (adM 14)), (3, .ref ao), (4, iV i)]) cx dL_law_431 (by decide) rfl ?_
    refine lx_aload_n cx 3 dL_law_433 rfl rfl ?_
    refine lx_aload_n cx 1 dL_law_434 rfl rfl ?_
    refine lx_iload cx 5 dL_law_435 rfl ?_
    refine lx_iconst cx dL_law_437 ?_
    refine lx_iadd cx dL_law_438 ?_
    refine lx_sld cx rfl hL ⟨by omega, by omega⟩ dL_law_439 ?_
    refine lx_callM (As := [iV (xs (i + 1).toNat).toInt]) (n := 1) (st := []) cx (kX6_town l adM Mm (xs (i + 1).toNat).toInt _ hT9) (by show k + 1 ≤ 512; omega) gL_law_X6_town rfl ⟨rfl, rfl⟩ (by decide +kernel) rfl ⟨by decide, by decide⟩ rfl (Nat.le_of_ble_eq_true rfl) dL_law_440 ?_
    refine lx_S (S' := (k + 1, T.2.2, T9.2, (vp_updL o 0 (Int32.ofInt T.2.1).toInt64))) rfl ?_
    refine lx_istore (lv' := [(6, iV (T9.1)), (5, iV 0), (0, .ref b), (1, .ref (adC 26)), (2, .ref (adM 14)), (3, .ref ao), (4, iV i)]) cx dL_law_443 (by decide) rfl ?_
    refine lx_aload_n cx 4 dL_law_445 rfl rfl ?_
    refine lx_callM (As := []) (n := 0) (st := []) cx (kX6_thrown l adM T9.2 _ rfl) (by show k + 1 ≤ 512; omega) gL_law_X6_thrown rfl ⟨rfl, rfl⟩ (by decide +kernel) rfl ⟨by decide, by decide⟩ rfl (Nat.le_of_ble_eq_true rfl) dL_law_446 ?_
    refine lx_S (S' := (k + 1, T.2.2, T9.2, (vp_updL o 0 (Int32.ofInt T.2.1).toInt64))) rfl ?_
    refine lx_iload cx 1 dL_law_449 rfl ?_
    refine lx_icmp_eq cx 456 dL_law_451 (by decide) (by rw [hth]; exact ⟨by decide, by decide⟩) ⟨by decide, by decide⟩ (fun c => ?_) (fun c => absurd hth c)
    refine lx_iload cx 1 dL_law_456 rfl ?_
    refine lx_if_ne cx 473 dL_law_458 (by decide) ⟨by decide, by decide⟩ (fun c => ?_) (fun c => absurd rfl c)
    refine lx_aload_n cx 5 dL_law_461 rfl rfl ?_
    refine lx_iconst cx dL_law_462 ?_
    refine lx_lald cx dL_law_463 ?_
    refine lx_topl (x' := (Int32.ofInt T.2.1).toInt64) rfl ?_
    refine lx_iload cx 0 dL_law_464 rfl ?_
    refine lx_i2l cx dL_law_466 ?_
    refine lx_lcmp cx dL_law_467 ?_
    refine lx_if_eq cx 473 dL_law_468 (by decide) (zlcmp_R _ _) (fun c => ?_) (fun c => absurd (by first | exact zlcmp_eq hv | exact zlcmp_eq (by rw [hv]) | exact zlcmp_eq rfl) c)
    refine lx_goto cx 1527 dL_law_473 (by decide) ?_
    refine lx_lv cx [2, 3, 4, 5, 6] rfl ?_
    exact J _ _ _ _ rfl hrel
  · have hz : (if T.1 = 0 then (0 : Int) else if T.1 = 1 then 1 else 2) = 1 := by rw [h0]; rfl
    rw [hz] at hth hh
    rw [if_neg (by rw [h0]; decide)] at hh
    refine lx_aload_n cx 1 dL_law_420 rfl rfl ?_
    refine lx_aload_n cx 0 dL_law_421 rfl rfl ?_
    refine lx_iload cx 4 dL_law_422 rfl ?_
    refine lx_iconst cx dL_law_424 ?_
    refine lx_iadd cx dL_law_425 ?_
    refine lx_sld cx rfl hL ⟨by omega, by omega⟩ dL_law_426 ?_
    refine lx_aload_n cx 3 dL_law_427 rfl rfl ?_
    refine lx_callH (As := [.ref (adC 26), iV (xs (i + 1).toNat).toInt, .ref ao]) (n := 3) (st := []) cx hh (by show k + 1 ≤ 512; omega) gL_law_L_town rfl ⟨rfl, rfl⟩ (by decide +kernel) rfl ⟨by decide, by decide⟩ rfl (Nat.le_of_ble_eq_true rfl) dL_law_428 ?_
    refine lx_S (S' := (k + 1, T.2.2, Mm, o)) rfl ?_
    refine lx_istore (lv' := [(5, iV 1), (0, .ref b), (1, .ref (adC 26)), (2, .ref (adM 14)), (3, .ref ao), (4, iV i)]) cx dL_law_431 (by decide) rfl ?_
    refine lx_aload_n cx 3 dL_law_433 rfl rfl ?_
    refine lx_aload_n cx 1 dL_law_434 rfl rfl ?_
    refine lx_iload cx 5 dL_law_435 rfl ?_
    refine lx_iconst cx dL_law_437 ?_
    refine lx_iadd cx dL_law_438 ?_
    refine lx_sld cx rfl hL ⟨by omega, by omega⟩ dL_law_439 ?_
    refine lx_callM (As := [iV (xs (i + 1).toNat).toInt]) (n := 1) (st := []) cx (kX6_town l adM Mm (xs (i + 1).toNat).toInt _ hT9) (by show k + 1 ≤ 512; omega) gL_law_X6_town rfl ⟨rfl, rfl⟩ (by decide +kernel) rfl ⟨by decide, by decide⟩ rfl (Nat.le_of_ble_eq_true rfl) dL_law_440 ?_
    refine lx_S (S' := (k + 1, T.2.2, T9.2, o)) rfl ?_
    refine lx_istore (lv' := [(6, iV (T9.1)), (5, iV 1), (0, .ref b), (1, .ref (adC 26)), (2, .ref (adM 14)), (3, .ref ao), (4, iV i)]) cx dL_law_443 (by decide) rfl ?_
    refine lx_aload_n cx 4 dL_law_445 rfl rfl ?_
    refine lx_callM (As := []) (n := 0) (st := []) cx (kX6_thrown l adM T9.2 _ rfl) (by show k + 1 ≤ 512; omega) gL_law_X6_thrown rfl ⟨rfl, rfl⟩ (by decide +kernel) rfl ⟨by decide, by decide⟩ rfl (Nat.le_of_ble_eq_true rfl) dL_law_446 ?_
    refine lx_S (S' := (k + 1, T.2.2, T9.2, o)) rfl ?_
    refine lx_iload cx 1 dL_law_449 rfl ?_
    refine lx_icmp_eq cx 456 dL_law_451 (by decide) (by rw [hth]; exact ⟨by decide, by decide⟩) ⟨by decide, by decide⟩ (fun c => ?_) (fun c => absurd hth c)
    refine lx_iload cx 1 dL_law_456 rfl ?_
    refine lx_if_ne cx 473 dL_law_458 (by decide) ⟨by decide, by decide⟩ (fun c => absurd c (by decide)) (fun c => ?_)
    refine lx_goto cx 1527 dL_law_473 (by decide) ?_
    refine lx_lv cx [2, 3, 4, 5, 6] rfl ?_
    exact J _ _ _ _ rfl hrel
  · have hz : (if T.1 = 0 then (0 : Int) else if T.1 = 1 then 1 else 2) = 2 := by rw [h0]; rfl
    rw [hz] at hth hh
    rw [if_neg (by rw [h0]; decide)] at hh
    refine lx_aload_n cx 1 dL_law_420 rfl rfl ?_
    refine lx_aload_n cx 0 dL_law_421 rfl rfl ?_
    refine lx_iload cx 4 dL_law_422 rfl ?_
    refine lx_iconst cx dL_law_424 ?_
    refine lx_iadd cx dL_law_425 ?_
    refine lx_sld cx rfl hL ⟨by omega, by omega⟩ dL_law_426 ?_
    refine lx_aload_n cx 3 dL_law_427 rfl rfl ?_
    refine lx_callH (As := [.ref (adC 26), iV (xs (i + 1).toNat).toInt, .ref ao]) (n := 3) (st := []) cx hh (by show k + 1 ≤ 512; omega) gL_law_L_town rfl ⟨rfl, rfl⟩ (by decide +kernel) rfl ⟨by decide, by decide⟩ rfl (Nat.le_of_ble_eq_true rfl) dL_law_428 ?_
    refine lx_S (S' := (k + 1, T.2.2, Mm, o)) rfl ?_
    refine lx_istore (lv' := [(5, iV 2), (0, .ref b), (1, .ref (adC 26)), (2, .ref (adM 14)), (3, .ref ao), (4, iV i)]) cx dL_law_431 (by decide) rfl ?_
    refine lx_aload_n cx 3 dL_law_433 rfl rfl ?_
    refine lx_aload_n cx 1 dL_law_434 rfl rfl ?_
    refine lx_iload cx 5 dL_law_435 rfl ?_
    refine lx_iconst cx dL_law_437 ?_
    refine lx_iadd cx dL_law_438 ?_
    refine lx_sld cx rfl hL ⟨by omega, by omega⟩ dL_law_439 ?_
    refine lx_callM (As := [iV (xs (i + 1).toNat).toInt]) (n := 1) (st := []) cx (kX6_town l adM Mm (xs (i + 1).toNat).toInt _ hT9) (by show k + 1 ≤ 512; omega) gL_law_X6_town rfl ⟨rfl, rfl⟩ (by decide +kernel) rfl ⟨by decide, by decide⟩ rfl (Nat.le_of_ble_eq_true rfl) dL_law_440 ?_
    refine lx_S (S' := (k + 1, T.2.2, T9.2, o)) rfl ?_
    refine lx_istore (lv' := [(6, iV (T9.1)), (5, iV 2), (0, .ref b), (1, .ref (adC 26)), (2, .ref (adM 14)), (3, .ref ao), (4, iV i)]) cx dL_law_443 (by decide) rfl ?_
    refine lx_aload_n cx 4 dL_law_445 rfl rfl ?_
    refine lx_callM (As := []) (n := 0) (st := []) cx (kX6_thrown l adM T9.2 _ rfl) (by show k + 1 ≤ 512; omega) gL_law_X6_thrown rfl ⟨rfl, rfl⟩ (by decide +kernel) rfl ⟨by decide, by decide⟩ rfl (Nat.le_of_ble_eq_true rfl) dL_law_446 ?_
    refine lx_S (S' := (k + 1, T.2.2, T9.2, o)) rfl ?_
    refine lx_iload cx 1 dL_law_449 rfl ?_
    refine lx_icmp_eq cx 456 dL_law_451 (by decide) (by rw [hth]; exact ⟨by decide, by decide⟩) ⟨by decide, by decide⟩ (fun c => ?_) (fun c => absurd hth c)
    refine lx_iload cx 1 dL_law_456 rfl ?_
    refine lx_if_ne cx 473 dL_law_458 (by decide) ⟨by decide, by decide⟩ (fun c => absurd c (by decide)) (fun c => ?_)
    refine lx_goto cx 1527 dL_law_473 (by decide) ?_
    refine lx_lv cx [2, 3, 4, 5, 6] rfl ?_
    exact J _ _ _ _ rfl hrel
set_option maxRecDepth 100000 in
set_option maxHeartbeats 4000000 in
theorem lc_away {Rel : Mem → Mem → Prop} (F : Fc_away Rel) (l : Launch) (hl : l.stackTraces = false) (adC adM : Nat → Nat) (ao b L : Nat) (xs : Nat → Int32) (G : LSt → Nat → List (Nat × Value) → List Value → Prop) (cx : CL adC adM ao RL cL_law 7 wsL_law room_1 l (fun _ => True) (some (b, L, xs)) 512 (fun z _ => z = 1) G) (hL : L < 2147483648) (k : Nat) (Mc Mm : Mem) (o : Nat → Int64) (i : Int) (hk : k < 512) (hi : 0 ≤ i) (hi2 : i + 2 < (L : Int)) (hR : Rel Mc Mm) (J : ∀ (k2 : Nat) (Mc2 Mm2 : Mem) (o2 : Nat → Int64), k2 = k + 1 → Rel Mc2 Mm2 → G (k2, Mc2, Mm2, o2) 1527 [(0, .ref b), (1, .ref (adC 26)), (2, .ref (adM 14)), (3, .ref ao), (4, iV i)] []) : G (k, Mc, Mm, o) 476 [(0, .ref b), (1, .ref (adC 26)), (2, .ref (adM 14)), (3, .ref ao), (4, iV i)] [] := by
  obtain ⟨T, T9, hT, hT9, hc, hth, hv0, hrel⟩ := F Mc Mm (xs (i + 1).toNat).toInt hR (zi_inR _)
  have hh := hL_away l hl adC adM ao (k, Mc, Mm, o) (xs (i + 1).toNat).toInt T hT hc
  rcases hc with h0 | h0
  · have hz : (if T.1 = 0 then (0 : Int) else 1) = 0 := by rw [h0]; rfl
    rw [hz] at hth hh
    have hv := (hv0 h0)
    rw [if_pos h0] at hh
    refine lx_aload_n cx 1 dL_law_476 rfl rfl ?_
    refine lx_aload_n cx 0 dL_law_477 rfl rfl ?_
    refine lx_iload cx 4 dL_law_478 rfl ?_
    refine lx_iconst cx dL_law_480 ?_
    refine lx_iadd cx dL_law_481 ?_
    refine lx_sld cx rfl hL ⟨by omega, by omega⟩ dL_law_482 ?_
    refine lx_aload_n cx 3 dL_law_483 rfl rfl ?_
    refine lx_callH (As := [.ref (adC 26), iV (xs (i + 1).toNat).toInt, .ref ao]) (n := 3) (st := []) cx hh (by show k + 1 ≤ 512; omega) gL_law_L_away rfl ⟨rfl, rfl⟩ (by decide +kernel) rfl ⟨by decide, by decide⟩ rfl (Nat.le_of_ble_eq_true rfl) dL_law_484 ?_
    refine lx_S (S' := (k + 1, T.2.2, Mm, (vp_updL o 0 (Int32.ofInt T.2.1).toInt64))) rfl ?_
    refine lx_istore (lv' := [(5, iV 0), (0, .ref b), (1, .ref (adC 26)), (2, .ref (adM 14)), (3, .ref ao), (4, iV i)]) cx dL_law_487 (by decide) rfl ?_
    refine lx_aload_n cx 3 dL_law_489 rfl rfl ?_
    refine lx_aload_n cx 1 dL_law_490 rfl rfl ?_
    refine lx_iload cx 5 dL_law_491 rfl ?_
    refine lx_iconst cx dL_law_493 ?_
    refine lx_iadd cx dL_law_494 ?_
    refine lx_sld cx rfl hL ⟨by omega, by omega⟩ dL_law_495 ?_
    refine lx_callM (As := [iV (xs (i + 1).toNat).toInt]) (n := 1) (st := []) cx (kX6_away l adM Mm (xs (i + 1).toNat).toInt _ hT9) (by show k + 1 ≤ 512; omega) gL_law_X6_away rfl ⟨rfl, rfl⟩ (by decide +kernel) rfl ⟨by decide, by decide⟩ rfl (Nat.le_of_ble_eq_true rfl) dL_law_496 ?_
    refine lx_S (S' := (k + 1, T.2.2, T9.2, (vp_updL o 0 (Int32.ofInt T.2.1).toInt64))) rfl ?_
    refine lx_istore (lv' := [(6, iV (T9.1)), (5, iV 0), (0, .ref b), (1, .ref (adC 26)), (2, .ref (adM 14)), (3, .ref ao), (4, iV i)]) cx dL_law_499 (by decide) rfl ?_
    refine lx_aload_n cx 4 dL_law_501 rfl rfl ?_
    refine lx_callM (As := []) (n := 0) (st := []) cx (kX6_thrown l adM T9.2 _ rfl) (by show k + 1 ≤ 512; omega) gL_law_X6_thrown rfl ⟨rfl, rfl⟩ (by decide +kernel) rfl ⟨by decide, by decide⟩ rfl (Nat.le_of_ble_eq_true rfl) dL_law_502 ?_
    refine lx_S (S' := (k + 1, T.2.2, T9.2, (vp_updL o 0 (Int32.ofInt T.2.1).toInt64))) rfl ?_
    refine lx_iload cx 1 dL_law_505 rfl ?_
    refine lx_icmp_eq cx 512 dL_law_507 (by decide) (by rw [hth]; exact ⟨by decide, by decide⟩) ⟨by decide, by decide⟩ (fun c => ?_) (fun c => absurd hth c)
    refine lx_iload cx 1 dL_law_512 rfl ?_
    refine lx_if_ne cx 529 dL_law_514 (by decide) ⟨by decide, by decide⟩ (fun c => ?_) (fun c => absurd rfl c)
    refine lx_aload_n cx 5 dL_law_517 rfl rfl ?_
    refine lx_iconst cx dL_law_518 ?_
    refine lx_lald cx dL_law_519 ?_
    refine lx_topl (x' := (Int32.ofInt T.2.1).toInt64) rfl ?_
    refine lx_iload cx 0 dL_law_520 rfl ?_
    refine lx_i2l cx dL_law_522 ?_
    refine lx_lcmp cx dL_law_523 ?_
    refine lx_if_eq cx 529 dL_law_524 (by decide) (zlcmp_R _ _) (fun c => ?_) (fun c => absurd (by first | exact zlcmp_eq hv | exact zlcmp_eq (by rw [hv]) | exact zlcmp_eq rfl) c)
    refine lx_goto cx 1527 dL_law_529 (by decide) ?_
    refine lx_lv cx [2, 3, 4, 5, 6] rfl ?_
    exact J _ _ _ _ rfl hrel
  · have hz : (if T.1 = 0 then (0 : Int) else 1) = 1 := by rw [h0]; rfl
    rw [hz] at hth hh
    rw [if_neg (by rw [h0]; decide)] at hh
    refine lx_aload_n cx 1 dL_law_476 rfl rfl ?_
    refine lx_aload_n cx 0 dL_law_477 rfl rfl ?_
    refine lx_iload cx 4 dL_law_478 rfl ?_
    refine lx_iconst cx dL_law_480 ?_
    refine lx_iadd cx dL_law_481 ?_
    refine lx_sld cx rfl hL ⟨by omega, by omega⟩ dL_law_482 ?_
    refine lx_aload_n cx 3 dL_law_483 rfl rfl ?_
    refine lx_callH (As := [.ref (adC 26), iV (xs (i + 1).toNat).toInt, .ref ao]) (n := 3) (st := []) cx hh (by show k + 1 ≤ 512; omega) gL_law_L_away rfl ⟨rfl, rfl⟩ (by decide +kernel) rfl ⟨by decide, by decide⟩ rfl (Nat.le_of_ble_eq_true rfl) dL_law_484 ?_
    refine lx_S (S' := (k + 1, T.2.2, Mm, o)) rfl ?_
    refine lx_istore (lv' := [(5, iV 1), (0, .ref b), (1, .ref (adC 26)), (2, .ref (adM 14)), (3, .ref ao), (4, iV i)]) cx dL_law_487 (by decide) rfl ?_
    refine lx_aload_n cx 3 dL_law_489 rfl rfl ?_
    refine lx_aload_n cx 1 dL_law_490 rfl rfl ?_
    refine lx_iload cx 5 dL_law_491 rfl ?_
    refine lx_iconst cx dL_law_493 ?_
    refine lx_iadd cx dL_law_494 ?_
    refine lx_sld cx rfl hL ⟨by omega, by omega⟩ dL_law_495 ?_
    refine lx_callM (As := [iV (xs (i + 1).toNat).toInt]) (n := 1) (st := []) cx (kX6_away l adM Mm (xs (i + 1).toNat).toInt _ hT9) (by show k + 1 ≤ 512; omega) gL_law_X6_away rfl ⟨rfl, rfl⟩ (by decide +kernel) rfl ⟨by decide, by decide⟩ rfl (Nat.le_of_ble_eq_true rfl) dL_law_496 ?_
    refine lx_S (S' := (k + 1, T.2.2, T9.2, o)) rfl ?_
    refine lx_istore (lv' := [(6, iV (T9.1)), (5, iV 1), (0, .ref b), (1, .ref (adC 26)), (2, .ref (adM 14)), (3, .ref ao), (4, iV i)]) cx dL_law_499 (by decide) rfl ?_
    refine lx_aload_n cx 4 dL_law_501 rfl rfl ?_
    refine lx_callM (As := []) (n := 0) (st := []) cx (kX6_thrown l adM T9.2 _ rfl) (by show k + 1 ≤ 512; omega) gL_law_X6_thrown rfl ⟨rfl, rfl⟩ (by decide +kernel) rfl ⟨by decide, by decide⟩ rfl (Nat.le_of_ble_eq_true rfl) dL_law_502 ?_
    refine lx_S (S' := (k + 1, T.2.2, T9.2, o)) rfl ?_
    refine lx_iload cx 1 dL_law_505 rfl ?_
    refine lx_icmp_eq cx 512 dL_law_507 (by decide) (by rw [hth]; exact ⟨by decide, by decide⟩) ⟨by decide, by decide⟩ (fun c => ?_) (fun c => absurd hth c)
    refine lx_iload cx 1 dL_law_512 rfl ?_
    refine lx_if_ne cx 529 dL_law_514 (by decide) ⟨by decide, by decide⟩ (fun c => absurd c (by decide)) (fun c => ?_)
    refine lx_goto cx 1527 dL_law_529 (by decide) ?_
    refine lx_lv cx [2, 3, 4, 5, 6] rfl ?_
    exact J _ _ _ _ rfl hrel
set_option maxRecDepth 100000 in
set_option maxHeartbeats 4000000 in
theorem lc_townAt {Rel : Mem → Mem → Prop} (F : Fc_townAt Rel) (l : Launch) (hl : l.stackTraces = false) (adC adM : Nat → Nat) (ao b L : Nat) (xs : Nat → Int32) (G : LSt → Nat → List (Nat × Value) → List Value → Prop) (cx : CL adC adM ao RL cL_law 7 wsL_law room_1 l (fun _ => True) (some (b, L, xs)) 512 (fun z _ => z = 1) G) (hL : L < 2147483648) (k : Nat) (Mc Mm : Mem) (o : Nat → Int64) (i : Int) (hk : k < 512) (hi : 0 ≤ i) (hi2 : i + 2 < (L : Int)) (hR : Rel Mc Mm) (J : ∀ (k2 : Nat) (Mc2 Mm2 : Mem) (o2 : Nat → Int64), k2 = k + 1 → Rel Mc2 Mm2 → G (k2, Mc2, Mm2, o2) 1527 [(0, .ref b), (1, .ref (adC 26)), (2, .ref (adM 14)), (3, .ref ao), (4, iV i)] []) : G (k, Mc, Mm, o) 532 [(0, .ref b), (1, .ref (adC 26)), (2, .ref (adM 14)), (3, .ref ao), (4, iV i)] [] := by
  obtain ⟨T, T9, hT, hT9, hc, hth, hv0, hrel⟩ := F Mc Mm (xs (i + 1).toNat).toInt hR (zi_inR _)
  have hh := hL_townAt l hl adC adM ao (k, Mc, Mm, o) (xs (i + 1).toNat).toInt T hT hc
  rcases hc with h0 | h0
  · have hz : (if T.1 = 0 then (0 : Int) else 1) = 0 := by rw [h0]; rfl
    rw [hz] at hth hh
    have hv := (hv0 h0)
    rw [if_pos h0] at hh
    refine lx_aload_n cx 1 dL_law_532 rfl rfl ?_
    refine lx_aload_n cx 0 dL_law_533 rfl rfl ?_
    refine lx_iload cx 4 dL_law_534 rfl ?_
    refine lx_iconst cx dL_law_536 ?_
    refine lx_iadd cx dL_law_537 ?_
    refine lx_sld cx rfl hL ⟨by omega, by omega⟩ dL_law_538 ?_
    refine lx_aload_n cx 3 dL_law_539 rfl rfl ?_
    refine lx_callH (As := [.ref (adC 26), iV (xs (i + 1).toNat).toInt, .ref ao]) (n := 3) (st := []) cx hh (by show k + 1 ≤ 512; omega) gL_law_L_townAt rfl ⟨rfl, rfl⟩ (by decide +kernel) rfl ⟨by decide, by decide⟩ rfl (Nat.le_of_ble_eq_true rfl) dL_law_540 ?_
    refine lx_S (S' := (k + 1, Mc, Mm, (vp_updL o 0 (Int32.ofInt T.2.1).toInt64))) rfl ?_
    refine lx_istore (lv' := [(5, iV 0), (0, .ref b), (1, .ref (adC 26)), (2, .ref (adM 14)), (3, .ref ao), (4, iV i)]) cx dL_law_543 (by decide) rfl ?_
    refine lx_aload_n cx 3 dL_law_545 rfl rfl ?_
    refine lx_aload_n cx 1 dL_law_546 rfl rfl ?_
    refine lx_iload cx 5 dL_law_547 rfl ?_
    refine lx_iconst cx dL_law_549 ?_
    refine lx_iadd cx dL_law_550 ?_
    refine lx_sld cx rfl hL ⟨by omega, by omega⟩ dL_law_551 ?_
    refine lx_callM (As := [iV (xs (i + 1).toNat).toInt]) (n := 1) (st := []) cx (kX6_townAt l adM Mm (xs (i + 1).toNat).toInt _ hT9) (by show k + 1 ≤ 512; omega) gL_law_X6_townAt rfl ⟨rfl, rfl⟩ (by decide +kernel) rfl ⟨by decide, by decide⟩ rfl (Nat.le_of_ble_eq_true rfl) dL_law_552 ?_
    refine lx_S (S' := (k + 1, Mc, T9.2, (vp_updL o 0 (Int32.ofInt T.2.1).toInt64))) rfl ?_
    refine lx_istore (lv' := [(6, iV (T9.1)), (5, iV 0), (0, .ref b), (1, .ref (adC 26)), (2, .ref (adM 14)), (3, .ref ao), (4, iV i)]) cx dL_law_555 (by decide) rfl ?_
    refine lx_aload_n cx 4 dL_law_557 rfl rfl ?_
    refine lx_callM (As := []) (n := 0) (st := []) cx (kX6_thrown l adM T9.2 _ rfl) (by show k + 1 ≤ 512; omega) gL_law_X6_thrown rfl ⟨rfl, rfl⟩ (by decide +kernel) rfl ⟨by decide, by decide⟩ rfl (Nat.le_of_ble_eq_true rfl) dL_law_558 ?_
    refine lx_S (S' := (k + 1, Mc, T9.2, (vp_updL o 0 (Int32.ofInt T.2.1).toInt64))) rfl ?_
    refine lx_iload cx 1 dL_law_561 rfl ?_
    refine lx_icmp_eq cx 568 dL_law_563 (by decide) (by rw [hth]; exact ⟨by decide, by decide⟩) ⟨by decide, by decide⟩ (fun c => ?_) (fun c => absurd hth c)
    refine lx_iload cx 1 dL_law_568 rfl ?_
    refine lx_if_ne cx 585 dL_law_570 (by decide) ⟨by decide, by decide⟩ (fun c => ?_) (fun c => absurd rfl c)
    refine lx_aload_n cx 5 dL_law_573 rfl rfl ?_
    refine lx_iconst cx dL_law_574 ?_
    refine lx_lald cx dL_law_575 ?_
    refine lx_topl (x' := (Int32.ofInt T.2.1).toInt64) rfl ?_
    refine lx_iload cx 0 dL_law_576 rfl ?_
    refine lx_i2l cx dL_law_578 ?_
    refine lx_lcmp cx dL_law_579 ?_
    refine lx_if_eq cx 585 dL_law_580 (by decide) (zlcmp_R _ _) (fun c => ?_) (fun c => absurd (by first | exact zlcmp_eq hv | exact zlcmp_eq (by rw [hv]) | exact zlcmp_eq rfl) c)
    refine lx_goto cx 1527 dL_law_585 (by decide) ?_
    refine lx_lv cx [2, 3, 4, 5, 6] rfl ?_
    exact J _ _ _ _ rfl hrel
  · have hz : (if T.1 = 0 then (0 : Int) else 1) = 1 := by rw [h0]; rfl
    rw [hz] at hth hh
    rw [if_neg (by rw [h0]; decide)] at hh
    refine lx_aload_n cx 1 dL_law_532 rfl rfl ?_
    refine lx_aload_n cx 0 dL_law_533 rfl rfl ?_
    refine lx_iload cx 4 dL_law_534 rfl ?_
    refine lx_iconst cx dL_law_536 ?_
    refine lx_iadd cx dL_law_537 ?_
    refine lx_sld cx rfl hL ⟨by omega, by omega⟩ dL_law_538 ?_
    refine lx_aload_n cx 3 dL_law_539 rfl rfl ?_
    refine lx_callH (As := [.ref (adC 26), iV (xs (i + 1).toNat).toInt, .ref ao]) (n := 3) (st := []) cx hh (by show k + 1 ≤ 512; omega) gL_law_L_townAt rfl ⟨rfl, rfl⟩ (by decide +kernel) rfl ⟨by decide, by decide⟩ rfl (Nat.le_of_ble_eq_true rfl) dL_law_540 ?_
    refine lx_S (S' := (k + 1, Mc, Mm, o)) rfl ?_
    refine lx_istore (lv' := [(5, iV 1), (0, .ref b), (1, .ref (adC 26)), (2, .ref (adM 14)), (3, .ref ao), (4, iV i)]) cx dL_law_543 (by decide) rfl ?_
    refine lx_aload_n cx 3 dL_law_545 rfl rfl ?_
    refine lx_aload_n cx 1 dL_law_546 rfl rfl ?_
    refine lx_iload cx 5 dL_law_547 rfl ?_
    refine lx_iconst cx dL_law_549 ?_
    refine lx_iadd cx dL_law_550 ?_
    refine lx_sld cx rfl hL ⟨by omega, by omega⟩ dL_law_551 ?_
    refine lx_callM (As := [iV (xs (i + 1).toNat).toInt]) (n := 1) (st := []) cx (kX6_townAt l adM Mm (xs (i + 1).toNat).toInt _ hT9) (by show k + 1 ≤ 512; omega) gL_law_X6_townAt rfl ⟨rfl, rfl⟩ (by decide +kernel) rfl ⟨by decide, by decide⟩ rfl (Nat.le_of_ble_eq_true rfl) dL_law_552 ?_
    refine lx_S (S' := (k + 1, Mc, T9.2, o)) rfl ?_
    refine lx_istore (lv' := [(6, iV (T9.1)), (5, iV 1), (0, .ref b), (1, .ref (adC 26)), (2, .ref (adM 14)), (3, .ref ao), (4, iV i)]) cx dL_law_555 (by decide) rfl ?_
    refine lx_aload_n cx 4 dL_law_557 rfl rfl ?_
    refine lx_callM (As := []) (n := 0) (st := []) cx (kX6_thrown l adM T9.2 _ rfl) (by show k + 1 ≤ 512; omega) gL_law_X6_thrown rfl ⟨rfl, rfl⟩ (by decide +kernel) rfl ⟨by decide, by decide⟩ rfl (Nat.le_of_ble_eq_true rfl) dL_law_558 ?_
    refine lx_S (S' := (k + 1, Mc, T9.2, o)) rfl ?_
    refine lx_iload cx 1 dL_law_561 rfl ?_
    refine lx_icmp_eq cx 568 dL_law_563 (by decide) (by rw [hth]; exact ⟨by decide, by decide⟩) ⟨by decide, by decide⟩ (fun c => ?_) (fun c => absurd hth c)
    refine lx_iload cx 1 dL_law_568 rfl ?_
    refine lx_if_ne cx 585 dL_law_570 (by decide) ⟨by decide, by decide⟩ (fun c => absurd c (by decide)) (fun c => ?_)
    refine lx_goto cx 1527 dL_law_585 (by decide) ?_
    refine lx_lv cx [2, 3, 4, 5, 6] rfl ?_
    exact J _ _ _ _ rfl hrel
set_option maxRecDepth 100000 in
set_option maxHeartbeats 4000000 in
theorem lc_least {Rel : Mem → Mem → Prop} (F : Fc_least Rel) (l : Launch) (hl : l.stackTraces = false) (adC adM : Nat → Nat) (ao b L : Nat) (xs : Nat → Int32) (G : LSt → Nat → List (Nat × Value) → List Value → Prop) (cx : CL adC adM ao RL cL_law 7 wsL_law room_1 l (fun _ => True) (some (b, L, xs)) 512 (fun z _ => z = 1) G) (hL : L < 2147483648) (k : Nat) (Mc Mm : Mem) (o : Nat → Int64) (i : Int) (hk : k < 512) (hi : 0 ≤ i) (hi2 : i + 2 < (L : Int)) (hR : Rel Mc Mm) (J : ∀ (k2 : Nat) (Mc2 Mm2 : Mem) (o2 : Nat → Int64), k2 = k + 1 → Rel Mc2 Mm2 → G (k2, Mc2, Mm2, o2) 1527 [(0, .ref b), (1, .ref (adC 26)), (2, .ref (adM 14)), (3, .ref ao), (4, iV i)] []) : G (k, Mc, Mm, o) 588 [(0, .ref b), (1, .ref (adC 26)), (2, .ref (adM 14)), (3, .ref ao), (4, iV i)] [] := by
  obtain ⟨T, T9, hT, hT9, hv, hrg, hrel⟩ := F Mc Mm  hR 
  refine lx_aload_n cx 1 dL_law_588 rfl rfl ?_
  refine lx_callC (As := []) (n := 0) (st := []) cx (kX5_least l adC Mc  _ hT) (by show k ≤ 512; omega) gL_law_X5_least rfl ⟨rfl, rfl⟩ (by decide +kernel) rfl ⟨by decide, by decide⟩ rfl (Nat.le_of_ble_eq_true rfl) dL_law_589 ?_
  refine lx_S (S' := (k, T.2, Mm, o)) rfl ?_
  refine lx_aload_n cx 2 dL_law_592 rfl rfl ?_
  refine lx_callM (As := []) (n := 0) (st := [iV (T.1)]) cx (kX6_least l adM Mm  _ hT9) (by show k ≤ 512; omega) gL_law_X6_least rfl ⟨rfl, rfl⟩ (by decide +kernel) rfl ⟨by decide, by decide⟩ rfl (Nat.le_of_ble_eq_true rfl) dL_law_593 ?_
  refine lx_S (S' := (k, T.2, T9.2, o)) rfl ?_
  refine lx_icmp_eq cx 1527 dL_law_596 (by decide) (by rw [hv]; exact hrg) hrg (fun c => ?_) (fun c => absurd hv c)
  refine lx_widen cx ?_
  exact J _ _ _ _ rfl hrel
set_option maxRecDepth 100000 in
set_option maxHeartbeats 4000000 in
theorem lc_leastAnew {Rel : Mem → Mem → Prop} (F : Fc_leastAnew Rel) (l : Launch) (hl : l.stackTraces = false) (adC adM : Nat → Nat) (ao b L : Nat) (xs : Nat → Int32) (G : LSt → Nat → List (Nat × Value) → List Value → Prop) (cx : CL adC adM ao RL cL_law 7 wsL_law room_1 l (fun _ => True) (some (b, L, xs)) 512 (fun z _ => z = 1) G) (hL : L < 2147483648) (k : Nat) (Mc Mm : Mem) (o : Nat → Int64) (i : Int) (hk : k < 512) (hi : 0 ≤ i) (hi2 : i + 2 < (L : Int)) (hR : Rel Mc Mm) (J : ∀ (k2 : Nat) (Mc2 Mm2 : Mem) (o2 : Nat → Int64), k2 = k + 1 → Rel Mc2 Mm2 → G (k2, Mc2, Mm2, o2) 1527 [(0, .ref b), (1, .ref (adC 26)), (2, .ref (adM 14)), (3, .ref ao), (4, iV i)] []) : G (k, Mc, Mm, o) 601 [(0, .ref b), (1, .ref (adC 26)), (2, .ref (adM 14)), (3, .ref ao), (4, iV i)] [] := by
  obtain ⟨T, T9, hT, hT9, hv, hrg, hrel⟩ := F Mc Mm  hR 
  refine lx_aload_n cx 1 dL_law_601 rfl rfl ?_
  refine lx_callC (As := []) (n := 0) (st := []) cx (kX5_leastAnew l adC Mc  _ hT) (by show k ≤ 512; omega) gL_law_X5_leastAnew rfl ⟨rfl, rfl⟩ (by decide +kernel) rfl ⟨by decide, by decide⟩ rfl (Nat.le_of_ble_eq_true rfl) dL_law_602 ?_
  refine lx_S (S' := (k, T.2, Mm, o)) rfl ?_
  refine lx_aload_n cx 2 dL_law_605 rfl rfl ?_
  refine lx_callM (As := []) (n := 0) (st := [iV (T.1)]) cx (kX6_leastAnew l adM Mm  _ hT9) (by show k ≤ 512; omega) gL_law_X6_leastAnew rfl ⟨rfl, rfl⟩ (by decide +kernel) rfl ⟨by decide, by decide⟩ rfl (Nat.le_of_ble_eq_true rfl) dL_law_606 ?_
  refine lx_S (S' := (k, T.2, T9.2, o)) rfl ?_
  refine lx_icmp_eq cx 1527 dL_law_609 (by decide) (by rw [hv]; exact hrg) hrg (fun c => ?_) (fun c => absurd hv c)
  refine lx_widen cx ?_
  exact J _ _ _ _ rfl hrel
set_option maxRecDepth 100000 in
set_option maxHeartbeats 4000000 in
theorem lc_bound {Rel : Mem → Mem → Prop} (F : Fc_bound Rel) (l : Launch) (hl : l.stackTraces = false) (adC adM : Nat → Nat) (ao b L : Nat) (xs : Nat → Int32) (G : LSt → Nat → List (Nat × Value) → List Value → Prop) (cx : CL adC adM ao RL cL_law 7 wsL_law room_1 l (fun _ => True) (some (b, L, xs)) 512 (fun z _ => z = 1) G) (hL : L < 2147483648) (k : Nat) (Mc Mm : Mem) (o : Nat → Int64) (i : Int) (hk : k < 512) (hi : 0 ≤ i) (hi2 : i + 2 < (L : Int)) (hR : Rel Mc Mm) (J : ∀ (k2 : Nat) (Mc2 Mm2 : Mem) (o2 : Nat → Int64), k2 = k + 1 → Rel Mc2 Mm2 → G (k2, Mc2, Mm2, o2) 1527 [(0, .ref b), (1, .ref (adC 26)), (2, .ref (adM 14)), (3, .ref ao), (4, iV i)] []) : G (k, Mc, Mm, o) 614 [(0, .ref b), (1, .ref (adC 26)), (2, .ref (adM 14)), (3, .ref ao), (4, iV i)] [] := by
  obtain ⟨T, T9, hT, hT9, hv, hrg, hrel⟩ := F Mc Mm  hR 
  refine lx_aload_n cx 1 dL_law_614 rfl rfl ?_
  refine lx_callC (As := []) (n := 0) (st := []) cx (kX5_bound l adC Mc  _ hT) (by show k ≤ 512; omega) gL_law_X5_bound rfl ⟨rfl, rfl⟩ (by decide +kernel) rfl ⟨by decide, by decide⟩ rfl (Nat.le_of_ble_eq_true rfl) dL_law_615 ?_
  refine lx_S (S' := (k, T.2, Mm, o)) rfl ?_
  refine lx_aload_n cx 2 dL_law_618 rfl rfl ?_
  refine lx_callM (As := []) (n := 0) (st := [iV (T.1)]) cx (kX6_bound l adM Mm  _ hT9) (by show k ≤ 512; omega) gL_law_X6_bound rfl ⟨rfl, rfl⟩ (by decide +kernel) rfl ⟨by decide, by decide⟩ rfl (Nat.le_of_ble_eq_true rfl) dL_law_619 ?_
  refine lx_S (S' := (k, T.2, T9.2, o)) rfl ?_
  refine lx_icmp_eq cx 1527 dL_law_622 (by decide) (by rw [hv]; exact hrg) hrg (fun c => ?_) (fun c => absurd hv c)
  refine lx_widen cx ?_
  exact J _ _ _ _ rfl hrel
set_option maxRecDepth 100000 in
set_option maxHeartbeats 4000000 in
theorem lc_gap {Rel : Mem → Mem → Prop} (F : Fc_gap Rel) (l : Launch) (hl : l.stackTraces = false) (adC adM : Nat → Nat) (ao b L : Nat) (xs : Nat → Int32) (G : LSt → Nat → List (Nat × Value) → List Value → Prop) (cx : CL adC adM ao RL cL_law 7 wsL_law room_1 l (fun _ => True) (some (b, L, xs)) 512 (fun z _ => z = 1) G) (hL : L < 2147483648) (k : Nat) (Mc Mm : Mem) (o : Nat → Int64) (i : Int) (hk : k < 512) (hi : 0 ≤ i) (hi2 : i + 2 < (L : Int)) (hR : Rel Mc Mm) (J : ∀ (k2 : Nat) (Mc2 Mm2 : Mem) (o2 : Nat → Int64), k2 = k + 1 → Rel Mc2 Mm2 → G (k2, Mc2, Mm2, o2) 1527 [(0, .ref b), (1, .ref (adC 26)), (2, .ref (adM 14)), (3, .ref ao), (4, iV i)] []) : G (k, Mc, Mm, o) 627 [(0, .ref b), (1, .ref (adC 26)), (2, .ref (adM 14)), (3, .ref ao), (4, iV i)] [] := by
  obtain ⟨T, T9, hT, hT9, hv, hrg, hrel⟩ := F Mc Mm  hR 
  refine lx_aload_n cx 1 dL_law_627 rfl rfl ?_
  refine lx_callC (As := []) (n := 0) (st := []) cx (kX5_gap l adC Mc  _ hT) (by show k ≤ 512; omega) gL_law_X5_gap rfl ⟨rfl, rfl⟩ (by decide +kernel) rfl ⟨by decide, by decide⟩ rfl (Nat.le_of_ble_eq_true rfl) dL_law_628 ?_
  refine lx_S (S' := (k, T.2, Mm, o)) rfl ?_
  refine lx_aload_n cx 2 dL_law_631 rfl rfl ?_
  refine lx_callM (As := []) (n := 0) (st := [iV (T.1)]) cx (kX6_gap l adM Mm  _ hT9) (by show k ≤ 512; omega) gL_law_X6_gap rfl ⟨rfl, rfl⟩ (by decide +kernel) rfl ⟨by decide, by decide⟩ rfl (Nat.le_of_ble_eq_true rfl) dL_law_632 ?_
  refine lx_S (S' := (k, T.2, T9.2, o)) rfl ?_
  refine lx_icmp_eq cx 1527 dL_law_635 (by decide) (by rw [hv]; exact hrg) hrg (fun c => ?_) (fun c => absurd hv c)
  refine lx_widen cx ?_
  exact J _ _ _ _ rfl hrel
set_option maxRecDepth 100000 in
set_option maxHeartbeats 4000000 in
theorem lc_isUsed {Rel : Mem → Mem → Prop} (F : Fc_isUsed Rel) (l : Launch) (hl : l.stackTraces = false) (adC adM : Nat → Nat) (ao b L : Nat) (xs : Nat → Int32) (G : LSt → Nat → List (Nat × Value) → List Value → Prop) (cx : CL adC adM ao RL cL_law 7 wsL_law room_1 l (fun _ => True) (some (b, L, xs)) 512 (fun z _ => z = 1) G) (hL : L < 2147483648) (k : Nat) (Mc Mm : Mem) (o : Nat → Int64) (i : Int) (hk : k < 512) (hi : 0 ≤ i) (hi2 : i + 2 < (L : Int)) (hR : Rel Mc Mm) (J : ∀ (k2 : Nat) (Mc2 Mm2 : Mem) (o2 : Nat → Int64), k2 = k + 1 → Rel Mc2 Mm2 → G (k2, Mc2, Mm2, o2) 1527 [(0, .ref b), (1, .ref (adC 26)), (2, .ref (adM 14)), (3, .ref ao), (4, iV i)] []) : G (k, Mc, Mm, o) 640 [(0, .ref b), (1, .ref (adC 26)), (2, .ref (adM 14)), (3, .ref ao), (4, iV i)] [] := by
  obtain ⟨T, T9, hT, hT9, hc, hth, hv0, hrel⟩ := F Mc Mm (xs (i + 1).toNat).toInt hR (zi_inR _)
  have hh := hL_isUsed l hl adC adM ao (k, Mc, Mm, o) (xs (i + 1).toNat).toInt T hT hc (fun e => (hv0 e).2)
  rcases hc with h0 | h0
  · rcases (hv0 h0).2 with hbt | hbt
    · have hz : (if T.1 = 0 then (0 : Int) else 1) = 0 := by rw [h0]; rfl
      rw [hz] at hth hh
      have hv := (hv0 h0).1
      rw [if_pos h0] at hh
      have hbv0 : T.2.1 = 0 := hbt
      have hbv : T9.1 = 0 := hv ▸ hbv0
      rw [hbv0] at hh
      have hv := hbv
      refine lx_aload_n cx 1 dL_law_640 rfl rfl ?_
      refine lx_aload_n cx 0 dL_law_641 rfl rfl ?_
      refine lx_iload cx 4 dL_law_642 rfl ?_
      refine lx_iconst cx dL_law_644 ?_
      refine lx_iadd cx dL_law_645 ?_
      refine lx_sld cx rfl hL ⟨by omega, by omega⟩ dL_law_646 ?_
      refine lx_aload_n cx 3 dL_law_647 rfl rfl ?_
      refine lx_callH (As := [.ref (adC 26), iV (xs (i + 1).toNat).toInt, .ref ao]) (n := 3) (st := []) cx hh (by show k + 1 ≤ 512; omega) gL_law_L_isUsed rfl ⟨rfl, rfl⟩ (by decide +kernel) rfl ⟨by decide, by decide⟩ rfl (Nat.le_of_ble_eq_true rfl) dL_law_648 ?_
      refine lx_S (S' := (k + 1, T.2.2, Mm, (vp_updL o 0 (if (0 : Int) = 0 then (0 : Int64) else 1)))) rfl ?_
      refine lx_istore (lv' := [(5, iV 0), (0, .ref b), (1, .ref (adC 26)), (2, .ref (adM 14)), (3, .ref ao), (4, iV i)]) cx dL_law_651 (by decide) rfl ?_
      refine lx_aload_n cx 3 dL_law_653 rfl rfl ?_
      refine lx_aload_n cx 1 dL_law_654 rfl rfl ?_
      refine lx_iload cx 5 dL_law_655 rfl ?_
      refine lx_iconst cx dL_law_657 ?_
      refine lx_iadd cx dL_law_658 ?_
      refine lx_sld cx rfl hL ⟨by omega, by omega⟩ dL_law_659 ?_
      refine lx_callM (As := [iV (xs (i + 1).toNat).toInt]) (n := 1) (st := []) cx (kX6_isUsed l adM Mm (xs (i + 1).toNat).toInt _ hT9) (by show k + 1 ≤ 512; omega) gL_law_X6_isUsed rfl ⟨rfl, rfl⟩ (by decide +kernel) rfl ⟨by decide, by decide⟩ rfl (Nat.le_of_ble_eq_true rfl) dL_law_660 ?_
      refine lx_S (S' := (k + 1, T.2.2, T9.2, (vp_updL o 0 (if (0 : Int) = 0 then (0 : Int64) else 1)))) rfl ?_
      refine lx_istore (lv' := [(6, iV (T9.1)), (5, iV 0), (0, .ref b), (1, .ref (adC 26)), (2, .ref (adM 14)), (3, .ref ao), (4, iV i)]) cx dL_law_663 (by decide) rfl ?_
      refine lx_aload_n cx 4 dL_law_665 rfl rfl ?_
      refine lx_callM (As := []) (n := 0) (st := []) cx (kX6_thrown l adM T9.2 _ rfl) (by show k + 1 ≤ 512; omega) gL_law_X6_thrown rfl ⟨rfl, rfl⟩ (by decide +kernel) rfl ⟨by decide, by decide⟩ rfl (Nat.le_of_ble_eq_true rfl) dL_law_666 ?_
      refine lx_S (S' := (k + 1, T.2.2, T9.2, (vp_updL o 0 (if (0 : Int) = 0 then (0 : Int64) else 1)))) rfl ?_
      refine lx_iload cx 1 dL_law_669 rfl ?_
      refine lx_icmp_eq cx 676 dL_law_671 (by decide) (by rw [hth]; exact ⟨by decide, by decide⟩) ⟨by decide, by decide⟩ (fun c => ?_) (fun c => absurd hth c)
      refine lx_iload cx 1 dL_law_676 rfl ?_
      refine lx_if_ne cx 700 dL_law_678 (by decide) ⟨by decide, by decide⟩ (fun c => ?_) (fun c => absurd rfl c)
      refine lx_aload_n cx 5 dL_law_681 rfl rfl ?_
      refine lx_iconst cx dL_law_682 ?_
      refine lx_lald cx dL_law_683 ?_
      refine lx_topl (x' := 0) rfl ?_
      refine lx_iload cx 0 dL_law_684 rfl ?_
      refine lx_if_eq cx 693 dL_law_686 (by decide) (by rw [hbv]; exact ⟨by decide, by decide⟩) (fun c => ?_) (fun c => absurd hbv c)
      refine lx_lconst (v := 0) cx dL_law_693 rfl ?_
      refine lx_lcmp cx dL_law_694 ?_
      refine lx_if_eq cx 700 dL_law_695 (by decide) (zlcmp_R _ _) (fun c => ?_) (fun c => absurd (by first | exact zlcmp_eq hv | exact zlcmp_eq (by rw [hv]) | exact zlcmp_eq rfl) c)
      refine lx_goto cx 1527 dL_law_700 (by decide) ?_
      refine lx_lv cx [2, 3, 4, 5, 6] rfl ?_
      exact J _ _ _ _ rfl hrel
    · have hz : (if T.1 = 0 then (0 : Int) else 1) = 0 := by rw [h0]; rfl
      rw [hz] at hth hh
      have hv := (hv0 h0).1
      rw [if_pos h0] at hh
      have hbv0 : T.2.1 = 1 := hbt
      have hbv : T9.1 = 1 := hv ▸ hbv0
      rw [hbv0] at hh
      have hv := hbv
      refine lx_aload_n cx 1 dL_law_640 rfl rfl ?_
      refine lx_aload_n cx 0 dL_law_641 rfl rfl ?_
      refine lx_iload cx 4 dL_law_642 rfl ?_
      refine lx_iconst cx dL_law_644 ?_
      refine lx_iadd cx dL_law_645 ?_
      refine lx_sld cx rfl hL ⟨by omega, by omega⟩ dL_law_646 ?_
      refine lx_aload_n cx 3 dL_law_647 rfl rfl ?_
      refine lx_callH (As := [.ref (adC 26), iV (xs (i + 1).toNat).toInt, .ref ao]) (n := 3) (st := []) cx hh (by show k + 1 ≤ 512; omega) gL_law_L_isUsed rfl ⟨rfl, rfl⟩ (by decide +kernel) rfl ⟨by decide, by decide⟩ rfl (Nat.le_of_ble_eq_true rfl) dL_law_648 ?_
      refine lx_S (S' := (k + 1, T.2.2, Mm, (vp_updL o 0 (if (1 : Int) = 0 then (0 : Int64) else 1)))) rfl ?_
      refine lx_istore (lv' := [(5, iV 0), (0, .ref b), (1, .ref (adC 26)), (2, .ref (adM 14)), (3, .ref ao), (4, iV i)]) cx dL_law_651 (by decide) rfl ?_
      refine lx_aload_n cx 3 dL_law_653 rfl rfl ?_
      refine lx_aload_n cx 1 dL_law_654 rfl rfl ?_
      refine lx_iload cx 5 dL_law_655 rfl ?_
      refine lx_iconst cx dL_law_657 ?_
      refine lx_iadd cx dL_law_658 ?_
      refine lx_sld cx rfl hL ⟨by omega, by omega⟩ dL_law_659 ?_
      refine lx_callM (As := [iV (xs (i + 1).toNat).toInt]) (n := 1) (st := []) cx (kX6_isUsed l adM Mm (xs (i + 1).toNat).toInt _ hT9) (by show k + 1 ≤ 512; omega) gL_law_X6_isUsed rfl ⟨rfl, rfl⟩ (by decide +kernel) rfl ⟨by decide, by decide⟩ rfl (Nat.le_of_ble_eq_true rfl) dL_law_660 ?_
      refine lx_S (S' := (k + 1, T.2.2, T9.2, (vp_updL o 0 (if (1 : Int) = 0 then (0 : Int64) else 1)))) rfl ?_
      refine lx_istore (lv' := [(6, iV (T9.1)), (5, iV 0), (0, .ref b), (1, .ref (adC 26)), (2, .ref (adM 14)), (3, .ref ao), (4, iV i)]) cx dL_law_663 (by decide) rfl ?_
      refine lx_aload_n cx 4 dL_law_665 rfl rfl ?_
      refine lx_callM (As := []) (n := 0) (st := []) cx (kX6_thrown l adM T9.2 _ rfl) (by show k + 1 ≤ 512; omega) gL_law_X6_thrown rfl ⟨rfl, rfl⟩ (by decide +kernel) rfl ⟨by decide, by decide⟩ rfl (Nat.le_of_ble_eq_true rfl) dL_law_666 ?_
      refine lx_S (S' := (k + 1, T.2.2, T9.2, (vp_updL o 0 (if (1 : Int) = 0 then (0 : Int64) else 1)))) rfl ?_
      refine lx_iload cx 1 dL_law_669 rfl ?_
      refine lx_icmp_eq cx 676 dL_law_671 (by decide) (by rw [hth]; exact ⟨by decide, by decide⟩) ⟨by decide, by decide⟩ (fun c => ?_) (fun c => absurd hth c)
      refine lx_iload cx 1 dL_law_676 rfl ?_
      refine lx_if_ne cx 700 dL_law_678 (by decide) ⟨by decide, by decide⟩ (fun c => ?_) (fun c => absurd rfl c)
      refine lx_aload_n cx 5 dL_law_681 rfl rfl ?_
      refine lx_iconst cx dL_law_682 ?_
      refine lx_lald cx dL_law_683 ?_
      refine lx_topl (x' := 1) rfl ?_
      refine lx_iload cx 0 dL_law_684 rfl ?_
      refine lx_if_eq cx 693 dL_law_686 (by decide) (by rw [hbv]; exact ⟨by decide, by decide⟩) (fun c => absurd c (by rw [hbv]; decide)) (fun c => ?_)
      refine lx_lconst (v := 1) cx dL_law_689 rfl ?_
      refine lx_goto cx 694 dL_law_690 (by decide) ?_
      refine lx_lcmp cx dL_law_694 ?_
      refine lx_if_eq cx 700 dL_law_695 (by decide) (zlcmp_R _ _) (fun c => ?_) (fun c => absurd (by first | exact zlcmp_eq hv | exact zlcmp_eq (by rw [hv]) | exact zlcmp_eq rfl) c)
      refine lx_goto cx 1527 dL_law_700 (by decide) ?_
      refine lx_lv cx [2, 3, 4, 5, 6] rfl ?_
      exact J _ _ _ _ rfl hrel
  · have hz : (if T.1 = 0 then (0 : Int) else 1) = 1 := by rw [h0]; rfl
    rw [hz] at hth hh
    rw [if_neg (by rw [h0]; decide)] at hh
    refine lx_aload_n cx 1 dL_law_640 rfl rfl ?_
    refine lx_aload_n cx 0 dL_law_641 rfl rfl ?_
    refine lx_iload cx 4 dL_law_642 rfl ?_
    refine lx_iconst cx dL_law_644 ?_
    refine lx_iadd cx dL_law_645 ?_
    refine lx_sld cx rfl hL ⟨by omega, by omega⟩ dL_law_646 ?_
    refine lx_aload_n cx 3 dL_law_647 rfl rfl ?_
    refine lx_callH (As := [.ref (adC 26), iV (xs (i + 1).toNat).toInt, .ref ao]) (n := 3) (st := []) cx hh (by show k + 1 ≤ 512; omega) gL_law_L_isUsed rfl ⟨rfl, rfl⟩ (by decide +kernel) rfl ⟨by decide, by decide⟩ rfl (Nat.le_of_ble_eq_true rfl) dL_law_648 ?_
    refine lx_S (S' := (k + 1, T.2.2, Mm, o)) rfl ?_
    refine lx_istore (lv' := [(5, iV 1), (0, .ref b), (1, .ref (adC 26)), (2, .ref (adM 14)), (3, .ref ao), (4, iV i)]) cx dL_law_651 (by decide) rfl ?_
    refine lx_aload_n cx 3 dL_law_653 rfl rfl ?_
    refine lx_aload_n cx 1 dL_law_654 rfl rfl ?_
    refine lx_iload cx 5 dL_law_655 rfl ?_
    refine lx_iconst cx dL_law_657 ?_
    refine lx_iadd cx dL_law_658 ?_
    refine lx_sld cx rfl hL ⟨by omega, by omega⟩ dL_law_659 ?_
    refine lx_callM (As := [iV (xs (i + 1).toNat).toInt]) (n := 1) (st := []) cx (kX6_isUsed l adM Mm (xs (i + 1).toNat).toInt _ hT9) (by show k + 1 ≤ 512; omega) gL_law_X6_isUsed rfl ⟨rfl, rfl⟩ (by decide +kernel) rfl ⟨by decide, by decide⟩ rfl (Nat.le_of_ble_eq_true rfl) dL_law_660 ?_
    refine lx_S (S' := (k + 1, T.2.2, T9.2, o)) rfl ?_
    refine lx_istore (lv' := [(6, iV (T9.1)), (5, iV 1), (0, .ref b), (1, .ref (adC 26)), (2, .ref (adM 14)), (3, .ref ao), (4, iV i)]) cx dL_law_663 (by decide) rfl ?_
    refine lx_aload_n cx 4 dL_law_665 rfl rfl ?_
    refine lx_callM (As := []) (n := 0) (st := []) cx (kX6_thrown l adM T9.2 _ rfl) (by show k + 1 ≤ 512; omega) gL_law_X6_thrown rfl ⟨rfl, rfl⟩ (by decide +kernel) rfl ⟨by decide, by decide⟩ rfl (Nat.le_of_ble_eq_true rfl) dL_law_666 ?_
    refine lx_S (S' := (k + 1, T.2.2, T9.2, o)) rfl ?_
    refine lx_iload cx 1 dL_law_669 rfl ?_
    refine lx_icmp_eq cx 676 dL_law_671 (by decide) (by rw [hth]; exact ⟨by decide, by decide⟩) ⟨by decide, by decide⟩ (fun c => ?_) (fun c => absurd hth c)
    refine lx_iload cx 1 dL_law_676 rfl ?_
    refine lx_if_ne cx 700 dL_law_678 (by decide) ⟨by decide, by decide⟩ (fun c => absurd c (by decide)) (fun c => ?_)
    refine lx_goto cx 1527 dL_law_700 (by decide) ?_
    refine lx_lv cx [2, 3, 4, 5, 6] rfl ?_
    exact J _ _ _ _ rfl hrel
set_option maxRecDepth 100000 in
set_option maxHeartbeats 4000000 in
theorem lc_twoWays {Rel : Mem → Mem → Prop} (F : Fc_twoWays Rel) (l : Launch) (hl : l.stackTraces = false) (adC adM : Nat → Nat) (ao b L : Nat) (xs : Nat → Int32) (G : LSt → Nat → List (Nat × Value) → List Value → Prop) (cx : CL adC adM ao RL cL_law 7 wsL_law room_1 l (fun _ => True) (some (b, L, xs)) 512 (fun z _ => z = 1) G) (hL : L < 2147483648) (k : Nat) (Mc Mm : Mem) (o : Nat → Int64) (i : Int) (hk : k < 512) (hi : 0 ≤ i) (hi2 : i + 2 < (L : Int)) (hR : Rel Mc Mm) (J : ∀ (k2 : Nat) (Mc2 Mm2 : Mem) (o2 : Nat → Int64), k2 = k + 1 → Rel Mc2 Mm2 → G (k2, Mc2, Mm2, o2) 1527 [(0, .ref b), (1, .ref (adC 26)), (2, .ref (adM 14)), (3, .ref ao), (4, iV i)] []) : G (k, Mc, Mm, o) 703 [(0, .ref b), (1, .ref (adC 26)), (2, .ref (adM 14)), (3, .ref ao), (4, iV i)] [] := by
  obtain ⟨T, T9, hT, hT9, hc, hth, hv0, hrel⟩ := F Mc Mm (xs (i + 1).toNat).toInt (xs (i + 2).toNat).toInt hR (zi_inR _) (zi_inR _)
  have hh := hL_twoWays l hl adC adM ao (k, Mc, Mm, o) (xs (i + 1).toNat).toInt (xs (i + 2).toNat).toInt T hT hc
  rcases hc with h0 | h0 | h0
  · have hz : (if T.1 = 0 then (0 : Int) else if T.1 = 1 then 1 else 2) = 0 := by rw [h0]; rfl
    rw [hz] at hth hh
    have hv := (hv0 h0)
    rw [if_pos h0] at hh
    refine lx_aload_n cx 1 dL_law_703 rfl rfl ?_
    refine lx_aload_n cx 0 dL_law_704 rfl rfl ?_
    refine lx_iload cx 4 dL_law_705 rfl ?_
    refine lx_iconst cx dL_law_707 ?_
    refine lx_iadd cx dL_law_708 ?_
    refine lx_sld cx rfl hL ⟨by omega, by omega⟩ dL_law_709 ?_
    refine lx_aload_n cx 0 dL_law_710 rfl rfl ?_
    refine lx_iload cx 4 dL_law_711 rfl ?_
    refine lx_iconst cx dL_law_713 ?_
    refine lx_iadd cx dL_law_714 ?_
    refine lx_sld cx rfl hL ⟨by omega, by omega⟩ dL_law_715 ?_
    refine lx_aload_n cx 3 dL_law_716 rfl rfl ?_
    refine lx_callH (As := [.ref (adC 26), iV (xs (i + 1).toNat).toInt, iV (xs (i + 2).toNat).toInt, .ref ao]) (n := 4) (st := []) cx hh (by show k + 1 ≤ 512; omega) gL_law_L_twoWays rfl ⟨rfl, rfl⟩ (by decide +kernel) rfl ⟨by decide, by decide⟩ rfl (Nat.le_of_ble_eq_true rfl) dL_law_717 ?_
    refine lx_S (S' := (k + 1, T.2.2, Mm, (vp_updL o 0 (Int32.ofInt T.2.1).toInt64))) rfl ?_
    refine lx_istore (lv' := [(5, iV 0), (0, .ref b), (1, .ref (adC 26)), (2, .ref (adM 14)), (3, .ref ao), (4, iV i)]) cx dL_law_720 (by decide) rfl ?_
    refine lx_aload_n cx 3 dL_law_722 rfl rfl ?_
    refine lx_aload_n cx 1 dL_law_723 rfl rfl ?_
    refine lx_iload cx 5 dL_law_724 rfl ?_
    refine lx_iconst cx dL_law_726 ?_
    refine lx_iadd cx dL_law_727 ?_
    refine lx_sld cx rfl hL ⟨by omega, by omega⟩ dL_law_728 ?_
    refine lx_aload_n cx 1 dL_law_729 rfl rfl ?_
    refine lx_iload cx 5 dL_law_730 rfl ?_
    refine lx_iconst cx dL_law_732 ?_
    refine lx_iadd cx dL_law_733 ?_
    refine lx_sld cx rfl hL ⟨by omega, by omega⟩ dL_law_734 ?_
    refine lx_callM (As := [iV (xs (i + 1).toNat).toInt, iV (xs (i + 2).toNat).toInt]) (n := 2) (st := []) cx (kX6_twoWays l adM Mm (xs (i + 1).toNat).toInt (xs (i + 2).toNat).toInt _ hT9) (by show k + 1 ≤ 512; omega) gL_law_X6_twoWays rfl ⟨rfl, rfl⟩ (by decide +kernel) rfl ⟨by decide, by decide⟩ rfl (Nat.le_of_ble_eq_true rfl) dL_law_735 ?_
    refine lx_S (S' := (k + 1, T.2.2, T9.2, (vp_updL o 0 (Int32.ofInt T.2.1).toInt64))) rfl ?_
    refine lx_istore (lv' := [(6, iV (T9.1)), (5, iV 0), (0, .ref b), (1, .ref (adC 26)), (2, .ref (adM 14)), (3, .ref ao), (4, iV i)]) cx dL_law_738 (by decide) rfl ?_
    refine lx_aload_n cx 4 dL_law_740 rfl rfl ?_
    refine lx_callM (As := []) (n := 0) (st := []) cx (kX6_thrown l adM T9.2 _ rfl) (by show k + 1 ≤ 512; omega) gL_law_X6_thrown rfl ⟨rfl, rfl⟩ (by decide +kernel) rfl ⟨by decide, by decide⟩ rfl (Nat.le_of_ble_eq_true rfl) dL_law_741 ?_
    refine lx_S (S' := (k + 1, T.2.2, T9.2, (vp_updL o 0 (Int32.ofInt T.2.1).toInt64))) rfl ?_
    refine lx_iload cx 1 dL_law_744 rfl ?_
    refine lx_icmp_eq cx 751 dL_law_746 (by decide) (by rw [hth]; exact ⟨by decide, by decide⟩) ⟨by decide, by decide⟩ (fun c => ?_) (fun c => absurd hth c)
    refine lx_iload cx 1 dL_law_751 rfl ?_
    refine lx_if_ne cx 768 dL_law_753 (by decide) ⟨by decide, by decide⟩ (fun c => ?_) (fun c => absurd rfl c)
    refine lx_aload_n cx 5 dL_law_756 rfl rfl ?_
    refine lx_iconst cx dL_law_757 ?_
    refine lx_lald cx dL_law_758 ?_
    refine lx_topl (x' := (Int32.ofInt T.2.1).toInt64) rfl ?_
    refine lx_iload cx 0 dL_law_759 rfl ?_
    refine lx_i2l cx dL_law_761 ?_
    refine lx_lcmp cx dL_law_762 ?_
    refine lx_if_eq cx 768 dL_law_763 (by decide) (zlcmp_R _ _) (fun c => ?_) (fun c => absurd (by first | exact zlcmp_eq hv | exact zlcmp_eq (by rw [hv]) | exact zlcmp_eq rfl) c)
    refine lx_goto cx 1527 dL_law_768 (by decide) ?_
    refine lx_lv cx [2, 3, 4, 5, 6] rfl ?_
    exact J _ _ _ _ rfl hrel
  · have hz : (if T.1 = 0 then (0 : Int) else if T.1 = 1 then 1 else 2) = 1 := by rw [h0]; rfl
    rw [hz] at hth hh
    rw [if_neg (by rw [h0]; decide)] at hh
    refine lx_aload_n cx 1 dL_law_703 rfl rfl ?_
    refine lx_aload_n cx 0 dL_law_704 rfl rfl ?_
    refine lx_iload cx 4 dL_law_705 rfl ?_
    refine lx_iconst cx dL_law_707 ?_
    refine lx_iadd cx dL_law_708 ?_
    refine lx_sld cx rfl hL ⟨by omega, by omega⟩ dL_law_709 ?_
    refine lx_aload_n cx 0 dL_law_710 rfl rfl ?_
    refine lx_iload cx 4 dL_law_711 rfl ?_
    refine lx_iconst cx dL_law_713 ?_
    refine lx_iadd cx dL_law_714 ?_
    refine lx_sld cx rfl hL ⟨by omega, by omega⟩ dL_law_715 ?_
    refine lx_aload_n cx 3 dL_law_716 rfl rfl ?_
    refine lx_callH (As := [.ref (adC 26), iV (xs (i + 1).toNat).toInt, iV (xs (i + 2).toNat).toInt, .ref ao]) (n := 4) (st := []) cx hh (by show k + 1 ≤ 512; omega) gL_law_L_twoWays rfl ⟨rfl, rfl⟩ (by decide +kernel) rfl ⟨by decide, by decide⟩ rfl (Nat.le_of_ble_eq_true rfl) dL_law_717 ?_
    refine lx_S (S' := (k + 1, T.2.2, Mm, o)) rfl ?_
    refine lx_istore (lv' := [(5, iV 1), (0, .ref b), (1, .ref (adC 26)), (2, .ref (adM 14)), (3, .ref ao), (4, iV i)]) cx dL_law_720 (by decide) rfl ?_
    refine lx_aload_n cx 3 dL_law_722 rfl rfl ?_
    refine lx_aload_n cx 1 dL_law_723 rfl rfl ?_
    refine lx_iload cx 5 dL_law_724 rfl ?_
    refine lx_iconst cx dL_law_726 ?_
    refine lx_iadd cx dL_law_727 ?_
    refine lx_sld cx rfl hL ⟨by omega, by omega⟩ dL_law_728 ?_
    refine lx_aload_n cx 1 dL_law_729 rfl rfl ?_
    refine lx_iload cx 5 dL_law_730 rfl ?_
    refine lx_iconst cx dL_law_732 ?_
    refine lx_iadd cx dL_law_733 ?_
    refine lx_sld cx rfl hL ⟨by omega, by omega⟩ dL_law_734 ?_
    refine lx_callM (As := [iV (xs (i + 1).toNat).toInt, iV (xs (i + 2).toNat).toInt]) (n := 2) (st := []) cx (kX6_twoWays l adM Mm (xs (i + 1).toNat).toInt (xs (i + 2).toNat).toInt _ hT9) (by show k + 1 ≤ 512; omega) gL_law_X6_twoWays rfl ⟨rfl, rfl⟩ (by decide +kernel) rfl ⟨by decide, by decide⟩ rfl (Nat.le_of_ble_eq_true rfl) dL_law_735 ?_
    refine lx_S (S' := (k + 1, T.2.2, T9.2, o)) rfl ?_
    refine lx_istore (lv' := [(6, iV (T9.1)), (5, iV 1), (0, .ref b), (1, .ref (adC 26)), (2, .ref (adM 14)), (3, .ref ao), (4, iV i)]) cx dL_law_738 (by decide) rfl ?_
    refine lx_aload_n cx 4 dL_law_740 rfl rfl ?_
    refine lx_callM (As := []) (n := 0) (st := []) cx (kX6_thrown l adM T9.2 _ rfl) (by show k + 1 ≤ 512; omega) gL_law_X6_thrown rfl ⟨rfl, rfl⟩ (by decide +kernel) rfl ⟨by decide, by decide⟩ rfl (Nat.le_of_ble_eq_true rfl) dL_law_741 ?_
    refine lx_S (S' := (k + 1, T.2.2, T9.2, o)) rfl ?_
    refine lx_iload cx 1 dL_law_744 rfl ?_
    refine lx_icmp_eq cx 751 dL_law_746 (by decide) (by rw [hth]; exact ⟨by decide, by decide⟩) ⟨by decide, by decide⟩ (fun c => ?_) (fun c => absurd hth c)
    refine lx_iload cx 1 dL_law_751 rfl ?_
    refine lx_if_ne cx 768 dL_law_753 (by decide) ⟨by decide, by decide⟩ (fun c => absurd c (by decide)) (fun c => ?_)
    refine lx_goto cx 1527 dL_law_768 (by decide) ?_
    refine lx_lv cx [2, 3, 4, 5, 6] rfl ?_
    exact J _ _ _ _ rfl hrel
  · have hz : (if T.1 = 0 then (0 : Int) else if T.1 = 1 then 1 else 2) = 2 := by rw [h0]; rfl
    rw [hz] at hth hh
    rw [if_neg (by rw [h0]; decide)] at hh
    refine lx_aload_n cx 1 dL_law_703 rfl rfl ?_
    refine lx_aload_n cx 0 dL_law_704 rfl rfl ?_
    refine lx_iload cx 4 dL_law_705 rfl ?_
    refine lx_iconst cx dL_law_707 ?_
    refine lx_iadd cx dL_law_708 ?_
    refine lx_sld cx rfl hL ⟨by omega, by omega⟩ dL_law_709 ?_
    refine lx_aload_n cx 0 dL_law_710 rfl rfl ?_
    refine lx_iload cx 4 dL_law_711 rfl ?_
    refine lx_iconst cx dL_law_713 ?_
    refine lx_iadd cx dL_law_714 ?_
    refine lx_sld cx rfl hL ⟨by omega, by omega⟩ dL_law_715 ?_
    refine lx_aload_n cx 3 dL_law_716 rfl rfl ?_
    refine lx_callH (As := [.ref (adC 26), iV (xs (i + 1).toNat).toInt, iV (xs (i + 2).toNat).toInt, .ref ao]) (n := 4) (st := []) cx hh (by show k + 1 ≤ 512; omega) gL_law_L_twoWays rfl ⟨rfl, rfl⟩ (by decide +kernel) rfl ⟨by decide, by decide⟩ rfl (Nat.le_of_ble_eq_true rfl) dL_law_717 ?_
    refine lx_S (S' := (k + 1, T.2.2, Mm, o)) rfl ?_
    refine lx_istore (lv' := [(5, iV 2), (0, .ref b), (1, .ref (adC 26)), (2, .ref (adM 14)), (3, .ref ao), (4, iV i)]) cx dL_law_720 (by decide) rfl ?_
    refine lx_aload_n cx 3 dL_law_722 rfl rfl ?_
    refine lx_aload_n cx 1 dL_law_723 rfl rfl ?_
    refine lx_iload cx 5 dL_law_724 rfl ?_
    refine lx_iconst cx dL_law_726 ?_
    refine lx_iadd cx dL_law_727 ?_
    refine lx_sld cx rfl hL ⟨by omega, by omega⟩ dL_law_728 ?_
    refine lx_aload_n cx 1 dL_law_729 rfl rfl ?_
    refine lx_iload cx 5 dL_law_730 rfl ?_
    refine lx_iconst cx dL_law_732 ?_
    refine lx_iadd cx dL_law_733 ?_
    refine lx_sld cx rfl hL ⟨by omega, by omega⟩ dL_law_734 ?_
    refine lx_callM (As := [iV (xs (i + 1).toNat).toInt, iV (xs (i + 2).toNat).toInt]) (n := 2) (st := []) cx (kX6_twoWays l adM Mm (xs (i + 1).toNat).toInt (xs (i + 2).toNat).toInt _ hT9) (by show k + 1 ≤ 512; omega) gL_law_X6_twoWays rfl ⟨rfl, rfl⟩ (by decide +kernel) rfl ⟨by decide, by decide⟩ rfl (Nat.le_of_ble_eq_true rfl) dL_law_735 ?_
    refine lx_S (S' := (k + 1, T.2.2, T9.2, o)) rfl ?_
    refine lx_istore (lv' := [(6, iV (T9.1)), (5, iV 2), (0, .ref b), (1, .ref (adC 26)), (2, .ref (adM 14)), (3, .ref ao), (4, iV i)]) cx dL_law_738 (by decide) rfl ?_
    refine lx_aload_n cx 4 dL_law_740 rfl rfl ?_
    refine lx_callM (As := []) (n := 0) (st := []) cx (kX6_thrown l adM T9.2 _ rfl) (by show k + 1 ≤ 512; omega) gL_law_X6_thrown rfl ⟨rfl, rfl⟩ (by decide +kernel) rfl ⟨by decide, by decide⟩ rfl (Nat.le_of_ble_eq_true rfl) dL_law_741 ?_
    refine lx_S (S' := (k + 1, T.2.2, T9.2, o)) rfl ?_
    refine lx_iload cx 1 dL_law_744 rfl ?_
    refine lx_icmp_eq cx 751 dL_law_746 (by decide) (by rw [hth]; exact ⟨by decide, by decide⟩) ⟨by decide, by decide⟩ (fun c => ?_) (fun c => absurd hth c)
    refine lx_iload cx 1 dL_law_751 rfl ?_
    refine lx_if_ne cx 768 dL_law_753 (by decide) ⟨by decide, by decide⟩ (fun c => absurd c (by decide)) (fun c => ?_)
    refine lx_goto cx 1527 dL_law_768 (by decide) ?_
    refine lx_lv cx [2, 3, 4, 5, 6] rfl ?_
    exact J _ _ _ _ rfl hrel
set_option maxRecDepth 100000 in
set_option maxHeartbeats 4000000 in
theorem lc_pin {Rel : Mem → Mem → Prop} (F : Fc_pin Rel) (l : Launch) (hl : l.stackTraces = false) (adC adM : Nat → Nat) (ao b L : Nat) (xs : Nat → Int32) (G : LSt → Nat → List (Nat × Value) → List Value → Prop) (cx : CL adC adM ao RL cL_law 7 wsL_law room_1 l (fun _ => True) (some (b, L, xs)) 512 (fun z _ => z = 1) G) (hL : L < 2147483648) (k : Nat) (Mc Mm : Mem) (o : Nat → Int64) (i : Int) (hk : k < 512) (hi : 0 ≤ i) (hi2 : i + 2 < (L : Int)) (hR : Rel Mc Mm) (J : ∀ (k2 : Nat) (Mc2 Mm2 : Mem) (o2 : Nat → Int64), k2 = k + 1 → Rel Mc2 Mm2 → G (k2, Mc2, Mm2, o2) 1527 [(0, .ref b), (1, .ref (adC 26)), (2, .ref (adM 14)), (3, .ref ao), (4, iV i)] []) : G (k, Mc, Mm, o) 771 [(0, .ref b), (1, .ref (adC 26)), (2, .ref (adM 14)), (3, .ref ao), (4, iV i)] [] := by
  obtain ⟨T, T9, hT, hT9, hc, hth, hv0, hrel⟩ := F Mc Mm (xs (i + 1).toNat).toInt (xs (i + 2).toNat).toInt hR (zi_inR _) (zi_inR _)
  have hh := hL_pin l hl adC adM ao (k, Mc, Mm, o) (xs (i + 1).toNat).toInt (xs (i + 2).toNat).toInt T hT hc
  rcases hc with h0 | h0 | h0
  · have hz : (if T.1 = 0 then (0 : Int) else if T.1 = 1 then 1 else 2) = 0 := by rw [h0]; rfl
    rw [hz] at hth hh
    have hv := (hv0 h0)
    rw [if_pos h0] at hh
    refine lx_aload_n cx 1 dL_law_771 rfl rfl ?_
    refine lx_aload_n cx 0 dL_law_772 rfl rfl ?_
    refine lx_iload cx 4 dL_law_773 rfl ?_
    refine lx_iconst cx dL_law_775 ?_
    refine lx_iadd cx dL_law_776 ?_
    refine lx_sld cx rfl hL ⟨by omega, by omega⟩ dL_law_777 ?_
    refine lx_aload_n cx 0 dL_law_778 rfl rfl ?_
    refine lx_iload cx 4 dL_law_779 rfl ?_
    refine lx_iconst cx dL_law_781 ?_
    refine lx_iadd cx dL_law_782 ?_
    refine lx_sld cx rfl hL ⟨by omega, by omega⟩ dL_law_783 ?_
    refine lx_aload_n cx 3 dL_law_784 rfl rfl ?_
    refine lx_callH (As := [.ref (adC 26), iV (xs (i + 1).toNat).toInt, iV (xs (i + 2).toNat).toInt, .ref ao]) (n := 4) (st := []) cx hh (by show k + 1 ≤ 512; omega) gL_law_L_pin rfl ⟨rfl, rfl⟩ (by decide +kernel) rfl ⟨by decide, by decide⟩ rfl (Nat.le_of_ble_eq_true rfl) dL_law_785 ?_
    refine lx_S (S' := (k + 1, T.2.2, Mm, (vp_updL o 0 (Int32.ofInt T.2.1).toInt64))) rfl ?_
    refine lx_istore (lv' := [(5, iV 0), (0, .ref b), (1, .ref (adC 26)), (2, .ref (adM 14)), (3, .ref ao), (4, iV i)]) cx dL_law_788 (by decide) rfl ?_
    refine lx_aload_n cx 3 dL_law_790 rfl rfl ?_
    refine lx_aload_n cx 1 dL_law_791 rfl rfl ?_
    refine lx_iload cx 5 dL_law_792 rfl ?_
    refine lx_iconst cx dL_law_794 ?_
    refine lx_iadd cx dL_law_795 ?_
    refine lx_sld cx rfl hL ⟨by omega, by omega⟩ dL_law_796 ?_
    refine lx_aload_n cx 1 dL_law_797 rfl rfl ?_
    refine lx_iload cx 5 dL_law_798 rfl ?_
    refine lx_iconst cx dL_law_800 ?_
    refine lx_iadd cx dL_law_801 ?_
    refine lx_sld cx rfl hL ⟨by omega, by omega⟩ dL_law_802 ?_
    refine lx_callM (As := [iV (xs (i + 1).toNat).toInt, iV (xs (i + 2).toNat).toInt]) (n := 2) (st := []) cx (kX6_pin l adM Mm (xs (i + 1).toNat).toInt (xs (i + 2).toNat).toInt _ hT9) (by show k + 1 ≤ 512; omega) gL_law_X6_pin rfl ⟨rfl, rfl⟩ (by decide +kernel) rfl ⟨by decide, by decide⟩ rfl (Nat.le_of_ble_eq_true rfl) dL_law_803 ?_
    refine lx_S (S' := (k + 1, T.2.2, T9.2, (vp_updL o 0 (Int32.ofInt T.2.1).toInt64))) rfl ?_
    refine lx_istore (lv' := [(6, iV (T9.1)), (5, iV 0), (0, .ref b), (1, .ref (adC 26)), (2, .ref (adM 14)), (3, .ref ao), (4, iV i)]) cx dL_law_806 (by decide) rfl ?_
    refine lx_aload_n cx 4 dL_law_808 rfl rfl ?_
    refine lx_callM (As := []) (n := 0) (st := []) cx (kX6_thrown l adM T9.2 _ rfl) (by show k + 1 ≤ 512; omega) gL_law_X6_thrown rfl ⟨rfl, rfl⟩ (by decide +kernel) rfl ⟨by decide, by decide⟩ rfl (Nat.le_of_ble_eq_true rfl) dL_law_809 ?_
    refine lx_S (S' := (k + 1, T.2.2, T9.2, (vp_updL o 0 (Int32.ofInt T.2.1).toInt64))) rfl ?_
    refine lx_iload cx 1 dL_law_812 rfl ?_
    refine lx_icmp_eq cx 819 dL_law_814 (by decide) (by rw [hth]; exact ⟨by decide, by decide⟩) ⟨by decide, by decide⟩ (fun c => ?_) (fun c => absurd hth c)
    refine lx_iload cx 1 dL_law_819 rfl ?_
    refine lx_if_ne cx 836 dL_law_821 (by decide) ⟨by decide, by decide⟩ (fun c => ?_) (fun c => absurd rfl c)
    refine lx_aload_n cx 5 dL_law_824 rfl rfl ?_
    refine lx_iconst cx dL_law_825 ?_
    refine lx_lald cx dL_law_826 ?_
    refine lx_topl (x' := (Int32.ofInt T.2.1).toInt64) rfl ?_
    refine lx_iload cx 0 dL_law_827 rfl ?_
    refine lx_i2l cx dL_law_829 ?_
    refine lx_lcmp cx dL_law_830 ?_
    refine lx_if_eq cx 836 dL_law_831 (by decide) (zlcmp_R _ _) (fun c => ?_) (fun c => absurd (by first | exact zlcmp_eq hv | exact zlcmp_eq (by rw [hv]) | exact zlcmp_eq rfl) c)
    refine lx_goto cx 1527 dL_law_836 (by decide) ?_
    refine lx_lv cx [2, 3, 4, 5, 6] rfl ?_
    exact J _ _ _ _ rfl hrel
  · have hz : (if T.1 = 0 then (0 : Int) else if T.1 = 1 then 1 else 2) = 1 := by rw [h0]; rfl
    rw [hz] at hth hh
    rw [if_neg (by rw [h0]; decide)] at hh
    refine lx_aload_n cx 1 dL_law_771 rfl rfl ?_
    refine lx_aload_n cx 0 dL_law_772 rfl rfl ?_
    refine lx_iload cx 4 dL_law_773 rfl ?_
    refine lx_iconst cx dL_law_775 ?_
    refine lx_iadd cx dL_law_776 ?_
    refine lx_sld cx rfl hL ⟨by omega, by omega⟩ dL_law_777 ?_
    refine lx_aload_n cx 0 dL_law_778 rfl rfl ?_
    refine lx_iload cx 4 dL_law_779 rfl ?_
    refine lx_iconst cx dL_law_781 ?_
    refine lx_iadd cx dL_law_782 ?_
    refine lx_sld cx rfl hL ⟨by omega, by omega⟩ dL_law_783 ?_
    refine lx_aload_n cx 3 dL_law_784 rfl rfl ?_
    refine lx_callH (As := [.ref (adC 26), iV (xs (i + 1).toNat).toInt, iV (xs (i + 2).toNat).toInt, .ref ao]) (n := 4) (st := []) cx hh (by show k + 1 ≤ 512; omega) gL_law_L_pin rfl ⟨rfl, rfl⟩ (by decide +kernel) rfl ⟨by decide, by decide⟩ rfl (Nat.le_of_ble_eq_true rfl) dL_law_785 ?_
    refine lx_S (S' := (k + 1, T.2.2, Mm, o)) rfl ?_
    refine lx_istore (lv' := [(5, iV 1), (0, .ref b), (1, .ref (adC 26)), (2, .ref (adM 14)), (3, .ref ao), (4, iV i)]) cx dL_law_788 (by decide) rfl ?_
    refine lx_aload_n cx 3 dL_law_790 rfl rfl ?_
    refine lx_aload_n cx 1 dL_law_791 rfl rfl ?_
    refine lx_iload cx 5 dL_law_792 rfl ?_
    refine lx_iconst cx dL_law_794 ?_
    refine lx_iadd cx dL_law_795 ?_
    refine lx_sld cx rfl hL ⟨by omega, by omega⟩ dL_law_796 ?_
    refine lx_aload_n cx 1 dL_law_797 rfl rfl ?_
    refine lx_iload cx 5 dL_law_798 rfl ?_
    refine lx_iconst cx dL_law_800 ?_
    refine lx_iadd cx dL_law_801 ?_
    refine lx_sld cx rfl hL ⟨by omega, by omega⟩ dL_law_802 ?_
    refine lx_callM (As := [iV (xs (i + 1).toNat).toInt, iV (xs (i + 2).toNat).toInt]) (n := 2) (st := []) cx (kX6_pin l adM Mm (xs (i + 1).toNat).toInt (xs (i + 2).toNat).toInt _ hT9) (by show k + 1 ≤ 512; omega) gL_law_X6_pin rfl ⟨rfl, rfl⟩ (by decide +kernel) rfl ⟨by decide, by decide⟩ rfl (Nat.le_of_ble_eq_true rfl) dL_law_803 ?_
    refine lx_S (S' := (k + 1, T.2.2, T9.2, o)) rfl ?_
    refine lx_istore (lv' := [(6, iV (T9.1)), (5, iV 1), (0, .ref b), (1, .ref (adC 26)), (2, .ref (adM 14)), (3, .ref ao), (4, iV i)]) cx dL_law_806 (by decide) rfl ?_
    refine lx_aload_n cx 4 dL_law_808 rfl rfl ?_
    refine lx_callM (As := []) (n := 0) (st := []) cx (kX6_thrown l adM T9.2 _ rfl) (by show k + 1 ≤ 512; omega) gL_law_X6_thrown rfl ⟨rfl, rfl⟩ (by decide +kernel) rfl ⟨by decide, by decide⟩ rfl (Nat.le_of_ble_eq_true rfl) dL_law_809 ?_
    refine lx_S (S' := (k + 1, T.2.2, T9.2, o)) rfl ?_
    refine lx_iload cx 1 dL_law_812 rfl ?_
    refine lx_icmp_eq cx 819 dL_law_814 (by decide) (by rw [hth]; exact ⟨by decide, by decide⟩) ⟨by decide, by decide⟩ (fun c => ?_) (fun c => absurd hth c)
    refine lx_iload cx 1 dL_law_819 rfl ?_
    refine lx_if_ne cx 836 dL_law_821 (by decide) ⟨by decide, by decide⟩ (fun c => absurd c (by decide)) (fun c => ?_)
    refine lx_goto cx 1527 dL_law_836 (by decide) ?_
    refine lx_lv cx [2, 3, 4, 5, 6] rfl ?_
    exact J _ _ _ _ rfl hrel
  · have hz : (if T.1 = 0 then (0 : Int) else if T.1 = 1 then 1 else 2) = 2 := by rw [h0]; rfl
    rw [hz] at hth hh
    rw [if_neg (by rw [h0]; decide)] at hh
    refine lx_aload_n cx 1 dL_law_771 rfl rfl ?_
    refine lx_aload_n cx 0 dL_law_772 rfl rfl ?_
    refine lx_iload cx 4 dL_law_773 rfl ?_
    refine lx_iconst cx dL_law_775 ?_
    refine lx_iadd cx dL_law_776 ?_
    refine lx_sld cx rfl hL ⟨by omega, by omega⟩ dL_law_777 ?_
    refine lx_aload_n cx 0 dL_law_778 rfl rfl ?_
    refine lx_iload cx 4 dL_law_779 rfl ?_
    refine lx_iconst cx dL_law_781 ?_
    refine lx_iadd cx dL_law_782 ?_
    refine lx_sld cx rfl hL ⟨by omega, by omega⟩ dL_law_783 ?_
    refine lx_aload_n cx 3 dL_law_784 rfl rfl ?_
    refine lx_callH (As := [.ref (adC 26), iV (xs (i + 1).toNat).toInt, iV (xs (i + 2).toNat).toInt, .ref ao]) (n := 4) (st := []) cx hh (by show k + 1 ≤ 512; omega) gL_law_L_pin rfl ⟨rfl, rfl⟩ (by decide +kernel) rfl ⟨by decide, by decide⟩ rfl (Nat.le_of_ble_eq_true rfl) dL_law_785 ?_
    refine lx_S (S' := (k + 1, T.2.2, Mm, o)) rfl ?_
    refine lx_istore (lv' := [(5, iV 2), (0, .ref b), (1, .ref (adC 26)), (2, .ref (adM 14)), (3, .ref ao), (4, iV i)]) cx dL_law_788 (by decide) rfl ?_
    refine lx_aload_n cx 3 dL_law_790 rfl rfl ?_
    refine lx_aload_n cx 1 dL_law_791 rfl rfl ?_
    refine lx_iload cx 5 dL_law_792 rfl ?_
    refine lx_iconst cx dL_law_794 ?_
    refine lx_iadd cx dL_law_795 ?_
    refine lx_sld cx rfl hL ⟨by omega, by omega⟩ dL_law_796 ?_
    refine lx_aload_n cx 1 dL_law_797 rfl rfl ?_
    refine lx_iload cx 5 dL_law_798 rfl ?_
    refine lx_iconst cx dL_law_800 ?_
    refine lx_iadd cx dL_law_801 ?_
    refine lx_sld cx rfl hL ⟨by omega, by omega⟩ dL_law_802 ?_
    refine lx_callM (As := [iV (xs (i + 1).toNat).toInt, iV (xs (i + 2).toNat).toInt]) (n := 2) (st := []) cx (kX6_pin l adM Mm (xs (i + 1).toNat).toInt (xs (i + 2).toNat).toInt _ hT9) (by show k + 1 ≤ 512; omega) gL_law_X6_pin rfl ⟨rfl, rfl⟩ (by decide +kernel) rfl ⟨by decide, by decide⟩ rfl (Nat.le_of_ble_eq_true rfl) dL_law_803 ?_
    refine lx_S (S' := (k + 1, T.2.2, T9.2, o)) rfl ?_
    refine lx_istore (lv' := [(6, iV (T9.1)), (5, iV 2), (0, .ref b), (1, .ref (adC 26)), (2, .ref (adM 14)), (3, .ref ao), (4, iV i)]) cx dL_law_806 (by decide) rfl ?_
    refine lx_aload_n cx 4 dL_law_808 rfl rfl ?_
    refine lx_callM (As := []) (n := 0) (st := []) cx (kX6_thrown l adM T9.2 _ rfl) (by show k + 1 ≤ 512; omega) gL_law_X6_thrown rfl ⟨rfl, rfl⟩ (by decide +kernel) rfl ⟨by decide, by decide⟩ rfl (Nat.le_of_ble_eq_true rfl) dL_law_809 ?_
    refine lx_S (S' := (k + 1, T.2.2, T9.2, o)) rfl ?_
    refine lx_iload cx 1 dL_law_812 rfl ?_
    refine lx_icmp_eq cx 819 dL_law_814 (by decide) (by rw [hth]; exact ⟨by decide, by decide⟩) ⟨by decide, by decide⟩ (fun c => ?_) (fun c => absurd hth c)
    refine lx_iload cx 1 dL_law_819 rfl ?_
    refine lx_if_ne cx 836 dL_law_821 (by decide) ⟨by decide, by decide⟩ (fun c => absurd c (by decide)) (fun c => ?_)
    refine lx_goto cx 1527 dL_law_836 (by decide) ?_
    refine lx_lv cx [2, 3, 4, 5, 6] rfl ?_
    exact J _ _ _ _ rfl hrel
set_option maxRecDepth 100000 in
set_option maxHeartbeats 4000000 in
theorem lc_film {Rel : Mem → Mem → Prop} (F : Fc_film Rel) (l : Launch) (hl : l.stackTraces = false) (adC adM : Nat → Nat) (ao b L : Nat) (xs : Nat → Int32) (G : LSt → Nat → List (Nat × Value) → List Value → Prop) (cx : CL adC adM ao RL cL_law 7 wsL_law room_1 l (fun _ => True) (some (b, L, xs)) 512 (fun z _ => z = 1) G) (hL : L < 2147483648) (k : Nat) (Mc Mm : Mem) (o : Nat → Int64) (i : Int) (hk : k < 512) (hi : 0 ≤ i) (hi2 : i + 2 < (L : Int)) (hR : Rel Mc Mm) (J : ∀ (k2 : Nat) (Mc2 Mm2 : Mem) (o2 : Nat → Int64), k2 = k + 1 → Rel Mc2 Mm2 → G (k2, Mc2, Mm2, o2) 1527 [(0, .ref b), (1, .ref (adC 26)), (2, .ref (adM 14)), (3, .ref ao), (4, iV i)] []) : G (k, Mc, Mm, o) 839 [(0, .ref b), (1, .ref (adC 26)), (2, .ref (adM 14)), (3, .ref ao), (4, iV i)] [] := by
  obtain ⟨T, T9, hT, hT9, hv, hrg, hrel⟩ := F Mc Mm  hR 
  refine lx_aload_n cx 1 dL_law_839 rfl rfl ?_
  refine lx_callC (As := []) (n := 0) (st := []) cx (kX5_film l adC Mc  _ hT) (by show k ≤ 512; omega) gL_law_X5_film rfl ⟨rfl, rfl⟩ (by decide +kernel) rfl ⟨by decide, by decide⟩ rfl (Nat.le_of_ble_eq_true rfl) dL_law_840 ?_
  refine lx_S (S' := (k, T.2, Mm, o)) rfl ?_
  refine lx_aload_n cx 2 dL_law_843 rfl rfl ?_
  refine lx_callM (As := []) (n := 0) (st := [iV (T.1)]) cx (kX6_film l adM Mm  _ hT9) (by show k ≤ 512; omega) gL_law_X6_film rfl ⟨rfl, rfl⟩ (by decide +kernel) rfl ⟨by decide, by decide⟩ rfl (Nat.le_of_ble_eq_true rfl) dL_law_844 ?_
  refine lx_S (S' := (k, T.2, T9.2, o)) rfl ?_
  refine lx_icmp_eq cx 1527 dL_law_847 (by decide) (by rw [hv]; exact hrg) hrg (fun c => ?_) (fun c => absurd hv c)
  refine lx_widen cx ?_
  exact J _ _ _ _ rfl hrel
set_option maxRecDepth 100000 in
set_option maxHeartbeats 4000000 in
theorem lc_proof {Rel : Mem → Mem → Prop} (F : Fc_proof Rel) (l : Launch) (hl : l.stackTraces = false) (adC adM : Nat → Nat) (ao b L : Nat) (xs : Nat → Int32) (G : LSt → Nat → List (Nat × Value) → List Value → Prop) (cx : CL adC adM ao RL cL_law 7 wsL_law room_1 l (fun _ => True) (some (b, L, xs)) 512 (fun z _ => z = 1) G) (hL : L < 2147483648) (k : Nat) (Mc Mm : Mem) (o : Nat → Int64) (i : Int) (hk : k < 512) (hi : 0 ≤ i) (hi2 : i + 2 < (L : Int)) (hR : Rel Mc Mm) (J : ∀ (k2 : Nat) (Mc2 Mm2 : Mem) (o2 : Nat → Int64), k2 = k + 1 → Rel Mc2 Mm2 → G (k2, Mc2, Mm2, o2) 1527 [(0, .ref b), (1, .ref (adC 26)), (2, .ref (adM 14)), (3, .ref ao), (4, iV i)] []) : G (k, Mc, Mm, o) 852 [(0, .ref b), (1, .ref (adC 26)), (2, .ref (adM 14)), (3, .ref ao), (4, iV i)] [] := by
  obtain ⟨T, T9, hT, hT9, hv, hrg, hrel⟩ := F Mc Mm  hR 
  refine lx_aload_n cx 1 dL_law_852 rfl rfl ?_
  refine lx_callC (As := []) (n := 0) (st := []) cx (kX5_proof l adC Mc  _ hT) (by show k ≤ 512; omega) gL_law_X5_proof rfl ⟨rfl, rfl⟩ (by decide +kernel) rfl ⟨by decide, by decide⟩ rfl (Nat.le_of_ble_eq_true rfl) dL_law_853 ?_
  refine lx_S (S' := (k, T.2, Mm, o)) rfl ?_
  refine lx_aload_n cx 2 dL_law_856 rfl rfl ?_
  refine lx_callM (As := []) (n := 0) (st := [iV (T.1)]) cx (kX6_proof l adM Mm  _ hT9) (by show k ≤ 512; omega) gL_law_X6_proof rfl ⟨rfl, rfl⟩ (by decide +kernel) rfl ⟨by decide, by decide⟩ rfl (Nat.le_of_ble_eq_true rfl) dL_law_857 ?_
  refine lx_S (S' := (k, T.2, T9.2, o)) rfl ?_
  refine lx_icmp_eq cx 1527 dL_law_860 (by decide) (by rw [hv]; exact hrg) hrg (fun c => ?_) (fun c => absurd hv c)
  refine lx_widen cx ?_
  exact J _ _ _ _ rfl hrel
set_option maxRecDepth 100000 in
set_option maxHeartbeats 4000000 in
theorem lc_side {Rel : Mem → Mem → Prop} (F : Fc_side Rel) (l : Launch) (hl : l.stackTraces = false) (adC adM : Nat → Nat) (ao b L : Nat) (xs : Nat → Int32) (G : LSt → Nat → List (Nat × Value) → List Value → Prop) (cx : CL adC adM ao RL cL_law 7 wsL_law room_1 l (fun _ => True) (some (b, L, xs)) 512 (fun z _ => z = 1) G) (hL : L < 2147483648) (k : Nat) (Mc Mm : Mem) (o : Nat → Int64) (i : Int) (hk : k < 512) (hi : 0 ≤ i) (hi2 : i + 2 < (L : Int)) (hR : Rel Mc Mm) (J : ∀ (k2 : Nat) (Mc2 Mm2 : Mem) (o2 : Nat → Int64), k2 = k + 1 → Rel Mc2 Mm2 → G (k2, Mc2, Mm2, o2) 1527 [(0, .ref b), (1, .ref (adC 26)), (2, .ref (adM 14)), (3, .ref ao), (4, iV i)] []) : G (k, Mc, Mm, o) 865 [(0, .ref b), (1, .ref (adC 26)), (2, .ref (adM 14)), (3, .ref ao), (4, iV i)] [] := by
  by_cases cb : (xs (i + 1).toNat).toInt = 0
  · obtain ⟨T, T9, hT, hT9, hv, hrel⟩ := F Mc Mm 0 hR (Or.inl rfl)
    refine lx_aload_n cx 1 dL_law_865 rfl rfl ?_
    refine lx_aload_n cx 0 dL_law_866 rfl rfl ?_
    refine lx_iload cx 4 dL_law_867 rfl ?_
    refine lx_iconst cx dL_law_869 ?_
    refine lx_iadd cx dL_law_870 ?_
    refine lx_sld cx rfl hL ⟨by omega, by omega⟩ dL_law_871 ?_
    refine lx_if_eq cx 879 dL_law_872 (by decide) (zi_inR _) (fun c => ?_) (fun c => absurd cb c)
    refine lx_iconst cx dL_law_879 ?_
    refine lx_callC (As := [iV 0]) (n := 1) (st := []) cx (kX5_side l adC Mc 0 _ hT) (by show k ≤ 512; omega) gL_law_X5_side rfl ⟨rfl, rfl⟩ (by decide +kernel) rfl ⟨by decide, by decide⟩ rfl (Nat.le_of_ble_eq_true rfl) dL_law_880 ?_
    refine lx_S (S' := (k, T.2, Mm, o)) rfl ?_
    refine lx_aload_n cx 2 dL_law_883 rfl rfl ?_
    refine lx_aload_n cx 0 dL_law_884 rfl rfl ?_
    refine lx_iload cx 4 dL_law_885 rfl ?_
    refine lx_iconst cx dL_law_887 ?_
    refine lx_iadd cx dL_law_888 ?_
    refine lx_sld cx rfl hL ⟨by omega, by omega⟩ dL_law_889 ?_
    refine lx_if_eq cx 897 dL_law_890 (by decide) (zi_inR _) (fun c => ?_) (fun c => absurd cb c)
    refine lx_iconst cx dL_law_897 ?_
    refine lx_callM (As := [iV 0]) (n := 1) (st := [.long T.1]) cx (kX6_side l adM Mm 0 _ hT9) (by show k ≤ 512; omega) gL_law_X6_side rfl ⟨rfl, rfl⟩ (by decide +kernel) rfl ⟨by decide, by decide⟩ rfl (Nat.le_of_ble_eq_true rfl) dL_law_898 ?_
    refine lx_S (S' := (k, T.2, T9.2, o)) rfl ?_
    refine lx_lcmp cx dL_law_901 ?_
    refine lx_if_eq cx 1527 dL_law_902 (by decide) (zlcmp_R _ _) (fun c => ?_) (fun c => absurd (by first | exact zlcmp_eq hv | exact zlcmp_eq (by rw [hv]) | exact zlcmp_eq rfl) c)
    refine lx_widen cx ?_
    exact J _ _ _ _ rfl hrel
  · obtain ⟨T, T9, hT, hT9, hv, hrel⟩ := F Mc Mm 1 hR (Or.inr rfl)
    refine lx_aload_n cx 1 dL_law_865 rfl rfl ?_
    refine lx_aload_n cx 0 dL_law_866 rfl rfl ?_
    refine lx_iload cx 4 dL_law_867 rfl ?_
    refine lx_iconst cx dL_law_869 ?_
    refine lx_iadd cx dL_law_870 ?_
    refine lx_sld cx rfl hL ⟨by omega, by omega⟩ dL_law_871 ?_
    refine lx_if_eq cx 879 dL_law_872 (by decide) (zi_inR _) (fun c => absurd c cb) (fun c => ?_)
    refine lx_iconst cx dL_law_875 ?_
    refine lx_goto cx 880 dL_law_876 (by decide) ?_
    refine lx_callC (As := [iV 1]) (n := 1) (st := []) cx (kX5_side l adC Mc 1 _ hT) (by show k ≤ 512; omega) gL_law_X5_side rfl ⟨rfl, rfl⟩ (by decide +kernel) rfl ⟨by decide, by decide⟩ rfl (Nat.le_of_ble_eq_true rfl) dL_law_880 ?_
    refine lx_S (S' := (k, T.2, Mm, o)) rfl ?_
    refine lx_aload_n cx 2 dL_law_883 rfl rfl ?_
    refine lx_aload_n cx 0 dL_law_884 rfl rfl ?_
    refine lx_iload cx 4 dL_law_885 rfl ?_
    refine lx_iconst cx dL_law_887 ?_
    refine lx_iadd cx dL_law_888 ?_
    refine lx_sld cx rfl hL ⟨by omega, by omega⟩ dL_law_889 ?_
    refine lx_if_eq cx 897 dL_law_890 (by decide) (zi_inR _) (fun c => absurd c cb) (fun c => ?_)
    refine lx_iconst cx dL_law_893 ?_
    refine lx_goto cx 898 dL_law_894 (by decide) ?_
    refine lx_callM (As := [iV 1]) (n := 1) (st := [.long T.1]) cx (kX6_side l adM Mm 1 _ hT9) (by show k ≤ 512; omega) gL_law_X6_side rfl ⟨rfl, rfl⟩ (by decide +kernel) rfl ⟨by decide, by decide⟩ rfl (Nat.le_of_ble_eq_true rfl) dL_law_898 ?_
    refine lx_S (S' := (k, T.2, T9.2, o)) rfl ?_
    refine lx_lcmp cx dL_law_901 ?_
    refine lx_if_eq cx 1527 dL_law_902 (by decide) (zlcmp_R _ _) (fun c => ?_) (fun c => absurd (by first | exact zlcmp_eq hv | exact zlcmp_eq (by rw [hv]) | exact zlcmp_eq rfl) c)
    refine lx_widen cx ?_
    exact J _ _ _ _ rfl hrel
set_option maxRecDepth 100000 in
set_option maxHeartbeats 4000000 in
theorem lc_costOf {Rel : Mem → Mem → Prop} (F : Fc_costOf Rel) (l : Launch) (hl : l.stackTraces = false) (adC adM : Nat → Nat) (ao b L : Nat) (xs : Nat → Int32) (G : LSt → Nat → List (Nat × Value) → List Value → Prop) (cx : CL adC adM ao RL cL_law 7 wsL_law room_1 l (fun _ => True) (some (b, L, xs)) 512 (fun z _ => z = 1) G) (hL : L < 2147483648) (k : Nat) (Mc Mm : Mem) (o : Nat → Int64) (i : Int) (hk : k < 512) (hi : 0 ≤ i) (hi2 : i + 2 < (L : Int)) (hR : Rel Mc Mm) (J : ∀ (k2 : Nat) (Mc2 Mm2 : Mem) (o2 : Nat → Int64), k2 = k + 1 → Rel Mc2 Mm2 → G (k2, Mc2, Mm2, o2) 1527 [(0, .ref b), (1, .ref (adC 26)), (2, .ref (adM 14)), (3, .ref ao), (4, iV i)] []) : G (k, Mc, Mm, o) 907 [(0, .ref b), (1, .ref (adC 26)), (2, .ref (adM 14)), (3, .ref ao), (4, iV i)] [] := by
  obtain ⟨T, T9, hT, hT9, hc, hth, hv0, hrel⟩ := F Mc Mm ((llshl ((Int32.ofInt (xs (i + 1).toNat).toInt).toInt64) 32) ||| (((Int32.ofInt (xs (i + 2).toNat).toInt).toInt64) &&& (4294967295))) hR 
  have hh := hL_costOf l hl adC adM ao (k, Mc, Mm, o) ((llshl ((Int32.ofInt (xs (i + 1).toNat).toInt).toInt64) 32) ||| (((Int32.ofInt (xs (i + 2).toNat).toInt).toInt64) &&& (4294967295))) T hT hc
  rcases hc with h0 | h0
  · have hz : (if T.1 = 0 then (0 : Int) else 1) = 0 := by rw [h0]; rfl
    rw [hz] at hth hh
    have hv := (hv0 h0)
    rw [if_pos h0] at hh
    refine lx_aload_n cx 1 dL_law_907 rfl rfl ?_
    refine lx_aload_n cx 0 dL_law_908 rfl rfl ?_
    refine lx_iload cx 4 dL_law_909 rfl ?_
    refine lx_iconst cx dL_law_911 ?_
    refine lx_iadd cx dL_law_912 ?_
    refine lx_sld cx rfl hL ⟨by omega, by omega⟩ dL_law_913 ?_
    refine lx_i2l cx dL_law_914 ?_
    refine lx_bipush (z := 32) cx dL_law_915 (by decide) ?_
    refine lx_lshl cx dL_law_917 ?_
    refine lx_aload_n cx 0 dL_law_918 rfl rfl ?_
    refine lx_iload cx 4 dL_law_919 rfl ?_
    refine lx_iconst cx dL_law_921 ?_
    refine lx_iadd cx dL_law_922 ?_
    refine lx_sld cx rfl hL ⟨by omega, by omega⟩ dL_law_923 ?_
    refine lx_i2l cx dL_law_924 ?_
    refine lx_ldc2 (v := 4294967295) cx dL_law_925 hcl_148 ?_
    refine lx_land cx dL_law_928 ?_
    refine lx_lor cx dL_law_929 ?_
    refine lx_aload_n cx 3 dL_law_930 rfl rfl ?_
    refine lx_callH (As := [.ref (adC 26), .long (((llshl ((Int32.ofInt (xs (i + 1).toNat).toInt).toInt64) 32)) ||| ((((Int32.ofInt (xs (i + 2).toNat).toInt).toInt64) &&& (4294967295)))), .ref ao]) (n := 3) (st := []) cx hh (by show k + 1 ≤ 512; omega) gL_law_L_costOf rfl ⟨rfl, rfl⟩ (by decide +kernel) rfl ⟨by decide, by decide⟩ rfl (Nat.le_of_ble_eq_true rfl) dL_law_931 ?_
    refine lx_S (S' := (k + 1, Mc, Mm, (vp_updL o 0 (Int32.ofInt T.2.1).toInt64))) rfl ?_
    refine lx_istore (lv' := [(5, iV 0), (0, .ref b), (1, .ref (adC 26)), (2, .ref (adM 14)), (3, .ref ao), (4, iV i)]) cx dL_law_934 (by decide) rfl ?_
    refine lx_aload_n cx 3 dL_law_936 rfl rfl ?_
    refine lx_aload_n cx 1 dL_law_937 rfl rfl ?_
    refine lx_iload cx 5 dL_law_938 rfl ?_
    refine lx_iconst cx dL_law_940 ?_
    refine lx_iadd cx dL_law_941 ?_
    refine lx_sld cx rfl hL ⟨by omega, by omega⟩ dL_law_942 ?_
    refine lx_i2l cx dL_law_943 ?_
    refine lx_bipush (z := 32) cx dL_law_944 (by decide) ?_
    refine lx_lshl cx dL_law_946 ?_
    refine lx_aload_n cx 1 dL_law_947 rfl rfl ?_
    refine lx_iload cx 5 dL_law_948 rfl ?_
    refine lx_iconst cx dL_law_950 ?_
    refine lx_iadd cx dL_law_951 ?_
    refine lx_sld cx rfl hL ⟨by omega, by omega⟩ dL_law_952 ?_
    refine lx_i2l cx dL_law_953 ?_
    refine lx_ldc2 (v := 4294967295) cx dL_law_954 hcl_148 ?_
    refine lx_land cx dL_law_957 ?_
    refine lx_lor cx dL_law_958 ?_
    refine lx_callM (As := [.long (((llshl ((Int32.ofInt (xs (i + 1).toNat).toInt).toInt64) 32)) ||| ((((Int32.ofInt (xs (i + 2).toNat).toInt).toInt64) &&& (4294967295))))]) (n := 1) (st := []) cx (kX6_costOf l adM Mm ((llshl ((Int32.ofInt (xs (i + 1).toNat).toInt).toInt64) 32) ||| (((Int32.ofInt (xs (i + 2).toNat).toInt).toInt64) &&& (4294967295))) _ hT9) (by show k + 1 ≤ 512; omega) gL_law_X6_costOf rfl ⟨rfl, rfl⟩ (by decide +kernel) rfl ⟨by decide, by decide⟩ rfl (Nat.le_of_ble_eq_true rfl) dL_law_959 ?_
    refine lx_S (S' := (k + 1, Mc, T9.2, (vp_updL o 0 (Int32.ofInt T.2.1).toInt64))) rfl ?_
    refine lx_istore (lv' := [(6, iV (T9.1)), (5, iV 0), (0, .ref b), (1, .ref (adC 26)), (2, .ref (adM 14)), (3, .ref ao), (4, iV i)]) cx dL_law_962 (by decide) rfl ?_
    refine lx_aload_n cx 4 dL_law_964 rfl rfl ?_
    refine lx_callM (As := []) (n := 0) (st := []) cx (kX6_thrown l adM T9.2 _ rfl) (by show k + 1 ≤ 512; omega) gL_law_X6_thrown rfl ⟨rfl, rfl⟩ (by decide +kernel) rfl ⟨by decide, by decide⟩ rfl (Nat.le_of_ble_eq_true rfl) dL_law_965 ?_
    refine lx_S (S' := (k + 1, Mc, T9.2, (vp_updL o 0 (Int32.ofInt T.2.1).toInt64))) rfl ?_
    refine lx_iload cx 1 dL_law_968 rfl ?_
    refine lx_icmp_eq cx 975 dL_law_970 (by decide) (by rw [hth]; exact ⟨by decide, by decide⟩) ⟨by decide, by decide⟩ (fun c => ?_) (fun c => absurd hth c)
    refine lx_iload cx 1 dL_law_975 rfl ?_
    refine lx_if_ne cx 992 dL_law_977 (by decide) ⟨by decide, by decide⟩ (fun c => ?_) (fun c => absurd rfl c)
    refine lx_aload_n cx 5 dL_law_980 rfl rfl ?_
    refine lx_iconst cx dL_law_981 ?_
    refine lx_lald cx dL_law_982 ?_
    refine lx_topl (x' := (Int32.ofInt T.2.1).toInt64) rfl ?_
    refine lx_iload cx 0 dL_law_983 rfl ?_
    refine lx_i2l cx dL_law_985 ?_
    refine lx_lcmp cx dL_law_986 ?_
    refine lx_if_eq cx 992 dL_law_987 (by decide) (zlcmp_R _ _) (fun c => ?_) (fun c => absurd (by first | exact zlcmp_eq hv | exact zlcmp_eq (by rw [hv]) | exact zlcmp_eq rfl) c)
    refine lx_goto cx 1527 dL_law_992 (by decide) ?_
    refine lx_lv cx [2, 3, 4, 5, 6] rfl ?_
    exact J _ _ _ _ rfl hrel
  · have hz : (if T.1 = 0 then (0 : Int) else 1) = 1 := by rw [h0]; rfl
    rw [hz] at hth hh
    rw [if_neg (by rw [h0]; decide)] at hh
    refine lx_aload_n cx 1 dL_law_907 rfl rfl ?_
    refine lx_aload_n cx 0 dL_law_908 rfl rfl ?_
    refine lx_iload cx 4 dL_law_909 rfl ?_
    refine lx_iconst cx dL_law_911 ?_
    refine lx_iadd cx dL_law_912 ?_
    refine lx_sld cx rfl hL ⟨by omega, by omega⟩ dL_law_913 ?_
    refine lx_i2l cx dL_law_914 ?_
    refine lx_bipush (z := 32) cx dL_law_915 (by decide) ?_
    refine lx_lshl cx dL_law_917 ?_
    refine lx_aload_n cx 0 dL_law_918 rfl rfl ?_
    refine lx_iload cx 4 dL_law_919 rfl ?_
    refine lx_iconst cx dL_law_921 ?_
    refine lx_iadd cx dL_law_922 ?_
    refine lx_sld cx rfl hL ⟨by omega, by omega⟩ dL_law_923 ?_
    refine lx_i2l cx dL_law_924 ?_
    refine lx_ldc2 (v := 4294967295) cx dL_law_925 hcl_148 ?_
    refine lx_land cx dL_law_928 ?_
    refine lx_lor cx dL_law_929 ?_
    refine lx_aload_n cx 3 dL_law_930 rfl rfl ?_
    refine lx_callH (As := [.ref (adC 26), .long (((llshl ((Int32.ofInt (xs (i + 1).toNat).toInt).toInt64) 32)) ||| ((((Int32.ofInt (xs (i + 2).toNat).toInt).toInt64) &&& (4294967295)))), .ref ao]) (n := 3) (st := []) cx hh (by show k + 1 ≤ 512; omega) gL_law_L_costOf rfl ⟨rfl, rfl⟩ (by decide +kernel) rfl ⟨by decide, by decide⟩ rfl (Nat.le_of_ble_eq_true rfl) dL_law_931 ?_
    refine lx_S (S' := (k + 1, Mc, Mm, o)) rfl ?_
    refine lx_istore (lv' := [(5, iV 1), (0, .ref b), (1, .ref (adC 26)), (2, .ref (adM 14)), (3, .ref ao), (4, iV i)]) cx dL_law_934 (by decide) rfl ?_
    refine lx_aload_n cx 3 dL_law_936 rfl rfl ?_
    refine lx_aload_n cx 1 dL_law_937 rfl rfl ?_
    refine lx_iload cx 5 dL_law_938 rfl ?_
    refine lx_iconst cx dL_law_940 ?_
    refine lx_iadd cx dL_law_941 ?_
    refine lx_sld cx rfl hL ⟨by omega, by omega⟩ dL_law_942 ?_
    refine lx_i2l cx dL_law_943 ?_
    refine lx_bipush (z := 32) cx dL_law_944 (by decide) ?_
    refine lx_lshl cx dL_law_946 ?_
    refine lx_aload_n cx 1 dL_law_947 rfl rfl ?_
    refine lx_iload cx 5 dL_law_948 rfl ?_
    refine lx_iconst cx dL_law_950 ?_
    refine lx_iadd cx dL_law_951 ?_
    refine lx_sld cx rfl hL ⟨by omega, by omega⟩ dL_law_952 ?_
    refine lx_i2l cx dL_law_953 ?_
    refine lx_ldc2 (v := 4294967295) cx dL_law_954 hcl_148 ?_
    refine lx_land cx dL_law_957 ?_
    refine lx_lor cx dL_law_958 ?_
    refine lx_callM (As := [.long (((llshl ((Int32.ofInt (xs (i + 1).toNat).toInt).toInt64) 32)) ||| ((((Int32.ofInt (xs (i + 2).toNat).toInt).toInt64) &&& (4294967295))))]) (n := 1) (st := []) cx (kX6_costOf l adM Mm ((llshl ((Int32.ofInt (xs (i + 1).toNat).toInt).toInt64) 32) ||| (((Int32.ofInt (xs (i + 2).toNat).toInt).toInt64) &&& (4294967295))) _ hT9) (by show k + 1 ≤ 512; omega) gL_law_X6_costOf rfl ⟨rfl, rfl⟩ (by decide +kernel) rfl ⟨by decide, by decide⟩ rfl (Nat.le_of_ble_eq_true rfl) dL_law_959 ?_
    refine lx_S (S' := (k + 1, Mc, T9.2, o)) rfl ?_
    refine lx_istore (lv' := [(6, iV (T9.1)), (5, iV 1), (0, .ref b), (1, .ref (adC 26)), (2, .ref (adM 14)), (3, .ref ao), (4, iV i)]) cx dL_law_962 (by decide) rfl ?_
    refine lx_aload_n cx 4 dL_law_964 rfl rfl ?_
    refine lx_callM (As := []) (n := 0) (st := []) cx (kX6_thrown l adM T9.2 _ rfl) (by show k + 1 ≤ 512; omega) gL_law_X6_thrown rfl ⟨rfl, rfl⟩ (by decide +kernel) rfl ⟨by decide, by decide⟩ rfl (Nat.le_of_ble_eq_true rfl) dL_law_965 ?_
    refine lx_S (S' := (k + 1, Mc, T9.2, o)) rfl ?_
    refine lx_iload cx 1 dL_law_968 rfl ?_
    refine lx_icmp_eq cx 975 dL_law_970 (by decide) (by rw [hth]; exact ⟨by decide, by decide⟩) ⟨by decide, by decide⟩ (fun c => ?_) (fun c => absurd hth c)
    refine lx_iload cx 1 dL_law_975 rfl ?_
    refine lx_if_ne cx 992 dL_law_977 (by decide) ⟨by decide, by decide⟩ (fun c => absurd c (by decide)) (fun c => ?_)
    refine lx_goto cx 1527 dL_law_992 (by decide) ?_
    refine lx_lv cx [2, 3, 4, 5, 6] rfl ?_
    exact J _ _ _ _ rfl hrel
set_option maxRecDepth 100000 in
set_option maxHeartbeats 4000000 in
theorem lc_pull {Rel : Mem → Mem → Prop} (F : Fc_pull Rel) (l : Launch) (hl : l.stackTraces = false) (adC adM : Nat → Nat) (ao b L : Nat) (xs : Nat → Int32) (G : LSt → Nat → List (Nat × Value) → List Value → Prop) (cx : CL adC adM ao RL cL_law 7 wsL_law room_1 l (fun _ => True) (some (b, L, xs)) 512 (fun z _ => z = 1) G) (hL : L < 2147483648) (k : Nat) (Mc Mm : Mem) (o : Nat → Int64) (i : Int) (hk : k < 512) (hi : 0 ≤ i) (hi2 : i + 2 < (L : Int)) (hR : Rel Mc Mm) (J : ∀ (k2 : Nat) (Mc2 Mm2 : Mem) (o2 : Nat → Int64), k2 = k + 1 → Rel Mc2 Mm2 → G (k2, Mc2, Mm2, o2) 1527 [(0, .ref b), (1, .ref (adC 26)), (2, .ref (adM 14)), (3, .ref ao), (4, iV i)] []) : G (k, Mc, Mm, o) 995 [(0, .ref b), (1, .ref (adC 26)), (2, .ref (adM 14)), (3, .ref ao), (4, iV i)] [] := by
  obtain ⟨T, T9, hT, hT9, hc, hth, hv0, hrel⟩ := F Mc Mm (xs (i + 1).toNat).toInt (xs (i + 2).toNat).toInt hR (zi_inR _) (zi_inR _)
  have hh := hL_pull l hl adC adM ao (k, Mc, Mm, o) (xs (i + 1).toNat).toInt (xs (i + 2).toNat).toInt T hT hc
  rcases hc with h0 | h0
  · have hz : (if T.1 = 0 then (0 : Int) else 1) = 0 := by rw [h0]; rfl
    rw [hz] at hth hh
    have hv := (hv0 h0)
    rw [if_pos h0] at hh
    refine lx_aload_n cx 1 dL_law_995 rfl rfl ?_
    refine lx_aload_n cx 0 dL_law_996 rfl rfl ?_
    refine lx_iload cx 4 dL_law_997 rfl ?_
    refine lx_iconst cx dL_law_999 ?_
    refine lx_iadd cx dL_law_1000 ?_
    refine lx_sld cx rfl hL ⟨by omega, by omega⟩ dL_law_1001 ?_
    refine lx_aload_n cx 0 dL_law_1002 rfl rfl ?_
    refine lx_iload cx 4 dL_law_1003 rfl ?_
    refine lx_iconst cx dL_law_1005 ?_
    refine lx_iadd cx dL_law_1006 ?_
    refine lx_sld cx rfl hL ⟨by omega, by omega⟩ dL_law_1007 ?_
    refine lx_aload_n cx 3 dL_law_1008 rfl rfl ?_
    refine lx_callH (As := [.ref (adC 26), iV (xs (i + 1).toNat).toInt, iV (xs (i + 2).toNat).toInt, .ref ao]) (n := 4) (st := []) cx hh (by show k + 1 ≤ 512; omega) gL_law_L_pull rfl ⟨rfl, rfl⟩ (by decide +kernel) rfl ⟨by decide, by decide⟩ rfl (Nat.le_of_ble_eq_true rfl) dL_law_1009 ?_
    refine lx_S (S' := (k + 1, T.2.2, Mm, (vp_updL o 0 (Int32.ofInt T.2.1).toInt64))) rfl ?_
    refine lx_istore (lv' := [(5, iV 0), (0, .ref b), (1, .ref (adC 26)), (2, .ref (adM 14)), (3, .ref ao), (4, iV i)]) cx dL_law_1012 (by decide) rfl ?_
    refine lx_aload_n cx 3 dL_law_1014 rfl rfl ?_
    refine lx_aload_n cx 1 dL_law_1015 rfl rfl ?_
    refine lx_iload cx 5 dL_law_1016 rfl ?_
    refine lx_iconst cx dL_law_1018 ?_
    refine lx_iadd cx dL_law_1019 ?_
    refine lx_sld cx rfl hL ⟨by omega, by omega⟩ dL_law_1020 ?_
    refine lx_aload_n cx 1 dL_law_1021 rfl rfl ?_
    refine lx_iload cx 5 dL_law_1022 rfl ?_
    refine lx_iconst cx dL_law_1024 ?_
    refine lx_iadd cx dL_law_1025 ?_
    refine lx_sld cx rfl hL ⟨by omega, by omega⟩ dL_law_1026 ?_
    refine lx_callM (As := [iV (xs (i + 1).toNat).toInt, iV (xs (i + 2).toNat).toInt]) (n := 2) (st := []) cx (kX6_pull l adM Mm (xs (i + 1).toNat).toInt (xs (i + 2).toNat).toInt _ hT9) (by show k + 1 ≤ 512; omega) gL_law_X6_pull rfl ⟨rfl, rfl⟩ (by decide +kernel) rfl ⟨by decide, by decide⟩ rfl (Nat.le_of_ble_eq_true rfl) dL_law_1027 ?_
    refine lx_S (S' := (k + 1, T.2.2, T9.2, (vp_updL o 0 (Int32.ofInt T.2.1).toInt64))) rfl ?_
    refine lx_istore (lv' := [(6, iV (T9.1)), (5, iV 0), (0, .ref b), (1, .ref (adC 26)), (2, .ref (adM 14)), (3, .ref ao), (4, iV i)]) cx dL_law_1030 (by decide) rfl ?_
    refine lx_aload_n cx 4 dL_law_1032 rfl rfl ?_
    refine lx_callM (As := []) (n := 0) (st := []) cx (kX6_thrown l adM T9.2 _ rfl) (by show k + 1 ≤ 512; omega) gL_law_X6_thrown rfl ⟨rfl, rfl⟩ (by decide +kernel) rfl ⟨by decide, by decide⟩ rfl (Nat.le_of_ble_eq_true rfl) dL_law_1033 ?_
    refine lx_S (S' := (k + 1, T.2.2, T9.2, (vp_updL o 0 (Int32.ofInt T.2.1).toInt64))) rfl ?_
    refine lx_iload cx 1 dL_law_1036 rfl ?_
    refine lx_icmp_eq cx 1043 dL_law_1038 (by decide) (by rw [hth]; exact ⟨by decide, by decide⟩) ⟨by decide, by decide⟩ (fun c => ?_) (fun c => absurd hth c)
    refine lx_iload cx 1 dL_law_1043 rfl ?_
    refine lx_if_ne cx 1060 dL_law_1045 (by decide) ⟨by decide, by decide⟩ (fun c => ?_) (fun c => absurd rfl c)
    refine lx_aload_n cx 5 dL_law_1048 rfl rfl ?_
    refine lx_iconst cx dL_law_1049 ?_
    refine lx_lald cx dL_law_1050 ?_
    refine lx_topl (x' := (Int32.ofInt T.2.1).toInt64) rfl ?_
    refine lx_iload cx 0 dL_law_1051 rfl ?_
    refine lx_i2l cx dL_law_1053 ?_
    refine lx_lcmp cx dL_law_1054 ?_
    refine lx_if_eq cx 1060 dL_law_1055 (by decide) (zlcmp_R _ _) (fun c => ?_) (fun c => absurd (by first | exact zlcmp_eq hv | exact zlcmp_eq (by rw [hv]) | exact zlcmp_eq rfl) c)
    refine lx_goto cx 1527 dL_law_1060 (by decide) ?_
    refine lx_lv cx [2, 3, 4, 5, 6] rfl ?_
    exact J _ _ _ _ rfl hrel
  · have hz : (if T.1 = 0 then (0 : Int) else 1) = 1 := by rw [h0]; rfl
    rw [hz] at hth hh
    rw [if_neg (by rw [h0]; decide)] at hh
    refine lx_aload_n cx 1 dL_law_995 rfl rfl ?_
    refine lx_aload_n cx 0 dL_law_996 rfl rfl ?_
    refine lx_iload cx 4 dL_law_997 rfl ?_
    refine lx_iconst cx dL_law_999 ?_
    refine lx_iadd cx dL_law_1000 ?_
    refine lx_sld cx rfl hL ⟨by omega, by omega⟩ dL_law_1001 ?_
    refine lx_aload_n cx 0 dL_law_1002 rfl rfl ?_
    refine lx_iload cx 4 dL_law_1003 rfl ?_
    refine lx_iconst cx dL_law_1005 ?_
    refine lx_iadd cx dL_law_1006 ?_
    refine lx_sld cx rfl hL ⟨by omega, by omega⟩ dL_law_1007 ?_
    refine lx_aload_n cx 3 dL_law_1008 rfl rfl ?_
    refine lx_callH (As := [.ref (adC 26), iV (xs (i + 1).toNat).toInt, iV (xs (i + 2).toNat).toInt, .ref ao]) (n := 4) (st := []) cx hh (by show k + 1 ≤ 512; omega) gL_law_L_pull rfl ⟨rfl, rfl⟩ (by decide +kernel) rfl ⟨by decide, by decide⟩ rfl (Nat.le_of_ble_eq_true rfl) dL_law_1009 ?_
    refine lx_S (S' := (k + 1, T.2.2, Mm, o)) rfl ?_
    refine lx_istore (lv' := [(5, iV 1), (0, .ref b), (1, .ref (adC 26)), (2, .ref (adM 14)), (3, .ref ao), (4, iV i)]) cx dL_law_1012 (by decide) rfl ?_
    refine lx_aload_n cx 3 dL_law_1014 rfl rfl ?_
    refine lx_aload_n cx 1 dL_law_1015 rfl rfl ?_
    refine lx_iload cx 5 dL_law_1016 rfl ?_
    refine lx_iconst cx dL_law_1018 ?_
    refine lx_iadd cx dL_law_1019 ?_
    refine lx_sld cx rfl hL ⟨by omega, by omega⟩ dL_law_1020 ?_
    refine lx_aload_n cx 1 dL_law_1021 rfl rfl ?_
    refine lx_iload cx 5 dL_law_1022 rfl ?_
    refine lx_iconst cx dL_law_1024 ?_
    refine lx_iadd cx dL_law_1025 ?_
    refine lx_sld cx rfl hL ⟨by omega, by omega⟩ dL_law_1026 ?_
    refine lx_callM (As := [iV (xs (i + 1).toNat).toInt, iV (xs (i + 2).toNat).toInt]) (n := 2) (st := []) cx (kX6_pull l adM Mm (xs (i + 1).toNat).toInt (xs (i + 2).toNat).toInt _ hT9) (by show k + 1 ≤ 512; omega) gL_law_X6_pull rfl ⟨rfl, rfl⟩ (by decide +kernel) rfl ⟨by decide, by decide⟩ rfl (Nat.le_of_ble_eq_true rfl) dL_law_1027 ?_
    refine lx_S (S' := (k + 1, T.2.2, T9.2, o)) rfl ?_
    refine lx_istore (lv' := [(6, iV (T9.1)), (5, iV 1), (0, .ref b), (1, .ref (adC 26)), (2, .ref (adM 14)), (3, .ref ao), (4, iV i)]) cx dL_law_1030 (by decide) rfl ?_
    refine lx_aload_n cx 4 dL_law_1032 rfl rfl ?_
    refine lx_callM (As := []) (n := 0) (st := []) cx (kX6_thrown l adM T9.2 _ rfl) (by show k + 1 ≤ 512; omega) gL_law_X6_thrown rfl ⟨rfl, rfl⟩ (by decide +kernel) rfl ⟨by decide, by decide⟩ rfl (Nat.le_of_ble_eq_true rfl) dL_law_1033 ?_
    refine lx_S (S' := (k + 1, T.2.2, T9.2, o)) rfl ?_
    refine lx_iload cx 1 dL_law_1036 rfl ?_
    refine lx_icmp_eq cx 1043 dL_law_1038 (by decide) (by rw [hth]; exact ⟨by decide, by decide⟩) ⟨by decide, by decide⟩ (fun c => ?_) (fun c => absurd hth c)
    refine lx_iload cx 1 dL_law_1043 rfl ?_
    refine lx_if_ne cx 1060 dL_law_1045 (by decide) ⟨by decide, by decide⟩ (fun c => absurd c (by decide)) (fun c => ?_)
    refine lx_goto cx 1527 dL_law_1060 (by decide) ?_
    refine lx_lv cx [2, 3, 4, 5, 6] rfl ?_
    exact J _ _ _ _ rfl hrel
set_option maxRecDepth 100000 in
set_option maxHeartbeats 4000000 in
theorem lc_hold {Rel : Mem → Mem → Prop} (F : Fc_hold Rel) (l : Launch) (hl : l.stackTraces = false) (adC adM : Nat → Nat) (ao b L : Nat) (xs : Nat → Int32) (G : LSt → Nat → List (Nat × Value) → List Value → Prop) (cx : CL adC adM ao RL cL_law 7 wsL_law room_1 l (fun _ => True) (some (b, L, xs)) 512 (fun z _ => z = 1) G) (hL : L < 2147483648) (k : Nat) (Mc Mm : Mem) (o : Nat → Int64) (i : Int) (hk : k < 512) (hi : 0 ≤ i) (hi2 : i + 2 < (L : Int)) (hR : Rel Mc Mm) (J : ∀ (k2 : Nat) (Mc2 Mm2 : Mem) (o2 : Nat → Int64), k2 = k + 1 → Rel Mc2 Mm2 → G (k2, Mc2, Mm2, o2) 1527 [(0, .ref b), (1, .ref (adC 26)), (2, .ref (adM 14)), (3, .ref ao), (4, iV i)] []) : G (k, Mc, Mm, o) 1063 [(0, .ref b), (1, .ref (adC 26)), (2, .ref (adM 14)), (3, .ref ao), (4, iV i)] [] := by
  by_cases cb : (xs (i + 2).toNat).toInt = 0
  · obtain ⟨T, T9, hT, hT9, hc, hth, hv0, hrel⟩ := F Mc Mm (xs (i + 1).toNat).toInt 0 hR (zi_inR _) (Or.inl rfl)
    have hh := hL_hold l hl adC adM ao (k, Mc, Mm, o) (xs (i + 1).toNat).toInt 0 T hT hc (fun e => (hv0 e).2)
    rcases hc with h0 | h0
    · rcases (hv0 h0).2 with hbt | hbt
      · have hz : (if T.1 = 0 then (0 : Int) else 1) = 0 := by rw [h0]; rfl
        rw [hz] at hth hh
        have hv := (hv0 h0).1
        rw [if_pos h0] at hh
        have hbv0 : T.2.1 = 0 := hbt
        have hbv : T9.1 = 0 := hv ▸ hbv0
        rw [hbv0] at hh
        have hv := hbv
        refine lx_aload_n cx 1 dL_law_1063 rfl rfl ?_
        refine lx_aload_n cx 0 dL_law_1064 rfl rfl ?_
        refine lx_iload cx 4 dL_law_1065 rfl ?_
        refine lx_iconst cx dL_law_1067 ?_
        refine lx_iadd cx dL_law_1068 ?_
        refine lx_sld cx rfl hL ⟨by omega, by omega⟩ dL_law_1069 ?_
        refine lx_aload_n cx 0 dL_law_1070 rfl rfl ?_
        refine lx_iload cx 4 dL_law_1071 rfl ?_
        refine lx_iconst cx dL_law_1073 ?_
        refine lx_iadd cx dL_law_1074 ?_
        refine lx_sld cx rfl hL ⟨by omega, by omega⟩ dL_law_1075 ?_
        refine lx_if_eq cx 1083 dL_law_1076 (by decide) (zi_inR _) (fun c => ?_) (fun c => absurd cb c)
        refine lx_iconst cx dL_law_1083 ?_
        refine lx_aload_n cx 3 dL_law_1084 rfl rfl ?_
        refine lx_callH (As := [.ref (adC 26), iV (xs (i + 1).toNat).toInt, iV 0, .ref ao]) (n := 4) (st := []) cx hh (by show k + 1 ≤ 512; omega) gL_law_L_hold rfl ⟨rfl, rfl⟩ (by decide +kernel) rfl ⟨by decide, by decide⟩ rfl (Nat.le_of_ble_eq_true rfl) dL_law_1085 ?_
        refine lx_S (S' := (k + 1, T.2.2, Mm, (vp_updL o 0 (if (0 : Int) = 0 then (0 : Int64) else 1)))) rfl ?_
        refine lx_istore (lv' := [(5, iV 0), (0, .ref b), (1, .ref (adC 26)), (2, .ref (adM 14)), (3, .ref ao), (4, iV i)]) cx dL_law_1088 (by decide) rfl ?_
        refine lx_aload_n cx 3 dL_law_1090 rfl rfl ?_
        refine lx_aload_n cx 1 dL_law_1091 rfl rfl ?_
        refine lx_iload cx 5 dL_law_1092 rfl ?_
        refine lx_iconst cx dL_law_1094 ?_
        refine lx_iadd cx dL_law_1095 ?_
        refine lx_sld cx rfl hL ⟨by omega, by omega⟩ dL_law_1096 ?_
        refine lx_aload_n cx 1 dL_law_1097 rfl rfl ?_
        refine lx_iload cx 5 dL_law_1098 rfl ?_
        refine lx_iconst cx dL_law_1100 ?_
        refine lx_iadd cx dL_law_1101 ?_
        refine lx_sld cx rfl hL ⟨by omega, by omega⟩ dL_law_1102 ?_
        refine lx_if_eq cx 1110 dL_law_1103 (by decide) (zi_inR _) (fun c => ?_) (fun c => absurd cb c)
        refine lx_iconst cx dL_law_1110 ?_
        refine lx_callM (As := [iV (xs (i + 1).toNat).toInt, iV 0]) (n := 2) (st := []) cx (kX6_hold l adM Mm (xs (i + 1).toNat).toInt 0 _ hT9) (by show k + 1 ≤ 512; omega) gL_law_X6_hold rfl ⟨rfl, rfl⟩ (by decide +kernel) rfl ⟨by decide, by decide⟩ rfl (Nat.le_of_ble_eq_true rfl) dL_law_1111 ?_
        refine lx_S (S' := (k + 1, T.2.2, T9.2, (vp_updL o 0 (if (0 : Int) = 0 then (0 : Int64) else 1)))) rfl ?_
        refine lx_istore (lv' := [(6, iV (T9.1)), (5, iV 0), (0, .ref b), (1, .ref (adC 26)), (2, .ref (adM 14)), (3, .ref ao), (4, iV i)]) cx dL_law_1114 (by decide) rfl ?_
        refine lx_aload_n cx 4 dL_law_1116 rfl rfl ?_
        refine lx_callM (As := []) (n := 0) (st := []) cx (kX6_thrown l adM T9.2 _ rfl) (by show k + 1 ≤ 512; omega) gL_law_X6_thrown rfl ⟨rfl, rfl⟩ (by decide +kernel) rfl ⟨by decide, by decide⟩ rfl (Nat.le_of_ble_eq_true rfl) dL_law_1117 ?_
        refine lx_S (S' := (k + 1, T.2.2, T9.2, (vp_updL o 0 (if (0 : Int) = 0 then (0 : Int64) else 1)))) rfl ?_
        refine lx_iload cx 1 dL_law_1120 rfl ?_
        refine lx_icmp_eq cx 1127 dL_law_1122 (by decide) (by rw [hth]; exact ⟨by decide, by decide⟩) ⟨by decide, by decide⟩ (fun c => ?_) (fun c => absurd hth c)
        refine lx_iload cx 1 dL_law_1127 rfl ?_
        refine lx_if_ne cx 1151 dL_law_1129 (by decide) ⟨by decide, by decide⟩ (fun c => ?_) (fun c => absurd rfl c)
        refine lx_aload_n cx 5 dL_law_1132 rfl rfl ?_
        refine lx_iconst cx dL_law_1133 ?_
        refine lx_lald cx dL_law_1134 ?_
        refine lx_topl (x' := 0) rfl ?_
        refine lx_iload cx 0 dL_law_1135 rfl ?_
        refine lx_if_eq cx 1144 dL_law_1137 (by decide) (by rw [hbv]; exact ⟨by decide, by decide⟩) (fun c => ?_) (fun c => absurd hbv c)
        refine lx_lconst (v := 0) cx dL_law_1144 rfl ?_
        refine lx_lcmp cx dL_law_1145 ?_
        refine lx_if_eq cx 1151 dL_law_1146 (by decide) (zlcmp_R _ _) (fun c => ?_) (fun c => absurd (by first | exact zlcmp_eq hv | exact zlcmp_eq (by rw [hv]) | exact zlcmp_eq rfl) c)
        refine lx_goto cx 1527 dL_law_1151 (by decide) ?_
        refine lx_lv cx [2, 3, 4, 5, 6] rfl ?_
        exact J _ _ _ _ rfl hrel
      · have hz : (if T.1 = 0 then (0 : Int) else 1) = 0 := by rw [h0]; rfl
        rw [hz] at hth hh
        have hv := (hv0 h0).1
        rw [if_pos h0] at hh
        have hbv0 : T.2.1 = 1 := hbt
        have hbv : T9.1 = 1 := hv ▸ hbv0
        rw [hbv0] at hh
        have hv := hbv
        refine lx_aload_n cx 1 dL_law_1063 rfl rfl ?_
        refine lx_aload_n cx 0 dL_law_1064 rfl rfl ?_
        refine lx_iload cx 4 dL_law_1065 rfl ?_
        refine lx_iconst cx dL_law_1067 ?_
        refine lx_iadd cx dL_law_1068 ?_
        refine lx_sld cx rfl hL ⟨by omega, by omega⟩ dL_law_1069 ?_
        refine lx_aload_n cx 0 dL_law_1070 rfl rfl ?_
        refine lx_iload cx 4 dL_law_1071 rfl ?_
        refine lx_iconst cx dL_law_1073 ?_
        refine lx_iadd cx dL_law_1074 ?_
        refine lx_sld cx rfl hL ⟨by omega, by omega⟩ dL_law_1075 ?_
        refine lx_if_eq cx 1083 dL_law_1076 (by decide) (zi_inR _) (fun c => ?_) (fun c => absurd cb c)
        refine lx_iconst cx dL_law_1083 ?_
        refine lx_aload_n cx 3 dL_law_1084 rfl rfl ?_
        refine lx_callH (As := [.ref (adC 26), iV (xs (i + 1).toNat).toInt, iV 0, .ref ao]) (n := 4) (st := []) cx hh (by show k + 1 ≤ 512; omega) gL_law_L_hold rfl ⟨rfl, rfl⟩ (by decide +kernel) rfl ⟨by decide, by decide⟩ rfl (Nat.le_of_ble_eq_true rfl) dL_law_1085 ?_
        refine lx_S (S' := (k + 1, T.2.2, Mm, (vp_updL o 0 (if (1 : Int) = 0 then (0 : Int64) else 1)))) rfl ?_
        refine lx_istore (lv' := [(5, iV 0), (0, .ref b), (1, .ref (adC 26)), (2, .ref (adM 14)), (3, .ref ao), (4, iV i)]) cx dL_law_1088 (by decide) rfl ?_
        refine lx_aload_n cx 3 dL_law_1090 rfl rfl ?_
        refine lx_aload_n cx 1 dL_law_1091 rfl rfl ?_
        refine lx_iload cx 5 dL_law_1092 rfl ?_
        refine lx_iconst cx dL_law_1094 ?_
        refine lx_iadd cx dL_law_1095 ?_
        refine lx_sld cx rfl hL ⟨by omega, by omega⟩ dL_law_1096 ?_
        refine lx_aload_n cx 1 dL_law_1097 rfl rfl ?_
        refine lx_iload cx 5 dL_law_1098 rfl ?_
        refine lx_iconst cx dL_law_1100 ?_
        refine lx_iadd cx dL_law_1101 ?_
        refine lx_sld cx rfl hL ⟨by omega, by omega⟩ dL_law_1102 ?_
        refine lx_if_eq cx 1110 dL_law_1103 (by decide) (zi_inR _) (fun c => ?_) (fun c => absurd cb c)
        refine lx_iconst cx dL_law_1110 ?_
        refine lx_callM (As := [iV (xs (i + 1).toNat).toInt, iV 0]) (n := 2) (st := []) cx (kX6_hold l adM Mm (xs (i + 1).toNat).toInt 0 _ hT9) (by show k + 1 ≤ 512; omega) gL_law_X6_hold rfl ⟨rfl, rfl⟩ (by decide +kernel) rfl ⟨by decide, by decide⟩ rfl (Nat.le_of_ble_eq_true rfl) dL_law_1111 ?_
        refine lx_S (S' := (k + 1, T.2.2, T9.2, (vp_updL o 0 (if (1 : Int) = 0 then (0 : Int64) else 1)))) rfl ?_
        refine lx_istore (lv' := [(6, iV (T9.1)), (5, iV 0), (0, .ref b), (1, .ref (adC 26)), (2, .ref (adM 14)), (3, .ref ao), (4, iV i)]) cx dL_law_1114 (by decide) rfl ?_
        refine lx_aload_n cx 4 dL_law_1116 rfl rfl ?_
        refine lx_callM (As := []) (n := 0) (st := []) cx (kX6_thrown l adM T9.2 _ rfl) (by show k + 1 ≤ 512; omega) gL_law_X6_thrown rfl ⟨rfl, rfl⟩ (by decide +kernel) rfl ⟨by decide, by decide⟩ rfl (Nat.le_of_ble_eq_true rfl) dL_law_1117 ?_
        refine lx_S (S' := (k + 1, T.2.2, T9.2, (vp_updL o 0 (if (1 : Int) = 0 then (0 : Int64) else 1)))) rfl ?_
        refine lx_iload cx 1 dL_law_1120 rfl ?_
        refine lx_icmp_eq cx 1127 dL_law_1122 (by decide) (by rw [hth]; exact ⟨by decide, by decide⟩) ⟨by decide, by decide⟩ (fun c => ?_) (fun c => absurd hth c)
        refine lx_iload cx 1 dL_law_1127 rfl ?_
        refine lx_if_ne cx 1151 dL_law_1129 (by decide) ⟨by decide, by decide⟩ (fun c => ?_) (fun c => absurd rfl c)
        refine lx_aload_n cx 5 dL_law_1132 rfl rfl ?_
        refine lx_iconst cx dL_law_1133 ?_
        refine lx_lald cx dL_law_1134 ?_
        refine lx_topl (x' := 1) rfl ?_
        refine lx_iload cx 0 dL_law_1135 rfl ?_
        refine lx_if_eq cx 1144 dL_law_1137 (by decide) (by rw [hbv]; exact ⟨by decide, by decide⟩) (fun c => absurd c (by rw [hbv]; decide)) (fun c => ?_)
        refine lx_lconst (v := 1) cx dL_law_1140 rfl ?_
        refine lx_goto cx 1145 dL_law_1141 (by decide) ?_
        refine lx_lcmp cx dL_law_1145 ?_
        refine lx_if_eq cx 1151 dL_law_1146 (by decide) (zlcmp_R _ _) (fun c => ?_) (fun c => absurd (by first | exact zlcmp_eq hv | exact zlcmp_eq (by rw [hv]) | exact zlcmp_eq rfl) c)
        refine lx_goto cx 1527 dL_law_1151 (by decide) ?_
        refine lx_lv cx [2, 3, 4, 5, 6] rfl ?_
        exact J _ _ _ _ rfl hrel
    · have hz : (if T.1 = 0 then (0 : Int) else 1) = 1 := by rw [h0]; rfl
      rw [hz] at hth hh
      rw [if_neg (by rw [h0]; decide)] at hh
      refine lx_aload_n cx 1 dL_law_1063 rfl rfl ?_
      refine lx_aload_n cx 0 dL_law_1064 rfl rfl ?_
      refine lx_iload cx 4 dL_law_1065 rfl ?_
      refine lx_iconst cx dL_law_1067 ?_
      refine lx_iadd cx dL_law_1068 ?_
      refine lx_sld cx rfl hL ⟨by omega, by omega⟩ dL_law_1069 ?_
      refine lx_aload_n cx 0 dL_law_1070 rfl rfl ?_
      refine lx_iload cx 4 dL_law_1071 rfl ?_
      refine lx_iconst cx dL_law_1073 ?_
      refine lx_iadd cx dL_law_1074 ?_
      refine lx_sld cx rfl hL ⟨by omega, by omega⟩ dL_law_1075 ?_
      refine lx_if_eq cx 1083 dL_law_1076 (by decide) (zi_inR _) (fun c => ?_) (fun c => absurd cb c)
      refine lx_iconst cx dL_law_1083 ?_
      refine lx_aload_n cx 3 dL_law_1084 rfl rfl ?_
      refine lx_callH (As := [.ref (adC 26), iV (xs (i + 1).toNat).toInt, iV 0, .ref ao]) (n := 4) (st := []) cx hh (by show k + 1 ≤ 512; omega) gL_law_L_hold rfl ⟨rfl, rfl⟩ (by decide +kernel) rfl ⟨by decide, by decide⟩ rfl (Nat.le_of_ble_eq_true rfl) dL_law_1085 ?_
      refine lx_S (S' := (k + 1, T.2.2, Mm, o)) rfl ?_
      refine lx_istore (lv' := [(5, iV 1), (0, .ref b), (1, .ref (adC 26)), (2, .ref (adM 14)), (3, .ref ao), (4, iV i)]) cx dL_law_1088 (by decide) rfl ?_
      refine lx_aload_n cx 3 dL_law_1090 rfl rfl ?_
      refine lx_aload_n cx 1 dL_law_1091 rfl rfl ?_
      refine lx_iload cx 5 dL_law_1092 rfl ?_
      refine lx_iconst cx dL_law_1094 ?_
      refine lx_iadd cx dL_law_1095 ?_
      refine lx_sld cx rfl hL ⟨by omega, by omega⟩ dL_law_1096 ?_
      refine lx_aload_n cx 1 dL_law_1097 rfl rfl ?_
      refine lx_iload cx 5 dL_law_1098 rfl ?_
      refine lx_iconst cx dL_law_1100 ?_
      refine lx_iadd cx dL_law_1101 ?_
      refine lx_sld cx rfl hL ⟨by omega, by omega⟩ dL_law_1102 ?_
      refine lx_if_eq cx 1110 dL_law_1103 (by decide) (zi_inR _) (fun c => ?_) (fun c => absurd cb c)
      refine lx_iconst cx dL_law_1110 ?_
      refine lx_callM (As := [iV (xs (i + 1).toNat).toInt, iV 0]) (n := 2) (st := []) cx (kX6_hold l adM Mm (xs (i + 1).toNat).toInt 0 _ hT9) (by show k + 1 ≤ 512; omega) gL_law_X6_hold rfl ⟨rfl, rfl⟩ (by decide +kernel) rfl ⟨by decide, by decide⟩ rfl (Nat.le_of_ble_eq_true rfl) dL_law_1111 ?_
      refine lx_S (S' := (k + 1, T.2.2, T9.2, o)) rfl ?_
      refine lx_istore (lv' := [(6, iV (T9.1)), (5, iV 1), (0, .ref b), (1, .ref (adC 26)), (2, .ref (adM 14)), (3, .ref ao), (4, iV i)]) cx dL_law_1114 (by decide) rfl ?_
      refine lx_aload_n cx 4 dL_law_1116 rfl rfl ?_
      refine lx_callM (As := []) (n := 0) (st := []) cx (kX6_thrown l adM T9.2 _ rfl) (by show k + 1 ≤ 512; omega) gL_law_X6_thrown rfl ⟨rfl, rfl⟩ (by decide +kernel) rfl ⟨by decide, by decide⟩ rfl (Nat.le_of_ble_eq_true rfl) dL_law_1117 ?_
      refine lx_S (S' := (k + 1, T.2.2, T9.2, o)) rfl ?_
      refine lx_iload cx 1 dL_law_1120 rfl ?_
      refine lx_icmp_eq cx 1127 dL_law_1122 (by decide) (by rw [hth]; exact ⟨by decide, by decide⟩) ⟨by decide, by decide⟩ (fun c => ?_) (fun c => absurd hth c)
      refine lx_iload cx 1 dL_law_1127 rfl ?_
      refine lx_if_ne cx 1151 dL_law_1129 (by decide) ⟨by decide, by decide⟩ (fun c => absurd c (by decide)) (fun c => ?_)
      refine lx_goto cx 1527 dL_law_1151 (by decide) ?_
      refine lx_lv cx [2, 3, 4, 5, 6] rfl ?_
      exact J _ _ _ _ rfl hrel
  · obtain ⟨T, T9, hT, hT9, hc, hth, hv0, hrel⟩ := F Mc Mm (xs (i + 1).toNat).toInt 1 hR (zi_inR _) (Or.inr rfl)
    have hh := hL_hold l hl adC adM ao (k, Mc, Mm, o) (xs (i + 1).toNat).toInt 1 T hT hc (fun e => (hv0 e).2)
    rcases hc with h0 | h0
    · rcases (hv0 h0).2 with hbt | hbt
      · have hz : (if T.1 = 0 then (0 : Int) else 1) = 0 := by rw [h0]; rfl
        rw [hz] at hth hh
        have hv := (hv0 h0).1
        rw [if_pos h0] at hh
        have hbv0 : T.2.1 = 0 := hbt
        have hbv : T9.1 = 0 := hv ▸ hbv0
        rw [hbv0] at hh
        have hv := hbv
        refine lx_aload_n cx 1 dL_law_1063 rfl rfl ?_
        refine lx_aload_n cx 0 dL_law_1064 rfl rfl ?_
        refine lx_iload cx 4 dL_law_1065 rfl ?_
        refine lx_iconst cx dL_law_1067 ?_
        refine lx_iadd cx dL_law_1068 ?_
        refine lx_sld cx rfl hL ⟨by omega, by omega⟩ dL_law_1069 ?_
        refine lx_aload_n cx 0 dL_law_1070 rfl rfl ?_
        refine lx_iload cx 4 dL_law_1071 rfl ?_
        refine lx_iconst cx dL_law_1073 ?_
        refine lx_iadd cx dL_law_1074 ?_
        refine lx_sld cx rfl hL ⟨by omega, by omega⟩ dL_law_1075 ?_
        refine lx_if_eq cx 1083 dL_law_1076 (by decide) (zi_inR _) (fun c => absurd c cb) (fun c => ?_)
        refine lx_iconst cx dL_law_1079 ?_
        refine lx_goto cx 1084 dL_law_1080 (by decide) ?_
        refine lx_aload_n cx 3 dL_law_1084 rfl rfl ?_
        refine lx_callH (As := [.ref (adC 26), iV (xs (i + 1).toNat).toInt, iV 1, .ref ao]) (n := 4) (st := []) cx hh (by show k + 1 ≤ 512; omega) gL_law_L_hold rfl ⟨rfl, rfl⟩ (by decide +kernel) rfl ⟨by decide, by decide⟩ rfl (Nat.le_of_ble_eq_true rfl) dL_law_1085 ?_
        refine lx_S (S' := (k + 1, T.2.2, Mm, (vp_updL o 0 (if (0 : Int) = 0 then (0 : Int64) else 1)))) rfl ?_
        refine lx_istore (lv' := [(5, iV 0), (0, .ref b), (1, .ref (adC 26)), (2, .ref (adM 14)), (3, .ref ao), (4, iV i)]) cx dL_law_1088 (by decide) rfl ?_
        refine lx_aload_n cx 3 dL_law_1090 rfl rfl ?_
        refine lx_aload_n cx 1 dL_law_1091 rfl rfl ?_
        refine lx_iload cx 5 dL_law_1092 rfl ?_
        refine lx_iconst cx dL_law_1094 ?_
        refine lx_iadd cx dL_law_1095 ?_
        refine lx_sld cx rfl hL ⟨by omega, by omega⟩ dL_law_1096 ?_
        refine lx_aload_n cx 1 dL_law_1097 rfl rfl ?_
        refine lx_iload cx 5 dL_law_1098 rfl ?_
        refine lx_iconst cx dL_law_1100 ?_
        refine lx_iadd cx dL_law_1101 ?_
        refine lx_sld cx rfl hL ⟨by omega, by omega⟩ dL_law_1102 ?_
        refine lx_if_eq cx 1110 dL_law_1103 (by decide) (zi_inR _) (fun c => absurd c cb) (fun c => ?_)
        refine lx_iconst cx dL_law_1106 ?_
        refine lx_goto cx 1111 dL_law_1107 (by decide) ?_
        refine lx_callM (As := [iV (xs (i + 1).toNat).toInt, iV 1]) (n := 2) (st := []) cx (kX6_hold l adM Mm (xs (i + 1).toNat).toInt 1 _ hT9) (by show k + 1 ≤ 512; omega) gL_law_X6_hold rfl ⟨rfl, rfl⟩ (by decide +kernel) rfl ⟨by decide, by decide⟩ rfl (Nat.le_of_ble_eq_true rfl) dL_law_1111 ?_
        refine lx_S (S' := (k + 1, T.2.2, T9.2, (vp_updL o 0 (if (0 : Int) = 0 then (0 : Int64) else 1)))) rfl ?_
        refine lx_istore (lv' := [(6, iV (T9.1)), (5, iV 0), (0, .ref b), (1, .ref (adC 26)), (2, .ref (adM 14)), (3, .ref ao), (4, iV i)]) cx dL_law_1114 (by decide) rfl ?_
        refine lx_aload_n cx 4 dL_law_1116 rfl rfl ?_
        refine lx_callM (As := []) (n := 0) (st := []) cx (kX6_thrown l adM T9.2 _ rfl) (by show k + 1 ≤ 512; omega) gL_law_X6_thrown rfl ⟨rfl, rfl⟩ (by decide +kernel) rfl ⟨by decide, by decide⟩ rfl (Nat.le_of_ble_eq_true rfl) dL_law_1117 ?_
        refine lx_S (S' := (k + 1, T.2.2, T9.2, (vp_updL o 0 (if (0 : Int) = 0 then (0 : Int64) else 1)))) rfl ?_
        refine lx_iload cx 1 dL_law_1120 rfl ?_
        refine lx_icmp_eq cx 1127 dL_law_1122 (by decide) (by rw [hth]; exact ⟨by decide, by decide⟩) ⟨by decide, by decide⟩ (fun c => ?_) (fun c => absurd hth c)
        refine lx_iload cx 1 dL_law_1127 rfl ?_
        refine lx_if_ne cx 1151 dL_law_1129 (by decide) ⟨by decide, by decide⟩ (fun c => ?_) (fun c => absurd rfl c)
        refine lx_aload_n cx 5 dL_law_1132 rfl rfl ?_
        refine lx_iconst cx dL_law_1133 ?_
        refine lx_lald cx dL_law_1134 ?_
        refine lx_topl (x' := 0) rfl ?_
        refine lx_iload cx 0 dL_law_1135 rfl ?_
        refine lx_if_eq cx 1144 dL_law_1137 (by decide) (by rw [hbv]; exact ⟨by decide, by decide⟩) (fun c => ?_) (fun c => absurd hbv c)
        refine lx_lconst (v := 0) cx dL_law_1144 rfl ?_
        refine lx_lcmp cx dL_law_1145 ?_
        refine lx_if_eq cx 1151 dL_law_1146 (by decide) (zlcmp_R _ _) (fun c => ?_) (fun c => absurd (by first | exact zlcmp_eq hv | exact zlcmp_eq (by rw [hv]) | exact zlcmp_eq rfl) c)
        refine lx_goto cx 1527 dL_law_1151 (by decide) ?_
        refine lx_lv cx [2, 3, 4, 5, 6] rfl ?_
        exact J _ _ _ _ rfl hrel
      · have hz : (if T.1 = 0 then (0 : Int) else 1) = 0 := by rw [h0]; rfl
        rw [hz] at hth hh
        have hv := (hv0 h0).1
        rw [if_pos h0] at hh
        have hbv0 : T.2.1 = 1 := hbt
        have hbv : T9.1 = 1 := hv ▸ hbv0
        rw [hbv0] at hh
        have hv := hbv
        refine lx_aload_n cx 1 dL_law_1063 rfl rfl ?_
        refine lx_aload_n cx 0 dL_law_1064 rfl rfl ?_
        refine lx_iload cx 4 dL_law_1065 rfl ?_
        refine lx_iconst cx dL_law_1067 ?_
        refine lx_iadd cx dL_law_1068 ?_
        refine lx_sld cx rfl hL ⟨by omega, by omega⟩ dL_law_1069 ?_
        refine lx_aload_n cx 0 dL_law_1070 rfl rfl ?_
        refine lx_iload cx 4 dL_law_1071 rfl ?_
        refine lx_iconst cx dL_law_1073 ?_
        refine lx_iadd cx dL_law_1074 ?_
        refine lx_sld cx rfl hL ⟨by omega, by omega⟩ dL_law_1075 ?_
        refine lx_if_eq cx 1083 dL_law_1076 (by decide) (zi_inR _) (fun c => absurd c cb) (fun c => ?_)
        refine lx_iconst cx dL_law_1079 ?_
        refine lx_goto cx 1084 dL_law_1080 (by decide) ?_
        refine lx_aload_n cx 3 dL_law_1084 rfl rfl ?_
        refine lx_callH (As := [.ref (adC 26), iV (xs (i + 1).toNat).toInt, iV 1, .ref ao]) (n := 4) (st := []) cx hh (by show k + 1 ≤ 512; omega) gL_law_L_hold rfl ⟨rfl, rfl⟩ (by decide +kernel) rfl ⟨by decide, by decide⟩ rfl (Nat.le_of_ble_eq_true rfl) dL_law_1085 ?_
        refine lx_S (S' := (k + 1, T.2.2, Mm, (vp_updL o 0 (if (1 : Int) = 0 then (0 : Int64) else 1)))) rfl ?_
        refine lx_istore (lv' := [(5, iV 0), (0, .ref b), (1, .ref (adC 26)), (2, .ref (adM 14)), (3, .ref ao), (4, iV i)]) cx dL_law_1088 (by decide) rfl ?_
        refine lx_aload_n cx 3 dL_law_1090 rfl rfl ?_
        refine lx_aload_n cx 1 dL_law_1091 rfl rfl ?_
        refine lx_iload cx 5 dL_law_1092 rfl ?_
        refine lx_iconst cx dL_law_1094 ?_
        refine lx_iadd cx dL_law_1095 ?_
        refine lx_sld cx rfl hL ⟨by omega, by omega⟩ dL_law_1096 ?_
        refine lx_aload_n cx 1 dL_law_1097 rfl rfl ?_
        refine lx_iload cx 5 dL_law_1098 rfl ?_
        refine lx_iconst cx dL_law_1100 ?_
        refine lx_iadd cx dL_law_1101 ?_
        refine lx_sld cx rfl hL ⟨by omega, by omega⟩ dL_law_1102 ?_
        refine lx_if_eq cx 1110 dL_law_1103 (by decide) (zi_inR _) (fun c => absurd c cb) (fun c => ?_)
        refine lx_iconst cx dL_law_1106 ?_
        refine lx_goto cx 1111 dL_law_1107 (by decide) ?_
        refine lx_callM (As := [iV (xs (i + 1).toNat).toInt, iV 1]) (n := 2) (st := []) cx (kX6_hold l adM Mm (xs (i + 1).toNat).toInt 1 _ hT9) (by show k + 1 ≤ 512; omega) gL_law_X6_hold rfl ⟨rfl, rfl⟩ (by decide +kernel) rfl ⟨by decide, by decide⟩ rfl (Nat.le_of_ble_eq_true rfl) dL_law_1111 ?_
        refine lx_S (S' := (k + 1, T.2.2, T9.2, (vp_updL o 0 (if (1 : Int) = 0 then (0 : Int64) else 1)))) rfl ?_
        refine lx_istore (lv' := [(6, iV (T9.1)), (5, iV 0), (0, .ref b), (1, .ref (adC 26)), (2, .ref (adM 14)), (3, .ref ao), (4, iV i)]) cx dL_law_1114 (by decide) rfl ?_
        refine lx_aload_n cx 4 dL_law_1116 rfl rfl ?_
        refine lx_callM (As := []) (n := 0) (st := []) cx (kX6_thrown l adM T9.2 _ rfl) (by show k + 1 ≤ 512; omega) gL_law_X6_thrown rfl ⟨rfl, rfl⟩ (by decide +kernel) rfl ⟨by decide, by decide⟩ rfl (Nat.le_of_ble_eq_true rfl) dL_law_1117 ?_
        refine lx_S (S' := (k + 1, T.2.2, T9.2, (vp_updL o 0 (if (1 : Int) = 0 then (0 : Int64) else 1)))) rfl ?_
        refine lx_iload cx 1 dL_law_1120 rfl ?_
        refine lx_icmp_eq cx 1127 dL_law_1122 (by decide) (by rw [hth]; exact ⟨by decide, by decide⟩) ⟨by decide, by decide⟩ (fun c => ?_) (fun c => absurd hth c)
        refine lx_iload cx 1 dL_law_1127 rfl ?_
        refine lx_if_ne cx 1151 dL_law_1129 (by decide) ⟨by decide, by decide⟩ (fun c => ?_) (fun c => absurd rfl c)
        refine lx_aload_n cx 5 dL_law_1132 rfl rfl ?_
        refine lx_iconst cx dL_law_1133 ?_
        refine lx_lald cx dL_law_1134 ?_
        refine lx_topl (x' := 1) rfl ?_
        refine lx_iload cx 0 dL_law_1135 rfl ?_
        refine lx_if_eq cx 1144 dL_law_1137 (by decide) (by rw [hbv]; exact ⟨by decide, by decide⟩) (fun c => absurd c (by rw [hbv]; decide)) (fun c => ?_)
        refine lx_lconst (v := 1) cx dL_law_1140 rfl ?_
        refine lx_goto cx 1145 dL_law_1141 (by decide) ?_
        refine lx_lcmp cx dL_law_1145 ?_
        refine lx_if_eq cx 1151 dL_law_1146 (by decide) (zlcmp_R _ _) (fun c => ?_) (fun c => absurd (by first | exact zlcmp_eq hv | exact zlcmp_eq (by rw [hv]) | exact zlcmp_eq rfl) c)
        refine lx_goto cx 1527 dL_law_1151 (by decide) ?_
        refine lx_lv cx [2, 3, 4, 5, 6] rfl ?_
        exact J _ _ _ _ rfl hrel
    · have hz : (if T.1 = 0 then (0 : Int) else 1) = 1 := by rw [h0]; rfl
      rw [hz] at hth hh
      rw [if_neg (by rw [h0]; decide)] at hh
      refine lx_aload_n cx 1 dL_law_1063 rfl rfl ?_
      refine lx_aload_n cx 0 dL_law_1064 rfl rfl ?_
      refine lx_iload cx 4 dL_law_1065 rfl ?_
      refine lx_iconst cx dL_law_1067 ?_
      refine lx_iadd cx dL_law_1068 ?_
      refine lx_sld cx rfl hL ⟨by omega, by omega⟩ dL_law_1069 ?_
      refine lx_aload_n cx 0 dL_law_1070 rfl rfl ?_
      refine lx_iload cx 4 dL_law_1071 rfl ?_
      refine lx_iconst cx dL_law_1073 ?_
      refine lx_iadd cx dL_law_1074 ?_
      refine lx_sld cx rfl hL ⟨by omega, by omega⟩ dL_law_1075 ?_
      refine lx_if_eq cx 1083 dL_law_1076 (by decide) (zi_inR _) (fun c => absurd c cb) (fun c => ?_)
      refine lx_iconst cx dL_law_1079 ?_
      refine lx_goto cx 1084 dL_law_1080 (by decide) ?_
      refine lx_aload_n cx 3 dL_law_1084 rfl rfl ?_
      refine lx_callH (As := [.ref (adC 26), iV (xs (i + 1).toNat).toInt, iV 1, .ref ao]) (n := 4) (st := []) cx hh (by show k + 1 ≤ 512; omega) gL_law_L_hold rfl ⟨rfl, rfl⟩ (by decide +kernel) rfl ⟨by decide, by decide⟩ rfl (Nat.le_of_ble_eq_true rfl) dL_law_1085 ?_
      refine lx_S (S' := (k + 1, T.2.2, Mm, o)) rfl ?_
      refine lx_istore (lv' := [(5, iV 1), (0, .ref b), (1, .ref (adC 26)), (2, .ref (adM 14)), (3, .ref ao), (4, iV i)]) cx dL_law_1088 (by decide) rfl ?_
      refine lx_aload_n cx 3 dL_law_1090 rfl rfl ?_
      refine lx_aload_n cx 1 dL_law_1091 rfl rfl ?_
      refine lx_iload cx 5 dL_law_1092 rfl ?_
      refine lx_iconst cx dL_law_1094 ?_
      refine lx_iadd cx dL_law_1095 ?_
      refine lx_sld cx rfl hL ⟨by omega, by omega⟩ dL_law_1096 ?_
      refine lx_aload_n cx 1 dL_law_1097 rfl rfl ?_
      refine lx_iload cx 5 dL_law_1098 rfl ?_
      refine lx_iconst cx dL_law_1100 ?_
      refine lx_iadd cx dL_law_1101 ?_
      refine lx_sld cx rfl hL ⟨by omega, by omega⟩ dL_law_1102 ?_
      refine lx_if_eq cx 1110 dL_law_1103 (by decide) (zi_inR _) (fun c => absurd c cb) (fun c => ?_)
      refine lx_iconst cx dL_law_1106 ?_
      refine lx_goto cx 1111 dL_law_1107 (by decide) ?_
      refine lx_callM (As := [iV (xs (i + 1).toNat).toInt, iV 1]) (n := 2) (st := []) cx (kX6_hold l adM Mm (xs (i + 1).toNat).toInt 1 _ hT9) (by show k + 1 ≤ 512; omega) gL_law_X6_hold rfl ⟨rfl, rfl⟩ (by decide +kernel) rfl ⟨by decide, by decide⟩ rfl (Nat.le_of_ble_eq_true rfl) dL_law_1111 ?_
      refine lx_S (S' := (k + 1, T.2.2, T9.2, o)) rfl ?_
      refine lx_istore (lv' := [(6, iV (T9.1)), (5, iV 1), (0, .ref b), (1, .ref (adC 26)), (2, .ref (adM 14)), (3, .ref ao), (4, iV i)]) cx dL_law_1114 (by decide) rfl ?_
      refine lx_aload_n cx 4 dL_law_1116 rfl rfl ?_
      refine lx_callM (As := []) (n := 0) (st := []) cx (kX6_thrown l adM T9.2 _ rfl) (by show k + 1 ≤ 512; omega) gL_law_X6_thrown rfl ⟨rfl, rfl⟩ (by decide +kernel) rfl ⟨by decide, by decide⟩ rfl (Nat.le_of_ble_eq_true rfl) dL_law_1117 ?_
      refine lx_S (S' := (k + 1, T.2.2, T9.2, o)) rfl ?_
      refine lx_iload cx 1 dL_law_1120 rfl ?_
      refine lx_icmp_eq cx 1127 dL_law_1122 (by decide) (by rw [hth]; exact ⟨by decide, by decide⟩) ⟨by decide, by decide⟩ (fun c => ?_) (fun c => absurd hth c)
      refine lx_iload cx 1 dL_law_1127 rfl ?_
      refine lx_if_ne cx 1151 dL_law_1129 (by decide) ⟨by decide, by decide⟩ (fun c => absurd c (by decide)) (fun c => ?_)
      refine lx_goto cx 1527 dL_law_1151 (by decide) ?_
      refine lx_lv cx [2, 3, 4, 5, 6] rfl ?_
      exact J _ _ _ _ rfl hrel
set_option maxRecDepth 100000 in
set_option maxHeartbeats 4000000 in
theorem lc_breathe {Rel : Mem → Mem → Prop} (F : Fc_breathe Rel) (l : Launch) (hl : l.stackTraces = false) (adC adM : Nat → Nat) (ao b L : Nat) (xs : Nat → Int32) (G : LSt → Nat → List (Nat × Value) → List Value → Prop) (cx : CL adC adM ao RL cL_law 7 wsL_law room_1 l (fun _ => True) (some (b, L, xs)) 512 (fun z _ => z = 1) G) (hL : L < 2147483648) (k : Nat) (Mc Mm : Mem) (o : Nat → Int64) (i : Int) (hk : k < 512) (hi : 0 ≤ i) (hi2 : i + 2 < (L : Int)) (hR : Rel Mc Mm) (J : ∀ (k2 : Nat) (Mc2 Mm2 : Mem) (o2 : Nat → Int64), k2 = k + 1 → Rel Mc2 Mm2 → G (k2, Mc2, Mm2, o2) 1527 [(0, .ref b), (1, .ref (adC 26)), (2, .ref (adM 14)), (3, .ref ao), (4, iV i)] []) : G (k, Mc, Mm, o) 1154 [(0, .ref b), (1, .ref (adC 26)), (2, .ref (adM 14)), (3, .ref ao), (4, iV i)] [] := by
  obtain ⟨T, T9, hT, hT9, hc, hth, hv0, hrel⟩ := F Mc Mm (xs (i + 1).toNat).toInt hR (zi_inR _)
  have hh := hL_breathe l hl adC adM ao (k, Mc, Mm, o) (xs (i + 1).toNat).toInt T hT hc
  rcases hc with h0 | h0
  · have hz : (if T.1 = 0 then (0 : Int) else 1) = 0 := by rw [h0]; rfl
    rw [hz] at hth hh
    have hv := (hv0 h0)
    rw [if_pos h0] at hh
    refine lx_aload_n cx 1 dL_law_1154 rfl rfl ?_
    refine lx_aload_n cx 0 dL_law_1155 rfl rfl ?_
    refine lx_iload cx 4 dL_law_1156 rfl ?_
    refine lx_iconst cx dL_law_1158 ?_
    refine lx_iadd cx dL_law_1159 ?_
    refine lx_sld cx rfl hL ⟨by omega, by omega⟩ dL_law_1160 ?_
    refine lx_aload_n cx 3 dL_law_1161 rfl rfl ?_
    refine lx_callH (As := [.ref (adC 26), iV (xs (i + 1).toNat).toInt, .ref ao]) (n := 3) (st := []) cx hh (by show k + 1 ≤ 512; omega) gL_law_L_breathe rfl ⟨rfl, rfl⟩ (by decide +kernel) rfl ⟨by decide, by decide⟩ rfl (Nat.le_of_ble_eq_true rfl) dL_law_1162 ?_
    refine lx_S (S' := (k + 1, T.2.2, Mm, (vp_updL o 0 (Int32.ofInt T.2.1).toInt64))) rfl ?_
    refine lx_istore (lv' := [(5, iV 0), (0, .ref b), (1, .ref (adC 26)), (2, .ref (adM 14)), (3, .ref ao), (4, iV i)]) cx dL_law_1165 (by decide) rfl ?_
    refine lx_aload_n cx 3 dL_law_1167 rfl rfl ?_
    refine lx_aload_n cx 1 dL_law_1168 rfl rfl ?_
    refine lx_iload cx 5 dL_law_1169 rfl ?_
    refine lx_iconst cx dL_law_1171 ?_
    refine lx_iadd cx dL_law_1172 ?_
    refine lx_sld cx rfl hL ⟨by omega, by omega⟩ dL_law_1173 ?_
    refine lx_callM (As := [iV (xs (i + 1).toNat).toInt]) (n := 1) (st := []) cx (kX6_breathe l adM Mm (xs (i + 1).toNat).toInt _ hT9) (by show k + 1 ≤ 512; omega) gL_law_X6_breathe rfl ⟨rfl, rfl⟩ (by decide +kernel) rfl ⟨by decide, by decide⟩ rfl (Nat.le_of_ble_eq_true rfl) dL_law_1174 ?_
    refine lx_S (S' := (k + 1, T.2.2, T9.2, (vp_updL o 0 (Int32.ofInt T.2.1).toInt64))) rfl ?_
    refine lx_istore (lv' := [(6, iV (T9.1)), (5, iV 0), (0, .ref b), (1, .ref (adC 26)), (2, .ref (adM 14)), (3, .ref ao), (4, iV i)]) cx dL_law_1177 (by decide) rfl ?_
    refine lx_aload_n cx 4 dL_law_1179 rfl rfl ?_
    refine lx_callM (As := []) (n := 0) (st := []) cx (kX6_thrown l adM T9.2 _ rfl) (by show k + 1 ≤ 512; omega) gL_law_X6_thrown rfl ⟨rfl, rfl⟩ (by decide +kernel) rfl ⟨by decide, by decide⟩ rfl (Nat.le_of_ble_eq_true rfl) dL_law_1180 ?_
    refine lx_S (S' := (k + 1, T.2.2, T9.2, (vp_updL o 0 (Int32.ofInt T.2.1).toInt64))) rfl ?_
    refine lx_iload cx 1 dL_law_1183 rfl ?_
    refine lx_icmp_eq cx 1190 dL_law_1185 (by decide) (by rw [hth]; exact ⟨by decide, by decide⟩) ⟨by decide, by decide⟩ (fun c => ?_) (fun c => absurd hth c)
    refine lx_iload cx 1 dL_law_1190 rfl ?_
    refine lx_if_ne cx 1207 dL_law_1192 (by decide) ⟨by decide, by decide⟩ (fun c => ?_) (fun c => absurd rfl c)
    refine lx_aload_n cx 5 dL_law_1195 rfl rfl ?_
    refine lx_iconst cx dL_law_1196 ?_
    refine lx_lald cx dL_law_1197 ?_
    refine lx_topl (x' := (Int32.ofInt T.2.1).toInt64) rfl ?_
    refine lx_iload cx 0 dL_law_1198 rfl ?_
    refine lx_i2l cx dL_law_1200 ?_
    refine lx_lcmp cx dL_law_1201 ?_
    refine lx_if_eq cx 1207 dL_law_1202 (by decide) (zlcmp_R _ _) (fun c => ?_) (fun c => absurd (by first | exact zlcmp_eq hv | exact zlcmp_eq (by rw [hv]) | exact zlcmp_eq rfl) c)
    refine lx_goto cx 1527 dL_law_1207 (by decide) ?_
    refine lx_lv cx [2, 3, 4, 5, 6] rfl ?_
    exact J _ _ _ _ rfl hrel
  · have hz : (if T.1 = 0 then (0 : Int) else 1) = 1 := by rw [h0]; rfl
    rw [hz] at hth hh
    rw [if_neg (by rw [h0]; decide)] at hh
    refine lx_aload_n cx 1 dL_law_1154 rfl rfl ?_
    refine lx_aload_n cx 0 dL_law_1155 rfl rfl ?_
    refine lx_iload cx 4 dL_law_1156 rfl ?_
    refine lx_iconst cx dL_law_1158 ?_
    refine lx_iadd cx dL_law_1159 ?_
    refine lx_sld cx rfl hL ⟨by omega, by omega⟩ dL_law_1160 ?_
    refine lx_aload_n cx 3 dL_law_1161 rfl rfl ?_
    refine lx_callH (As := [.ref (adC 26), iV (xs (i + 1).toNat).toInt, .ref ao]) (n := 3) (st := []) cx hh (by show k + 1 ≤ 512; omega) gL_law_L_breathe rfl ⟨rfl, rfl⟩ (by decide +kernel) rfl ⟨by decide, by decide⟩ rfl (Nat.le_of_ble_eq_true rfl) dL_law_1162 ?_
    refine lx_S (S' := (k + 1, T.2.2, Mm, o)) rfl ?_
    refine lx_istore (lv' := [(5, iV 1), (0, .ref b), (1, .ref (adC 26)), (2, .ref (adM 14)), (3, .ref ao), (4, iV i)]) cx dL_law_1165 (by decide) rfl ?_
    refine lx_aload_n cx 3 dL_law_1167 rfl rfl ?_
    refine lx_aload_n cx 1 dL_law_1168 rfl rfl ?_
    refine lx_iload cx 5 dL_law_1169 rfl ?_
    refine lx_iconst cx dL_law_1171 ?_
    refine lx_iadd cx dL_law_1172 ?_
    refine lx_sld cx rfl hL ⟨by omega, by omega⟩ dL_law_1173 ?_
    refine lx_callM (As := [iV (xs (i + 1).toNat).toInt]) (n := 1) (st := []) cx (kX6_breathe l adM Mm (xs (i + 1).toNat).toInt _ hT9) (by show k + 1 ≤ 512; omega) gL_law_X6_breathe rfl ⟨rfl, rfl⟩ (by decide +kernel) rfl ⟨by decide, by decide⟩ rfl (Nat.le_of_ble_eq_true rfl) dL_law_1174 ?_
    refine lx_S (S' := (k + 1, T.2.2, T9.2, o)) rfl ?_
    refine lx_istore (lv' := [(6, iV (T9.1)), (5, iV 1), (0, .ref b), (1, .ref (adC 26)), (2, .ref (adM 14)), (3, .ref ao), (4, iV i)]) cx dL_law_1177 (by decide) rfl ?_
    refine lx_aload_n cx 4 dL_law_1179 rfl rfl ?_
    refine lx_callM (As := []) (n := 0) (st := []) cx (kX6_thrown l adM T9.2 _ rfl) (by show k + 1 ≤ 512; omega) gL_law_X6_thrown rfl ⟨rfl, rfl⟩ (by decide +kernel) rfl ⟨by decide, by decide⟩ rfl (Nat.le_of_ble_eq_true rfl) dL_law_1180 ?_
    refine lx_S (S' := (k + 1, T.2.2, T9.2, o)) rfl ?_
    refine lx_iload cx 1 dL_law_1183 rfl ?_
    refine lx_icmp_eq cx 1190 dL_law_1185 (by decide) (by rw [hth]; exact ⟨by decide, by decide⟩) ⟨by decide, by decide⟩ (fun c => ?_) (fun c => absurd hth c)
    refine lx_iload cx 1 dL_law_1190 rfl ?_
    refine lx_if_ne cx 1207 dL_law_1192 (by decide) ⟨by decide, by decide⟩ (fun c => absurd c (by decide)) (fun c => ?_)
    refine lx_goto cx 1527 dL_law_1207 (by decide) ?_
    refine lx_lv cx [2, 3, 4, 5, 6] rfl ?_
    exact J _ _ _ _ rfl hrel
set_option maxRecDepth 100000 in
set_option maxHeartbeats 4000000 in
theorem lc_bubbleAt {Rel : Mem → Mem → Prop} (F : Fc_bubbleAt Rel) (l : Launch) (hl : l.stackTraces = false) (adC adM : Nat → Nat) (ao b L : Nat) (xs : Nat → Int32) (G : LSt → Nat → List (Nat × Value) → List Value → Prop) (cx : CL adC adM ao RL cL_law 7 wsL_law room_1 l (fun _ => True) (some (b, L, xs)) 512 (fun z _ => z = 1) G) (hL : L < 2147483648) (k : Nat) (Mc Mm : Mem) (o : Nat → Int64) (i : Int) (hk : k < 512) (hi : 0 ≤ i) (hi2 : i + 2 < (L : Int)) (hR : Rel Mc Mm) (J : ∀ (k2 : Nat) (Mc2 Mm2 : Mem) (o2 : Nat → Int64), k2 = k + 1 → Rel Mc2 Mm2 → G (k2, Mc2, Mm2, o2) 1527 [(0, .ref b), (1, .ref (adC 26)), (2, .ref (adM 14)), (3, .ref ao), (4, iV i)] []) : G (k, Mc, Mm, o) 1210 [(0, .ref b), (1, .ref (adC 26)), (2, .ref (adM 14)), (3, .ref ao), (4, iV i)] [] := by
  obtain ⟨T, T9, hT, hT9, hc, hth, hv0, hrel⟩ := F Mc Mm (xs (i + 1).toNat).toInt hR (zi_inR _)
  have hh := hL_bubbleAt l hl adC adM ao (k, Mc, Mm, o) (xs (i + 1).toNat).toInt T hT hc
  rcases hc with h0 | h0
  · have hz : (if T.1 = 0 then (0 : Int) else 1) = 0 := by rw [h0]; rfl
    rw [hz] at hth hh
    have hv := (hv0 h0)
    rw [if_pos h0] at hh
    refine lx_aload_n cx 1 dL_law_1210 rfl rfl ?_
    refine lx_aload_n cx 0 dL_law_1211 rfl rfl ?_
    refine lx_iload cx 4 dL_law_1212 rfl ?_
    refine lx_iconst cx dL_law_1214 ?_
    refine lx_iadd cx dL_law_1215 ?_
    refine lx_sld cx rfl hL ⟨by omega, by omega⟩ dL_law_1216 ?_
    refine lx_aload_n cx 3 dL_law_1217 rfl rfl ?_
    refine lx_callH (As := [.ref (adC 26), iV (xs (i + 1).toNat).toInt, .ref ao]) (n := 3) (st := []) cx hh (by show k + 1 ≤ 512; omega) gL_law_L_bubbleAt rfl ⟨rfl, rfl⟩ (by decide +kernel) rfl ⟨by decide, by decide⟩ rfl (Nat.le_of_ble_eq_true rfl) dL_law_1218 ?_
    refine lx_S (S' := (k + 1, Mc, Mm, (vp_updL o 0 (Int32.ofInt T.2.1).toInt64))) rfl ?_
    refine lx_istore (lv' := [(5, iV 0), (0, .ref b), (1, .ref (adC 26)), (2, .ref (adM 14)), (3, .ref ao), (4, iV i)]) cx dL_law_1221 (by decide) rfl ?_
    refine lx_aload_n cx 3 dL_law_1223 rfl rfl ?_
    refine lx_aload_n cx 1 dL_law_1224 rfl rfl ?_
    refine lx_iload cx 5 dL_law_1225 rfl ?_
    refine lx_iconst cx dL_law_1227 ?_
    refine lx_iadd cx dL_law_1228 ?_
    refine lx_sld cx rfl hL ⟨by omega, by omega⟩ dL_law_1229 ?_
    refine lx_callM (As := [iV (xs (i + 1).toNat).toInt]) (n := 1) (st := []) cx (kX6_bubbleAt l adM Mm (xs (i + 1).toNat).toInt _ hT9) (by show k + 1 ≤ 512; omega) gL_law_X6_bubbleAt rfl ⟨rfl, rfl⟩ (by decide +kernel) rfl ⟨by decide, by decide⟩ rfl (Nat.le_of_ble_eq_true rfl) dL_law_1230 ?_
    refine lx_S (S' := (k + 1, Mc, T9.2, (vp_updL o 0 (Int32.ofInt T.2.1).toInt64))) rfl ?_
    refine lx_istore (lv' := [(6, iV (T9.1)), (5, iV 0), (0, .ref b), (1, .ref (adC 26)), (2, .ref (adM 14)), (3, .ref ao), (4, iV i)]) cx dL_law_1233 (by decide) rfl ?_
    refine lx_aload_n cx 4 dL_law_1235 rfl rfl ?_
    refine lx_callM (As := []) (n := 0) (st := []) cx (kX6_thrown l adM T9.2 _ rfl) (by show k + 1 ≤ 512; omega) gL_law_X6_thrown rfl ⟨rfl, rfl⟩ (by decide +kernel) rfl ⟨by decide, by decide⟩ rfl (Nat.le_of_ble_eq_true rfl) dL_law_1236 ?_
    refine lx_S (S' := (k + 1, Mc, T9.2, (vp_updL o 0 (Int32.ofInt T.2.1).toInt64))) rfl ?_
    refine lx_iload cx 1 dL_law_1239 rfl ?_
    refine lx_icmp_eq cx 1246 dL_law_1241 (by decide) (by rw [hth]; exact ⟨by decide, by decide⟩) ⟨by decide, by decide⟩ (fun c => ?_) (fun c => absurd hth c)
    refine lx_iload cx 1 dL_law_1246 rfl ?_
    refine lx_if_ne cx 1263 dL_law_1248 (by decide) ⟨by decide, by decide⟩ (fun c => ?_) (fun c => absurd rfl c)
    refine lx_aload_n cx 5 dL_law_1251 rfl rfl ?_
    refine lx_iconst cx dL_law_1252 ?_
    refine lx_lald cx dL_law_1253 ?_
    refine lx_topl (x' := (Int32.ofInt T.2.1).toInt64) rfl ?_
    refine lx_iload cx 0 dL_law_1254 rfl ?_
    refine lx_i2l cx dL_law_1256 ?_
    refine lx_lcmp cx dL_law_1257 ?_
    refine lx_if_eq cx 1263 dL_law_1258 (by decide) (zlcmp_R _ _) (fun c => ?_) (fun c => absurd (by first | exact zlcmp_eq hv | exact zlcmp_eq (by rw [hv]) | exact zlcmp_eq rfl) c)
    refine lx_goto cx 1527 dL_law_1263 (by decide) ?_
    refine lx_lv cx [2, 3, 4, 5, 6] rfl ?_
    exact J _ _ _ _ rfl hrel
  · have hz : (if T.1 = 0 then (0 : Int) else 1) = 1 := by rw [h0]; rfl
    rw [hz] at hth hh
    rw [if_neg (by rw [h0]; decide)] at hh
    refine lx_aload_n cx 1 dL_law_1210 rfl rfl ?_
    refine lx_aload_n cx 0 dL_law_1211 rfl rfl ?_
    refine lx_iload cx 4 dL_law_1212 rfl ?_
    refine lx_iconst cx dL_law_1214 ?_
    refine lx_iadd cx dL_law_1215 ?_
    refine lx_sld cx rfl hL ⟨by omega, by omega⟩ dL_law_1216 ?_
    refine lx_aload_n cx 3 dL_law_1217 rfl rfl ?_
    refine lx_callH (As := [.ref (adC 26), iV (xs (i + 1).toNat).toInt, .ref ao]) (n := 3) (st := []) cx hh (by show k + 1 ≤ 512; omega) gL_law_L_bubbleAt rfl ⟨rfl, rfl⟩ (by decide +kernel) rfl ⟨by decide, by decide⟩ rfl (Nat.le_of_ble_eq_true rfl) dL_law_1218 ?_
    refine lx_S (S' := (k + 1, Mc, Mm, o)) rfl ?_
    refine lx_istore (lv' := [(5, iV 1), (0, .ref b), (1, .ref (adC 26)), (2, .ref (adM 14)), (3, .ref ao), (4, iV i)]) cx dL_law_1221 (by decide) rfl ?_
    refine lx_aload_n cx 3 dL_law_1223 rfl rfl ?_
    refine lx_aload_n cx 1 dL_law_1224 rfl rfl ?_
    refine lx_iload cx 5 dL_law_1225 rfl ?_
    refine lx_iconst cx dL_law_1227 ?_
    refine lx_iadd cx dL_law_1228 ?_
    refine lx_sld cx rfl hL ⟨by omega, by omega⟩ dL_law_1229 ?_
    refine lx_callM (As := [iV (xs (i + 1).toNat).toInt]) (n := 1) (st := []) cx (kX6_bubbleAt l adM Mm (xs (i + 1).toNat).toInt _ hT9) (by show k + 1 ≤ 512; omega) gL_law_X6_bubbleAt rfl ⟨rfl, rfl⟩ (by decide +kernel) rfl ⟨by decide, by decide⟩ rfl (Nat.le_of_ble_eq_true rfl) dL_law_1230 ?_
    refine lx_S (S' := (k + 1, Mc, T9.2, o)) rfl ?_
    refine lx_istore (lv' := [(6, iV (T9.1)), (5, iV 1), (0, .ref b), (1, .ref (adC 26)), (2, .ref (adM 14)), (3, .ref ao), (4, iV i)]) cx dL_law_1233 (by decide) rfl ?_
    refine lx_aload_n cx 4 dL_law_1235 rfl rfl ?_
    refine lx_callM (As := []) (n := 0) (st := []) cx (kX6_thrown l adM T9.2 _ rfl) (by show k + 1 ≤ 512; omega) gL_law_X6_thrown rfl ⟨rfl, rfl⟩ (by decide +kernel) rfl ⟨by decide, by decide⟩ rfl (Nat.le_of_ble_eq_true rfl) dL_law_1236 ?_
    refine lx_S (S' := (k + 1, Mc, T9.2, o)) rfl ?_
    refine lx_iload cx 1 dL_law_1239 rfl ?_
    refine lx_icmp_eq cx 1246 dL_law_1241 (by decide) (by rw [hth]; exact ⟨by decide, by decide⟩) ⟨by decide, by decide⟩ (fun c => ?_) (fun c => absurd hth c)
    refine lx_iload cx 1 dL_law_1246 rfl ?_
    refine lx_if_ne cx 1263 dL_law_1248 (by decide) ⟨by decide, by decide⟩ (fun c => absurd c (by decide)) (fun c => ?_)
    refine lx_goto cx 1527 dL_law_1263 (by decide) ?_
    refine lx_lv cx [2, 3, 4, 5, 6] rfl ?_
    exact J _ _ _ _ rfl hrel
set_option maxRecDepth 100000 in
set_option maxHeartbeats 4000000 in
theorem lc_bubble {Rel : Mem → Mem → Prop} (F : Fc_bubble Rel) (l : Launch) (hl : l.stackTraces = false) (adC adM : Nat → Nat) (ao b L : Nat) (xs : Nat → Int32) (G : LSt → Nat → List (Nat × Value) → List Value → Prop) (cx : CL adC adM ao RL cL_law 7 wsL_law room_1 l (fun _ => True) (some (b, L, xs)) 512 (fun z _ => z = 1) G) (hL : L < 2147483648) (k : Nat) (Mc Mm : Mem) (o : Nat → Int64) (i : Int) (hk : k < 512) (hi : 0 ≤ i) (hi2 : i + 2 < (L : Int)) (hR : Rel Mc Mm) (J : ∀ (k2 : Nat) (Mc2 Mm2 : Mem) (o2 : Nat → Int64), k2 = k + 1 → Rel Mc2 Mm2 → G (k2, Mc2, Mm2, o2) 1527 [(0, .ref b), (1, .ref (adC 26)), (2, .ref (adM 14)), (3, .ref ao), (4, iV i)] []) : G (k, Mc, Mm, o) 1266 [(0, .ref b), (1, .ref (adC 26)), (2, .ref (adM 14)), (3, .ref ao), (4, iV i)] [] := by
  obtain ⟨T, T9, hT, hT9, hc, hth, hv0, hrel⟩ := F Mc Mm (xs (i + 1).toNat).toInt (xs (i + 2).toNat).toInt hR (zi_inR _) (zi_inR _)
  have hh := hL_bubble l hl adC adM ao (k, Mc, Mm, o) (xs (i + 1).toNat).toInt (xs (i + 2).toNat).toInt T hT hc
  rcases hc with h0 | h0 | h0
  · have hz : (if T.1 = 0 then (0 : Int) else if T.1 = 1 then 1 else 2) = 0 := by rw [h0]; rfl
    rw [hz] at hth hh
    have hv := (hv0 h0)
    rw [if_pos h0] at hh
    refine lx_aload_n cx 1 dL_law_1266 rfl rfl ?_
    refine lx_aload_n cx 0 dL_law_1267 rfl rfl ?_
    refine lx_iload cx 4 dL_law_1268 rfl ?_
    refine lx_iconst cx dL_law_1270 ?_
    refine lx_iadd cx dL_law_1271 ?_
    refine lx_sld cx rfl hL ⟨by omega, by omega⟩ dL_law_1272 ?_
    refine lx_aload_n cx 0 dL_law_1273 rfl rfl ?_
    refine lx_iload cx 4 dL_law_1274 rfl ?_
    refine lx_iconst cx dL_law_1276 ?_
    refine lx_iadd cx dL_law_1277 ?_
    refine lx_sld cx rfl hL ⟨by omega, by omega⟩ dL_law_1278 ?_
    refine lx_aload_n cx 3 dL_law_1279 rfl rfl ?_
    refine lx_callH (As := [.ref (adC 26), iV (xs (i + 1).toNat).toInt, iV (xs (i + 2).toNat).toInt, .ref ao]) (n := 4) (st := []) cx hh (by show k + 1 ≤ 512; omega) gL_law_L_bubble rfl ⟨rfl, rfl⟩ (by decide +kernel) rfl ⟨by decide, by decide⟩ rfl (Nat.le_of_ble_eq_true rfl) dL_law_1280 ?_
    refine lx_S (S' := (k + 1, T.2.2, Mm, (vp_updL o 0 (Int32.ofInt T.2.1).toInt64))) rfl ?_
    refine lx_istore (lv' := [(5, iV 0), (0, .ref b), (1, .ref (adC 26)), (2, .ref (adM 14)), (3, .ref ao), (4, iV i)]) cx dL_law_1283 (by decide) rfl ?_
    refine lx_aload_n cx 3 dL_law_1285 rfl rfl ?_
    refine lx_aload_n cx 1 dL_law_1286 rfl rfl ?_
    refine lx_iload cx 5 dL_law_1287 rfl ?_
    refine lx_iconst cx dL_law_1289 ?_
    refine lx_iadd cx dL_law_1290 ?_
    refine lx_sld cx rfl hL ⟨by omega, by omega⟩ dL_law_1291 ?_
    refine lx_aload_n cx 1 dL_law_1292 rfl rfl ?_
    refine lx_iload cx 5 dL_law_1293 rfl ?_
    refine lx_iconst cx dL_law_1295 ?_
    refine lx_iadd cx dL_law_1296 ?_
    refine lx_sld cx rfl hL ⟨by omega, by omega⟩ dL_law_1297 ?_
    refine lx_callM (As := [iV (xs (i + 1).toNat).toInt, iV (xs (i + 2).toNat).toInt]) (n := 2) (st := []) cx (kX6_bubble l adM Mm (xs (i + 1).toNat).toInt (xs (i + 2).toNat).toInt _ hT9) (by show k + 1 ≤ 512; omega) gL_law_X6_bubble rfl ⟨rfl, rfl⟩ (by decide +kernel) rfl ⟨by decide, by decide⟩ rfl (Nat.le_of_ble_eq_true rfl) dL_law_1298 ?_
    refine lx_S (S' := (k + 1, T.2.2, T9.2, (vp_updL o 0 (Int32.ofInt T.2.1).toInt64))) rfl ?_
    refine lx_istore (lv' := [(6, iV (T9.1)), (5, iV 0), (0, .ref b), (1, .ref (adC 26)), (2, .ref (adM 14)), (3, .ref ao), (4, iV i)]) cx dL_law_1301 (by decide) rfl ?_
    refine lx_aload_n cx 4 dL_law_1303 rfl rfl ?_
    refine lx_callM (As := []) (n := 0) (st := []) cx (kX6_thrown l adM T9.2 _ rfl) (by show k + 1 ≤ 512; omega) gL_law_X6_thrown rfl ⟨rfl, rfl⟩ (by decide +kernel) rfl ⟨by decide, by decide⟩ rfl (Nat.le_of_ble_eq_true rfl) dL_law_1304 ?_
    refine lx_S (S' := (k + 1, T.2.2, T9.2, (vp_updL o 0 (Int32.ofInt T.2.1).toInt64))) rfl ?_
    refine lx_iload cx 1 dL_law_1307 rfl ?_
    refine lx_icmp_eq cx 1314 dL_law_1309 (by decide) (by rw [hth]; exact ⟨by decide, by decide⟩) ⟨by decide, by decide⟩ (fun c => ?_) (fun c => absurd hth c)
    refine lx_iload cx 1 dL_law_1314 rfl ?_
    refine lx_if_ne cx 1331 dL_law_1316 (by decide) ⟨by decide, by decide⟩ (fun c => ?_) (fun c => absurd rfl c)
    refine lx_aload_n cx 5 dL_law_1319 rfl rfl ?_
    refine lx_iconst cx dL_law_1320 ?_
    refine lx_lald cx dL_law_1321 ?_
    refine lx_topl (x' := (Int32.ofInt T.2.1).toInt64) rfl ?_
    refine lx_iload cx 0 dL_law_1322 rfl ?_
    refine lx_i2l cx dL_law_1324 ?_
    refine lx_lcmp cx dL_law_1325 ?_
    refine lx_if_eq cx 1331 dL_law_1326 (by decide) (zlcmp_R _ _) (fun c => ?_) (fun c => absurd (by first | exact zlcmp_eq hv | exact zlcmp_eq (by rw [hv]) | exact zlcmp_eq rfl) c)
    refine lx_goto cx 1527 dL_law_1331 (by decide) ?_
    refine lx_lv cx [2, 3, 4, 5, 6] rfl ?_
    exact J _ _ _ _ rfl hrel
  · have hz : (if T.1 = 0 then (0 : Int) else if T.1 = 1 then 1 else 2) = 1 := by rw [h0]; rfl
    rw [hz] at hth hh
    rw [if_neg (by rw [h0]; decide)] at hh
    refine lx_aload_n cx 1 dL_law_1266 rfl rfl ?_
    refine lx_aload_n cx 0 dL_law_1267 rfl rfl ?_
    refine lx_iload cx 4 dL_law_1268 rfl ?_
    refine lx_iconst cx dL_law_1270 ?_
    refine lx_iadd cx dL_law_1271 ?_
    refine lx_sld cx rfl hL ⟨by omega, by omega⟩ dL_law_1272 ?_
    refine lx_aload_n cx 0 dL_law_1273 rfl rfl ?_
    refine lx_iload cx 4 dL_law_1274 rfl ?_
    refine lx_iconst cx dL_law_1276 ?_
    refine lx_iadd cx dL_law_1277 ?_
    refine lx_sld cx rfl hL ⟨by omega, by omega⟩ dL_law_1278 ?_
    refine lx_aload_n cx 3 dL_law_1279 rfl rfl ?_
    refine lx_callH (As := [.ref (adC 26), iV (xs (i + 1).toNat).toInt, iV (xs (i + 2).toNat).toInt, .ref ao]) (n := 4) (st := []) cx hh (by show k + 1 ≤ 512; omega) gL_law_L_bubble rfl ⟨rfl, rfl⟩ (by decide +kernel) rfl ⟨by decide, by decide⟩ rfl (Nat.le_of_ble_eq_true rfl) dL_law_1280 ?_
    refine lx_S (S' := (k + 1, T.2.2, Mm, o)) rfl ?_
    refine lx_istore (lv' := [(5, iV 1), (0, .ref b), (1, .ref (adC 26)), (2, .ref (adM 14)), (3, .ref ao), (4, iV i)]) cx dL_law_1283 (by decide) rfl ?_
    refine lx_aload_n cx 3 dL_law_1285 rfl rfl ?_
    refine lx_aload_n cx 1 dL_law_1286 rfl rfl ?_
    refine lx_iload cx 5 dL_law_1287 rfl ?_
    refine lx_iconst cx dL_law_1289 ?_
    refine lx_iadd cx dL_law_1290 ?_
    refine lx_sld cx rfl hL ⟨by omega, by omega⟩ dL_law_1291 ?_
    refine lx_aload_n cx 1 dL_law_1292 rfl rfl ?_
    refine lx_iload cx 5 dL_law_1293 rfl ?_
    refine lx_iconst cx dL_law_1295 ?_
    refine lx_iadd cx dL_law_1296 ?_
    refine lx_sld cx rfl hL ⟨by omega, by omega⟩ dL_law_1297 ?_
    refine lx_callM (As := [iV (xs (i + 1).toNat).toInt, iV (xs (i + 2).toNat).toInt]) (n := 2) (st := []) cx (kX6_bubble l adM Mm (xs (i + 1).toNat).toInt (xs (i + 2).toNat).toInt _ hT9) (by show k + 1 ≤ 512; omega) gL_law_X6_bubble rfl ⟨rfl, rfl⟩ (by decide +kernel) rfl ⟨by decide, by decide⟩ rfl (Nat.le_of_ble_eq_true rfl) dL_law_1298 ?_
    refine lx_S (S' := (k + 1, T.2.2, T9.2, o)) rfl ?_
    refine lx_istore (lv' := [(6, iV (T9.1)), (5, iV 1), (0, .ref b), (1, .ref (adC 26)), (2, .ref (adM 14)), (3, .ref ao), (4, iV i)]) cx dL_law_1301 (by decide) rfl ?_
    refine lx_aload_n cx 4 dL_law_1303 rfl rfl ?_
    refine lx_callM (As := []) (n := 0) (st := []) cx (kX6_thrown l adM T9.2 _ rfl) (by show k + 1 ≤ 512; omega) gL_law_X6_thrown rfl ⟨rfl, rfl⟩ (by decide +kernel) rfl ⟨by decide, by decide⟩ rfl (Nat.le_of_ble_eq_true rfl) dL_law_1304 ?_
    refine lx_S (S' := (k + 1, T.2.2, T9.2, o)) rfl ?_
    refine lx_iload cx 1 dL_law_1307 rfl ?_
    refine lx_icmp_eq cx 1314 dL_law_1309 (by decide) (by rw [hth]; exact ⟨by decide, by decide⟩) ⟨by decide, by decide⟩ (fun c => ?_) (fun c => absurd hth c)
    refine lx_iload cx 1 dL_law_1314 rfl ?_
    refine lx_if_ne cx 1331 dL_law_1316 (by decide) ⟨by decide, by decide⟩ (fun c => absurd c (by decide)) (fun c => ?_)
    refine lx_goto cx 1527 dL_law_1331 (by decide) ?_
    refine lx_lv cx [2, 3, 4, 5, 6] rfl ?_
    exact J _ _ _ _ rfl hrel
  · have hz : (if T.1 = 0 then (0 : Int) else if T.1 = 1 then 1 else 2) = 2 := by rw [h0]; rfl
    rw [hz] at hth hh
    rw [if_neg (by rw [h0]; decide)] at hh
    refine lx_aload_n cx 1 dL_law_1266 rfl rfl ?_
    refine lx_aload_n cx 0 dL_law_1267 rfl rfl ?_
    refine lx_iload cx 4 dL_law_1268 rfl ?_
    refine lx_iconst cx dL_law_1270 ?_
    refine lx_iadd cx dL_law_1271 ?_
    refine lx_sld cx rfl hL ⟨by omega, by omega⟩ dL_law_1272 ?_
    refine lx_aload_n cx 0 dL_law_1273 rfl rfl ?_
    refine lx_iload cx 4 dL_law_1274 rfl ?_
    refine lx_iconst cx dL_law_1276 ?_
    refine lx_iadd cx dL_law_1277 ?_
    refine lx_sld cx rfl hL ⟨by omega, by omega⟩ dL_law_1278 ?_
    refine lx_aload_n cx 3 dL_law_1279 rfl rfl ?_
    refine lx_callH (As := [.ref (adC 26), iV (xs (i + 1).toNat).toInt, iV (xs (i + 2).toNat).toInt, .ref ao]) (n := 4) (st := []) cx hh (by show k + 1 ≤ 512; omega) gL_law_L_bubble rfl ⟨rfl, rfl⟩ (by decide +kernel) rfl ⟨by decide, by decide⟩ rfl (Nat.le_of_ble_eq_true rfl) dL_law_1280 ?_
    refine lx_S (S' := (k + 1, T.2.2, Mm, o)) rfl ?_
    refine lx_istore (lv' := [(5, iV 2), (0, .ref b), (1, .ref (adC 26)), (2, .ref (adM 14)), (3, .ref ao), (4, iV i)]) cx dL_law_1283 (by decide) rfl ?_
    refine lx_aload_n cx 3 dL_law_1285 rfl rfl ?_
    refine lx_aload_n cx 1 dL_law_1286 rfl rfl ?_
    refine lx_iload cx 5 dL_law_1287 rfl ?_
    refine lx_iconst cx dL_law_1289 ?_
    refine lx_iadd cx dL_law_1290 ?_
    refine lx_sld cx rfl hL ⟨by omega, by omega⟩ dL_law_1291 ?_
    refine lx_aload_n cx 1 dL_law_1292 rfl rfl ?_
    refine lx_iload cx 5 dL_law_1293 rfl ?_
    refine lx_iconst cx dL_law_1295 ?_
    refine lx_iadd cx dL_law_1296 ?_
    refine lx_sld cx rfl hL ⟨by omega, by omega⟩ dL_law_1297 ?_
    refine lx_callM (As := [iV (xs (i + 1).toNat).toInt, iV (xs (i + 2).toNat).toInt]) (n := 2) (st := []) cx (kX6_bubble l adM Mm (xs (i + 1).toNat).toInt (xs (i + 2).toNat).toInt _ hT9) (by show k + 1 ≤ 512; omega) gL_law_X6_bubble rfl ⟨rfl, rfl⟩ (by decide +kernel) rfl ⟨by decide, by decide⟩ rfl (Nat.le_of_ble_eq_true rfl) dL_law_1298 ?_
    refine lx_S (S' := (k + 1, T.2.2, T9.2, o)) rfl ?_
    refine lx_istore (lv' := [(6, iV (T9.1)), (5, iV 2), (0, .ref b), (1, .ref (adC 26)), (2, .ref (adM 14)), (3, .ref ao), (4, iV i)]) cx dL_law_1301 (by decide) rfl ?_
    refine lx_aload_n cx 4 dL_law_1303 rfl rfl ?_
    refine lx_callM (As := []) (n := 0) (st := []) cx (kX6_thrown l adM T9.2 _ rfl) (by show k + 1 ≤ 512; omega) gL_law_X6_thrown rfl ⟨rfl, rfl⟩ (by decide +kernel) rfl ⟨by decide, by decide⟩ rfl (Nat.le_of_ble_eq_true rfl) dL_law_1304 ?_
    refine lx_S (S' := (k + 1, T.2.2, T9.2, o)) rfl ?_
    refine lx_iload cx 1 dL_law_1307 rfl ?_
    refine lx_icmp_eq cx 1314 dL_law_1309 (by decide) (by rw [hth]; exact ⟨by decide, by decide⟩) ⟨by decide, by decide⟩ (fun c => ?_) (fun c => absurd hth c)
    refine lx_iload cx 1 dL_law_1314 rfl ?_
    refine lx_if_ne cx 1331 dL_law_1316 (by decide) ⟨by decide, by decide⟩ (fun c => absurd c (by decide)) (fun c => ?_)
    refine lx_goto cx 1527 dL_law_1331 (by decide) ?_
    refine lx_lv cx [2, 3, 4, 5, 6] rfl ?_
    exact J _ _ _ _ rfl hrel
set_option maxRecDepth 100000 in
set_option maxHeartbeats 4000000 in
theorem lc_wall {Rel : Mem → Mem → Prop} (F : Fc_wall Rel) (l : Launch) (hl : l.stackTraces = false) (adC adM : Nat → Nat) (ao b L : Nat) (xs : Nat → Int32) (G : LSt → Nat → List (Nat × Value) → List Value → Prop) (cx : CL adC adM ao RL cL_law 7 wsL_law room_1 l (fun _ => True) (some (b, L, xs)) 512 (fun z _ => z = 1) G) (hL : L < 2147483648) (k : Nat) (Mc Mm : Mem) (o : Nat → Int64) (i : Int) (hk : k < 512) (hi : 0 ≤ i) (hi2 : i + 2 < (L : Int)) (hR : Rel Mc Mm) (J : ∀ (k2 : Nat) (Mc2 Mm2 : Mem) (o2 : Nat → Int64), k2 = k + 1 → Rel Mc2 Mm2 → G (k2, Mc2, Mm2, o2) 1527 [(0, .ref b), (1, .ref (adC 26)), (2, .ref (adM 14)), (3, .ref ao), (4, iV i)] []) : G (k, Mc, Mm, o) 1334 [(0, .ref b), (1, .ref (adC 26)), (2, .ref (adM 14)), (3, .ref ao), (4, iV i)] [] := by
  obtain ⟨T, T9, hT, hT9, hc, hth, hv0, hrel⟩ := F Mc Mm (xs (i + 1).toNat).toInt (xs (i + 2).toNat).toInt hR (zi_inR _) (zi_inR _)
  have hh := hL_wall l hl adC adM ao (k, Mc, Mm, o) (xs (i + 1).toNat).toInt (xs (i + 2).toNat).toInt T hT hc
  rcases hc with h0 | h0
  · have hz : (if T.1 = 0 then (0 : Int) else 1) = 0 := by rw [h0]; rfl
    rw [hz] at hth hh
    have hv := (hv0 h0)
    rw [if_pos h0] at hh
    refine lx_aload_n cx 1 dL_law_1334 rfl rfl ?_
    refine lx_aload_n cx 0 dL_law_1335 rfl rfl ?_
    refine lx_iload cx 4 dL_law_1336 rfl ?_
    refine lx_iconst cx dL_law_1338 ?_
    refine lx_iadd cx dL_law_1339 ?_
    refine lx_sld cx rfl hL ⟨by omega, by omega⟩ dL_law_1340 ?_
    refine lx_aload_n cx 0 dL_law_1341 rfl rfl ?_
    refine lx_iload cx 4 dL_law_1342 rfl ?_
    refine lx_iconst cx dL_law_1344 ?_
    refine lx_iadd cx dL_law_1345 ?_
    refine lx_sld cx rfl hL ⟨by omega, by omega⟩ dL_law_1346 ?_
    refine lx_aload_n cx 3 dL_law_1347 rfl rfl ?_
    refine lx_callH (As := [.ref (adC 26), iV (xs (i + 1).toNat).toInt, iV (xs (i + 2).toNat).toInt, .ref ao]) (n := 4) (st := []) cx hh (by show k + 1 ≤ 512; omega) gL_law_L_wall rfl ⟨rfl, rfl⟩ (by decide +kernel) rfl ⟨by decide, by decide⟩ rfl (Nat.le_of_ble_eq_true rfl) dL_law_1348 ?_
    refine lx_S (S' := (k + 1, Mc, Mm, (vp_updL o 0 (Int32.ofInt T.2.1).toInt64))) rfl ?_
    refine lx_istore (lv' := [(5, iV 0), (0, .ref b), (1, .ref (adC 26)), (2, .ref (adM 14)), (3, .ref ao), (4, iV i)]) cx dL_law_1351 (by decide) rfl ?_
    refine lx_aload_n cx 3 dL_law_1353 rfl rfl ?_
    refine lx_aload_n cx 1 dL_law_1354 rfl rfl ?_
    refine lx_iload cx 5 dL_law_1355 rfl ?_
    refine lx_iconst cx dL_law_1357 ?_
    refine lx_iadd cx dL_law_1358 ?_
    refine lx_sld cx rfl hL ⟨by omega, by omega⟩ dL_law_1359 ?_
    refine lx_aload_n cx 1 dL_law_1360 rfl rfl ?_
    refine lx_iload cx 5 dL_law_1361 rfl ?_
    refine lx_iconst cx dL_law_1363 ?_
    refine lx_iadd cx dL_law_1364 ?_
    refine lx_sld cx rfl hL ⟨by omega, by omega⟩ dL_law_1365 ?_
    refine lx_callM (As := [iV (xs (i + 1).toNat).toInt, iV (xs (i + 2).toNat).toInt]) (n := 2) (st := []) cx (kX6_wall l adM Mm (xs (i + 1).toNat).toInt (xs (i + 2).toNat).toInt _ hT9) (by show k + 1 ≤ 512; omega) gL_law_X6_wall rfl ⟨rfl, rfl⟩ (by decide +kernel) rfl ⟨by decide, by decide⟩ rfl (Nat.le_of_ble_eq_true rfl) dL_law_1366 ?_
    refine lx_S (S' := (k + 1, Mc, T9.2, (vp_updL o 0 (Int32.ofInt T.2.1).toInt64))) rfl ?_
    refine lx_istore (lv' := [(6, iV (T9.1)), (5, iV 0), (0, .ref b), (1, .ref (adC 26)), (2, .ref (adM 14)), (3, .ref ao), (4, iV i)]) cx dL_law_1369 (by decide) rfl ?_
    refine lx_aload_n cx 4 dL_law_1371 rfl rfl ?_
    refine lx_callM (As := []) (n := 0) (st := []) cx (kX6_thrown l adM T9.2 _ rfl) (by show k + 1 ≤ 512; omega) gL_law_X6_thrown rfl ⟨rfl, rfl⟩ (by decide +kernel) rfl ⟨by decide, by decide⟩ rfl (Nat.le_of_ble_eq_true rfl) dL_law_1372 ?_
    refine lx_S (S' := (k + 1, Mc, T9.2, (vp_updL o 0 (Int32.ofInt T.2.1).toInt64))) rfl ?_
    refine lx_iload cx 1 dL_law_1375 rfl ?_
    refine lx_icmp_eq cx 1382 dL_law_1377 (by decide) (by rw [hth]; exact ⟨by decide, by decide⟩) ⟨by decide, by decide⟩ (fun c => ?_) (fun c => absurd hth c)
    refine lx_iload cx 1 dL_law_1382 rfl ?_
    refine lx_if_ne cx 1399 dL_law_1384 (by decide) ⟨by decide, by decide⟩ (fun c => ?_) (fun c => absurd rfl c)
    refine lx_aload_n cx 5 dL_law_1387 rfl rfl ?_
    refine lx_iconst cx dL_law_1388 ?_
    refine lx_lald cx dL_law_1389 ?_
    refine lx_topl (x' := (Int32.ofInt T.2.1).toInt64) rfl ?_
    refine lx_iload cx 0 dL_law_1390 rfl ?_
    refine lx_i2l cx dL_law_1392 ?_
    refine lx_lcmp cx dL_law_1393 ?_
    refine lx_if_eq cx 1399 dL_law_1394 (by decide) (zlcmp_R _ _) (fun c => ?_) (fun c => absurd (by first | exact zlcmp_eq hv | exact zlcmp_eq (by rw [hv]) | exact zlcmp_eq rfl) c)
    refine lx_goto cx 1527 dL_law_1399 (by decide) ?_
    refine lx_lv cx [2, 3, 4, 5, 6] rfl ?_
    exact J _ _ _ _ rfl hrel
  · have hz : (if T.1 = 0 then (0 : Int) else 1) = 1 := by rw [h0]; rfl
    rw [hz] at hth hh
    rw [if_neg (by rw [h0]; decide)] at hh
    refine lx_aload_n cx 1 dL_law_1334 rfl rfl ?_
    refine lx_aload_n cx 0 dL_law_1335 rfl rfl ?_
    refine lx_iload cx 4 dL_law_1336 rfl ?_
    refine lx_iconst cx dL_law_1338 ?_
    refine lx_iadd cx dL_law_1339 ?_
    refine lx_sld cx rfl hL ⟨by omega, by omega⟩ dL_law_1340 ?_
    refine lx_aload_n cx 0 dL_law_1341 rfl rfl ?_
    refine lx_iload cx 4 dL_law_1342 rfl ?_
    refine lx_iconst cx dL_law_1344 ?_
    refine lx_iadd cx dL_law_1345 ?_
    refine lx_sld cx rfl hL ⟨by omega, by omega⟩ dL_law_1346 ?_
    refine lx_aload_n cx 3 dL_law_1347 rfl rfl ?_
    refine lx_callH (As := [.ref (adC 26), iV (xs (i + 1).toNat).toInt, iV (xs (i + 2).toNat).toInt, .ref ao]) (n := 4) (st := []) cx hh (by show k + 1 ≤ 512; omega) gL_law_L_wall rfl ⟨rfl, rfl⟩ (by decide +kernel) rfl ⟨by decide, by decide⟩ rfl (Nat.le_of_ble_eq_true rfl) dL_law_1348 ?_
    refine lx_S (S' := (k + 1, Mc, Mm, o)) rfl ?_
    refine lx_istore (lv' := [(5, iV 1), (0, .ref b), (1, .ref (adC 26)), (2, .ref (adM 14)), (3, .ref ao), (4, iV i)]) cx dL_law_1351 (by decide) rfl ?_
    refine lx_aload_n cx 3 dL_law_1353 rfl rfl ?_
    refine lx_aload_n cx 1 dL_law_1354 rfl rfl ?_
    refine lx_iload cx 5 dL_law_1355 rfl ?_
    refine lx_iconst cx dL_law_1357 ?_
    refine lx_iadd cx dL_law_1358 ?_
    refine lx_sld cx rfl hL ⟨by omega, by omega⟩ dL_law_1359 ?_
    refine lx_aload_n cx 1 dL_law_1360 rfl rfl ?_
    refine lx_iload cx 5 dL_law_1361 rfl ?_
    refine lx_iconst cx dL_law_1363 ?_
    refine lx_iadd cx dL_law_1364 ?_
    refine lx_sld cx rfl hL ⟨by omega, by omega⟩ dL_law_1365 ?_
    refine lx_callM (As := [iV (xs (i + 1).toNat).toInt, iV (xs (i + 2).toNat).toInt]) (n := 2) (st := []) cx (kX6_wall l adM Mm (xs (i + 1).toNat).toInt (xs (i + 2).toNat).toInt _ hT9) (by show k + 1 ≤ 512; omega) gL_law_X6_wall rfl ⟨rfl, rfl⟩ (by decide +kernel) rfl ⟨by decide, by decide⟩ rfl (Nat.le_of_ble_eq_true rfl) dL_law_1366 ?_
    refine lx_S (S' := (k + 1, Mc, T9.2, o)) rfl ?_
    refine lx_istore (lv' := [(6, iV (T9.1)), (5, iV 1), (0, .ref b), (1, .ref (adC 26)), (2, .ref (adM 14)), (3, .ref ao), (4, iV i)]) cx dL_law_1369 (by decide) rfl ?_
    refine lx_aload_n cx 4 dL_law_1371 rfl rfl ?_
    refine lx_callM (As := []) (n := 0) (st := []) cx (kX6_thrown l adM T9.2 _ rfl) (by show k + 1 ≤ 512; omega) gL_law_X6_thrown rfl ⟨rfl, rfl⟩ (by decide +kernel) rfl ⟨by decide, by decide⟩ rfl (Nat.le_of_ble_eq_true rfl) dL_law_1372 ?_
    refine lx_S (S' := (k + 1, Mc, T9.2, o)) rfl ?_
    refine lx_iload cx 1 dL_law_1375 rfl ?_
    refine lx_icmp_eq cx 1382 dL_law_1377 (by decide) (by rw [hth]; exact ⟨by decide, by decide⟩) ⟨by decide, by decide⟩ (fun c => ?_) (fun c => absurd hth c)
    refine lx_iload cx 1 dL_law_1382 rfl ?_
    refine lx_if_ne cx 1399 dL_law_1384 (by decide) ⟨by decide, by decide⟩ (fun c => absurd c (by decide)) (fun c => ?_)
    refine lx_goto cx 1527 dL_law_1399 (by decide) ?_
    refine lx_lv cx [2, 3, 4, 5, 6] rfl ?_
    exact J _ _ _ _ rfl hrel
set_option maxRecDepth 100000 in
set_option maxHeartbeats 4000000 in
theorem lc_corners {Rel : Mem → Mem → Prop} (F : Fc_corners Rel) (l : Launch) (hl : l.stackTraces = false) (adC adM : Nat → Nat) (ao b L : Nat) (xs : Nat → Int32) (G : LSt → Nat → List (Nat × Value) → List Value → Prop) (cx : CL adC adM ao RL cL_law 7 wsL_law room_1 l (fun _ => True) (some (b, L, xs)) 512 (fun z _ => z = 1) G) (hL : L < 2147483648) (k : Nat) (Mc Mm : Mem) (o : Nat → Int64) (i : Int) (hk : k < 512) (hi : 0 ≤ i) (hi2 : i + 2 < (L : Int)) (hR : Rel Mc Mm) (J : ∀ (k2 : Nat) (Mc2 Mm2 : Mem) (o2 : Nat → Int64), k2 = k + 1 → Rel Mc2 Mm2 → G (k2, Mc2, Mm2, o2) 1527 [(0, .ref b), (1, .ref (adC 26)), (2, .ref (adM 14)), (3, .ref ao), (4, iV i)] []) : G (k, Mc, Mm, o) 1402 [(0, .ref b), (1, .ref (adC 26)), (2, .ref (adM 14)), (3, .ref ao), (4, iV i)] [] := by
  obtain ⟨T, T9, hT, hT9, hc, hth, hv0, hrel⟩ := F Mc Mm (xs (i + 1).toNat).toInt hR (zi_inR _)
  have hh := hL_corners l hl adC adM ao (k, Mc, Mm, o) (xs (i + 1).toNat).toInt T hT hc
  rcases hc with h0 | h0
  · have hz : (if T.1 = 0 then (0 : Int) else 1) = 0 := by rw [h0]; rfl
    rw [hz] at hth hh
    have hv := (hv0 h0)
    rw [if_pos h0] at hh
    refine lx_aload_n cx 1 dL_law_1402 rfl rfl ?_
    refine lx_aload_n cx 0 dL_law_1403 rfl rfl ?_
    refine lx_iload cx 4 dL_law_1404 rfl ?_
    refine lx_iconst cx dL_law_1406 ?_
    refine lx_iadd cx dL_law_1407 ?_
    refine lx_sld cx rfl hL ⟨by omega, by omega⟩ dL_law_1408 ?_
    refine lx_aload_n cx 3 dL_law_1409 rfl rfl ?_
    refine lx_callH (As := [.ref (adC 26), iV (xs (i + 1).toNat).toInt, .ref ao]) (n := 3) (st := []) cx hh (by show k + 1 ≤ 512; omega) gL_law_L_corners rfl ⟨rfl, rfl⟩ (by decide +kernel) rfl ⟨by decide, by decide⟩ rfl (Nat.le_of_ble_eq_true rfl) dL_law_1410 ?_
    refine lx_S (S' := (k + 1, Mc, Mm, (vp_updL o 0 (Int32.ofInt T.2.1).toInt64))) rfl ?_
    refine lx_istore (lv' := [(5, iV 0), (0, .ref b), (1, .ref (adC 26)), (2, .ref (adM 14)), (3, .ref ao), (4, iV i)]) cx dL_law_1413 (by decide) rfl ?_
    refine lx_aload_n cx 3 dL_law_1415 rfl rfl ?_
    refine lx_aload_n cx 1 dL_law_1416 rfl rfl ?_
    refine lx_iload cx 5 dL_law_1417 rfl ?_
    refine lx_iconst cx dL_law_1419 ?_
    refine lx_iadd cx dL_law_1420 ?_
    refine lx_sld cx rfl hL ⟨by omega, by omega⟩ dL_law_1421 ?_
    refine lx_callM (As := [iV (xs (i + 1).toNat).toInt]) (n := 1) (st := []) cx (kX6_corners l adM Mm (xs (i + 1).toNat).toInt _ hT9) (by show k + 1 ≤ 512; omega) gL_law_X6_corners rfl ⟨rfl, rfl⟩ (by decide +kernel) rfl ⟨by decide, by decide⟩ rfl (Nat.le_of_ble_eq_true rfl) dL_law_1422 ?_
    refine lx_S (S' := (k + 1, Mc, T9.2, (vp_updL o 0 (Int32.ofInt T.2.1).toInt64))) rfl ?_
    refine lx_istore (lv' := [(6, iV (T9.1)), (5, iV 0), (0, .ref b), (1, .ref (adC 26)), (2, .ref (adM 14)), (3, .ref ao), (4, iV i)]) cx dL_law_1425 (by decide) rfl ?_
    refine lx_aload_n cx 4 dL_law_1427 rfl rfl ?_
    refine lx_callM (As := []) (n := 0) (st := []) cx (kX6_thrown l adM T9.2 _ rfl) (by show k + 1 ≤ 512; omega) gL_law_X6_thrown rfl ⟨rfl, rfl⟩ (by decide +kernel) rfl ⟨by decide, by decide⟩ rfl (Nat.le_of_ble_eq_true rfl) dL_law_1428 ?_
    refine lx_S (S' := (k + 1, Mc, T9.2, (vp_updL o 0 (Int32.ofInt T.2.1).toInt64))) rfl ?_
    refine lx_iload cx 1 dL_law_1431 rfl ?_
    refine lx_icmp_eq cx 1438 dL_law_1433 (by decide) (by rw [hth]; exact ⟨by decide, by decide⟩) ⟨by decide, by decide⟩ (fun c => ?_) (fun c => absurd hth c)
    refine lx_iload cx 1 dL_law_1438 rfl ?_
    refine lx_if_ne cx 1455 dL_law_1440 (by decide) ⟨by decide, by decide⟩ (fun c => ?_) (fun c => absurd rfl c)
    refine lx_aload_n cx 5 dL_law_1443 rfl rfl ?_
    refine lx_iconst cx dL_law_1444 ?_
    refine lx_lald cx dL_law_1445 ?_
    refine lx_topl (x' := (Int32.ofInt T.2.1).toInt64) rfl ?_
    refine lx_iload cx 0 dL_law_1446 rfl ?_
    refine lx_i2l cx dL_law_1448 ?_
    refine lx_lcmp cx dL_law_1449 ?_
    refine lx_if_eq cx 1455 dL_law_1450 (by decide) (zlcmp_R _ _) (fun c => ?_) (fun c => absurd (by first | exact zlcmp_eq hv | exact zlcmp_eq (by rw [hv]) | exact zlcmp_eq rfl) c)
    refine lx_goto cx 1527 dL_law_1455 (by decide) ?_
    refine lx_lv cx [2, 3, 4, 5, 6] rfl ?_
    exact J _ _ _ _ rfl hrel
  · have hz : (if T.1 = 0 then (0 : Int) else 1) = 1 := by rw [h0]; rfl
    rw [hz] at hth hh
    rw [if_neg (by rw [h0]; decide)] at hh
    refine lx_aload_n cx 1 dL_law_1402 rfl rfl ?_
    refine lx_aload_n cx 0 dL_law_1403 rfl rfl ?_
    refine lx_iload cx 4 dL_law_1404 rfl ?_
    refine lx_iconst cx dL_law_1406 ?_
    refine lx_iadd cx dL_law_1407 ?_
    refine lx_sld cx rfl hL ⟨by omega, by omega⟩ dL_law_1408 ?_
    refine lx_aload_n cx 3 dL_law_1409 rfl rfl ?_
    refine lx_callH (As := [.ref (adC 26), iV (xs (i + 1).toNat).toInt, .ref ao]) (n := 3) (st := []) cx hh (by show k + 1 ≤ 512; omega) gL_law_L_corners rfl ⟨rfl, rfl⟩ (by decide +kernel) rfl ⟨by decide, by decide⟩ rfl (Nat.le_of_ble_eq_true rfl) dL_law_1410 ?_
    refine lx_S (S' := (k + 1, Mc, Mm, o)) rfl ?_
    refine lx_istore (lv' := [(5, iV 1), (0, .ref b), (1, .ref (adC 26)), (2, .ref (adM 14)), (3, .ref ao), (4, iV i)]) cx dL_law_1413 (by decide) rfl ?_
    refine lx_aload_n cx 3 dL_law_1415 rfl rfl ?_
    refine lx_aload_n cx 1 dL_law_1416 rfl rfl ?_
    refine lx_iload cx 5 dL_law_1417 rfl ?_
    refine lx_iconst cx dL_law_1419 ?_
    refine lx_iadd cx dL_law_1420 ?_
    refine lx_sld cx rfl hL ⟨by omega, by omega⟩ dL_law_1421 ?_
    refine lx_callM (As := [iV (xs (i + 1).toNat).toInt]) (n := 1) (st := []) cx (kX6_corners l adM Mm (xs (i + 1).toNat).toInt _ hT9) (by show k + 1 ≤ 512; omega) gL_law_X6_corners rfl ⟨rfl, rfl⟩ (by decide +kernel) rfl ⟨by decide, by decide⟩ rfl (Nat.le_of_ble_eq_true rfl) dL_law_1422 ?_
    refine lx_S (S' := (k + 1, Mc, T9.2, o)) rfl ?_
    refine lx_istore (lv' := [(6, iV (T9.1)), (5, iV 1), (0, .ref b), (1, .ref (adC 26)), (2, .ref (adM 14)), (3, .ref ao), (4, iV i)]) cx dL_law_1425 (by decide) rfl ?_
    refine lx_aload_n cx 4 dL_law_1427 rfl rfl ?_
    refine lx_callM (As := []) (n := 0) (st := []) cx (kX6_thrown l adM T9.2 _ rfl) (by show k + 1 ≤ 512; omega) gL_law_X6_thrown rfl ⟨rfl, rfl⟩ (by decide +kernel) rfl ⟨by decide, by decide⟩ rfl (Nat.le_of_ble_eq_true rfl) dL_law_1428 ?_
    refine lx_S (S' := (k + 1, Mc, T9.2, o)) rfl ?_
    refine lx_iload cx 1 dL_law_1431 rfl ?_
    refine lx_icmp_eq cx 1438 dL_law_1433 (by decide) (by rw [hth]; exact ⟨by decide, by decide⟩) ⟨by decide, by decide⟩ (fun c => ?_) (fun c => absurd hth c)
    refine lx_iload cx 1 dL_law_1438 rfl ?_
    refine lx_if_ne cx 1455 dL_law_1440 (by decide) ⟨by decide, by decide⟩ (fun c => absurd c (by decide)) (fun c => ?_)
    refine lx_goto cx 1527 dL_law_1455 (by decide) ?_
    refine lx_lv cx [2, 3, 4, 5, 6] rfl ?_
    exact J _ _ _ _ rfl hrel
set_option maxRecDepth 100000 in
set_option maxHeartbeats 4000000 in
theorem lc_rests {Rel : Mem → Mem → Prop} (F : Fc_rests Rel) (l : Launch) (hl : l.stackTraces = false) (adC adM : Nat → Nat) (ao b L : Nat) (xs : Nat → Int32) (G : LSt → Nat → List (Nat × Value) → List Value → Prop) (cx : CL adC adM ao RL cL_law 7 wsL_law room_1 l (fun _ => True) (some (b, L, xs)) 512 (fun z _ => z = 1) G) (hL : L < 2147483648) (k : Nat) (Mc Mm : Mem) (o : Nat → Int64) (i : Int) (hk : k < 512) (hi : 0 ≤ i) (hi2 : i + 2 < (L : Int)) (hR : Rel Mc Mm) (J : ∀ (k2 : Nat) (Mc2 Mm2 : Mem) (o2 : Nat → Int64), k2 = k + 1 → Rel Mc2 Mm2 → G (k2, Mc2, Mm2, o2) 1527 [(0, .ref b), (1, .ref (adC 26)), (2, .ref (adM 14)), (3, .ref ao), (4, iV i)] []) : G (k, Mc, Mm, o) 1458 [(0, .ref b), (1, .ref (adC 26)), (2, .ref (adM 14)), (3, .ref ao), (4, iV i)] [] := by
  obtain ⟨T, T9, hT, hT9, hv, hrg, hrel⟩ := F Mc Mm  hR 
  refine lx_aload_n cx 1 dL_law_1458 rfl rfl ?_
  refine lx_callC (As := []) (n := 0) (st := []) cx (kX5_rests l adC Mc  _ hT) (by show k ≤ 512; omega) gL_law_X5_rests rfl ⟨rfl, rfl⟩ (by decide +kernel) rfl ⟨by decide, by decide⟩ rfl (Nat.le_of_ble_eq_true rfl) dL_law_1459 ?_
  refine lx_S (S' := (k, T.2, Mm, o)) rfl ?_
  refine lx_aload_n cx 2 dL_law_1462 rfl rfl ?_
  refine lx_callM (As := []) (n := 0) (st := [iV (T.1)]) cx (kX6_rests l adM Mm  _ hT9) (by show k ≤ 512; omega) gL_law_X6_rests rfl ⟨rfl, rfl⟩ (by decide +kernel) rfl ⟨by decide, by decide⟩ rfl (Nat.le_of_ble_eq_true rfl) dL_law_1463 ?_
  refine lx_S (S' := (k, T.2, T9.2, o)) rfl ?_
  refine lx_icmp_eq cx 1527 dL_law_1466 (by decide) (by rw [hv]; exact hrg) hrg (fun c => ?_) (fun c => absurd hv c)
  refine lx_widen cx ?_
  exact J _ _ _ _ rfl hrel
set_option maxRecDepth 100000 in
set_option maxHeartbeats 4000000 in
theorem lc_energy {Rel : Mem → Mem → Prop} (F : Fc_energy Rel) (l : Launch) (hl : l.stackTraces = false) (adC adM : Nat → Nat) (ao b L : Nat) (xs : Nat → Int32) (G : LSt → Nat → List (Nat × Value) → List Value → Prop) (cx : CL adC adM ao RL cL_law 7 wsL_law room_1 l (fun _ => True) (some (b, L, xs)) 512 (fun z _ => z = 1) G) (hL : L < 2147483648) (k : Nat) (Mc Mm : Mem) (o : Nat → Int64) (i : Int) (hk : k < 512) (hi : 0 ≤ i) (hi2 : i + 2 < (L : Int)) (hR : Rel Mc Mm) (J : ∀ (k2 : Nat) (Mc2 Mm2 : Mem) (o2 : Nat → Int64), k2 = k + 1 → Rel Mc2 Mm2 → G (k2, Mc2, Mm2, o2) 1527 [(0, .ref b), (1, .ref (adC 26)), (2, .ref (adM 14)), (3, .ref ao), (4, iV i)] []) : G (k, Mc, Mm, o) 1471 [(0, .ref b), (1, .ref (adC 26)), (2, .ref (adM 14)), (3, .ref ao), (4, iV i)] [] := by
  obtain ⟨T, T9, hT, hT9, hc, hth, hv0, hrel⟩ := F Mc Mm (xs (i + 1).toNat).toInt hR (zi_inR _)
  have hh := hL_energy l hl adC adM ao (k, Mc, Mm, o) (xs (i + 1).toNat).toInt T hT hc
  rcases hc with h0 | h0
  · have hz : (if T.1 = 0 then (0 : Int) else 1) = 0 := by rw [h0]; rfl
    rw [hz] at hth hh
    have hv := (hv0 h0)
    rw [if_pos h0] at hh
    refine lx_aload_n cx 1 dL_law_1471 rfl rfl ?_
    refine lx_aload_n cx 0 dL_law_1472 rfl rfl ?_
    refine lx_iload cx 4 dL_law_1473 rfl ?_
    refine lx_iconst cx dL_law_1475 ?_
    refine lx_iadd cx dL_law_1476 ?_
    refine lx_sld cx rfl hL ⟨by omega, by omega⟩ dL_law_1477 ?_
    refine lx_aload_n cx 3 dL_law_1478 rfl rfl ?_
    refine lx_callH (As := [.ref (adC 26), iV (xs (i + 1).toNat).toInt, .ref ao]) (n := 3) (st := []) cx hh (by show k + 1 ≤ 512; omega) gL_law_L_energy rfl ⟨rfl, rfl⟩ (by decide +kernel) rfl ⟨by decide, by decide⟩ rfl (Nat.le_of_ble_eq_true rfl) dL_law_1479 ?_
    refine lx_S (S' := (k + 1, T.2.2, Mm, (vp_updL o 0 (Int32.ofInt T.2.1).toInt64))) rfl ?_
    refine lx_istore (lv' := [(5, iV 0), (0, .ref b), (1, .ref (adC 26)), (2, .ref (adM 14)), (3, .ref ao), (4, iV i)]) cx dL_law_1482 (by decide) rfl ?_
    refine lx_aload_n cx 3 dL_law_1484 rfl rfl ?_
    refine lx_aload_n cx 1 dL_law_1485 rfl rfl ?_
    refine lx_iload cx 5 dL_law_1486 rfl ?_
    refine lx_iconst cx dL_law_1488 ?_
    refine lx_iadd cx dL_law_1489 ?_
    refine lx_sld cx rfl hL ⟨by omega, by omega⟩ dL_law_1490 ?_
    refine lx_callM (As := [iV (xs (i + 1).toNat).toInt]) (n := 1) (st := []) cx (kX6_energy l adM Mm (xs (i + 1).toNat).toInt _ hT9) (by show k + 1 ≤ 512; omega) gL_law_X6_energy rfl ⟨rfl, rfl⟩ (by decide +kernel) rfl ⟨by decide, by decide⟩ rfl (Nat.le_of_ble_eq_true rfl) dL_law_1491 ?_
    refine lx_S (S' := (k + 1, T.2.2, T9.2, (vp_updL o 0 (Int32.ofInt T.2.1).toInt64))) rfl ?_
    refine lx_istore (lv' := [(6, iV (T9.1)), (5, iV 0), (0, .ref b), (1, .ref (adC 26)), (2, .ref (adM 14)), (3, .ref ao), (4, iV i)]) cx dL_law_1494 (by decide) rfl ?_
    refine lx_aload_n cx 4 dL_law_1496 rfl rfl ?_
    refine lx_callM (As := []) (n := 0) (st := []) cx (kX6_thrown l adM T9.2 _ rfl) (by show k + 1 ≤ 512; omega) gL_law_X6_thrown rfl ⟨rfl, rfl⟩ (by decide +kernel) rfl ⟨by decide, by decide⟩ rfl (Nat.le_of_ble_eq_true rfl) dL_law_1497 ?_
    refine lx_S (S' := (k + 1, T.2.2, T9.2, (vp_updL o 0 (Int32.ofInt T.2.1).toInt64))) rfl ?_
    refine lx_iload cx 1 dL_law_1500 rfl ?_
    refine lx_icmp_eq cx 1507 dL_law_1502 (by decide) (by rw [hth]; exact ⟨by decide, by decide⟩) ⟨by decide, by decide⟩ (fun c => ?_) (fun c => absurd hth c)
    refine lx_iload cx 1 dL_law_1507 rfl ?_
    refine lx_if_ne cx 1524 dL_law_1509 (by decide) ⟨by decide, by decide⟩ (fun c => ?_) (fun c => absurd rfl c)
    refine lx_aload_n cx 5 dL_law_1512 rfl rfl ?_
    refine lx_iconst cx dL_law_1513 ?_
    refine lx_lald cx dL_law_1514 ?_
    refine lx_topl (x' := (Int32.ofInt T.2.1).toInt64) rfl ?_
    refine lx_iload cx 0 dL_law_1515 rfl ?_
    refine lx_i2l cx dL_law_1517 ?_
    refine lx_lcmp cx dL_law_1518 ?_
    refine lx_if_eq cx 1524 dL_law_1519 (by decide) (zlcmp_R _ _) (fun c => ?_) (fun c => absurd (by first | exact zlcmp_eq hv | exact zlcmp_eq (by rw [hv]) | exact zlcmp_eq rfl) c)
    refine lx_goto cx 1527 dL_law_1524 (by decide) ?_
    refine lx_lv cx [2, 3, 4, 5, 6] rfl ?_
    exact J _ _ _ _ rfl hrel
  · have hz : (if T.1 = 0 then (0 : Int) else 1) = 1 := by rw [h0]; rfl
    rw [hz] at hth hh
    rw [if_neg (by rw [h0]; decide)] at hh
    refine lx_aload_n cx 1 dL_law_1471 rfl rfl ?_
    refine lx_aload_n cx 0 dL_law_1472 rfl rfl ?_
    refine lx_iload cx 4 dL_law_1473 rfl ?_
    refine lx_iconst cx dL_law_1475 ?_
    refine lx_iadd cx dL_law_1476 ?_
    refine lx_sld cx rfl hL ⟨by omega, by omega⟩ dL_law_1477 ?_
    refine lx_aload_n cx 3 dL_law_1478 rfl rfl ?_
    refine lx_callH (As := [.ref (adC 26), iV (xs (i + 1).toNat).toInt, .ref ao]) (n := 3) (st := []) cx hh (by show k + 1 ≤ 512; omega) gL_law_L_energy rfl ⟨rfl, rfl⟩ (by decide +kernel) rfl ⟨by decide, by decide⟩ rfl (Nat.le_of_ble_eq_true rfl) dL_law_1479 ?_
    refine lx_S (S' := (k + 1, T.2.2, Mm, o)) rfl ?_
    refine lx_istore (lv' := [(5, iV 1), (0, .ref b), (1, .ref (adC 26)), (2, .ref (adM 14)), (3, .ref ao), (4, iV i)]) cx dL_law_1482 (by decide) rfl ?_
    refine lx_aload_n cx 3 dL_law_1484 rfl rfl ?_
    refine lx_aload_n cx 1 dL_law_1485 rfl rfl ?_
    refine lx_iload cx 5 dL_law_1486 rfl ?_
    refine lx_iconst cx dL_law_1488 ?_
    refine lx_iadd cx dL_law_1489 ?_
    refine lx_sld cx rfl hL ⟨by omega, by omega⟩ dL_law_1490 ?_
    refine lx_callM (As := [iV (xs (i + 1).toNat).toInt]) (n := 1) (st := []) cx (kX6_energy l adM Mm (xs (i + 1).toNat).toInt _ hT9) (by show k + 1 ≤ 512; omega) gL_law_X6_energy rfl ⟨rfl, rfl⟩ (by decide +kernel) rfl ⟨by decide, by decide⟩ rfl (Nat.le_of_ble_eq_true rfl) dL_law_1491 ?_
    refine lx_S (S' := (k + 1, T.2.2, T9.2, o)) rfl ?_
    refine lx_istore (lv' := [(6, iV (T9.1)), (5, iV 1), (0, .ref b), (1, .ref (adC 26)), (2, .ref (adM 14)), (3, .ref ao), (4, iV i)]) cx dL_law_1494 (by decide) rfl ?_
    refine lx_aload_n cx 4 dL_law_1496 rfl rfl ?_
    refine lx_callM (As := []) (n := 0) (st := []) cx (kX6_thrown l adM T9.2 _ rfl) (by show k + 1 ≤ 512; omega) gL_law_X6_thrown rfl ⟨rfl, rfl⟩ (by decide +kernel) rfl ⟨by decide, by decide⟩ rfl (Nat.le_of_ble_eq_true rfl) dL_law_1497 ?_
    refine lx_S (S' := (k + 1, T.2.2, T9.2, o)) rfl ?_
    refine lx_iload cx 1 dL_law_1500 rfl ?_
    refine lx_icmp_eq cx 1507 dL_law_1502 (by decide) (by rw [hth]; exact ⟨by decide, by decide⟩) ⟨by decide, by decide⟩ (fun c => ?_) (fun c => absurd hth c)
    refine lx_iload cx 1 dL_law_1507 rfl ?_
    refine lx_if_ne cx 1524 dL_law_1509 (by decide) ⟨by decide, by decide⟩ (fun c => absurd c (by decide)) (fun c => ?_)
    refine lx_goto cx 1527 dL_law_1524 (by decide) ?_
    refine lx_lv cx [2, 3, 4, 5, 6] rfl ?_
    exact J _ _ _ _ rfl hrel
