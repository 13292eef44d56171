theorem hi_lw_X0 : ∀ x ∈ u_ws RX0 TX0 4, x ∈ lw_tbl := by decide +kernel
theorem hi_lw_X1 : ∀ x ∈ u_ws RX1 TX1 7, x ∈ lw_tbl := by decide +kernel
theorem hi_lw_X2 : ∀ x ∈ u_ws RX2 TX2 7, x ∈ lw_tbl := by decide +kernel
theorem hi_lw_X3 : ∀ x ∈ u_ws RX3 TX3 7, x ∈ lw_tbl := by decide +kernel
theorem hi_lw_X4 : ∀ x ∈ u_ws RX4 TX4 2, x ∈ lw_tbl := by decide +kernel
theorem hi_lw_X5 : ∀ x ∈ u_ws RX5 TX5 5, x ∈ lw_tbl := by decide +kernel
theorem hi_lw_X6 : ∀ x ∈ u_ws RX6 TX6 19, x ∈ lw_tbl := by decide +kernel
theorem lw_BW : ∀ w ∈ BW, w ∈ lw_tbl := by decide +kernel
theorem lw_SL : ∀ q ∈ SL, Cond.stringRef RX5 q.1 q.2 ∈ lw_tbl := by decide +kernel
theorem ad_all {A : Nat → Prop} {cI cZ cL : ClassId} {adC adM : Nat → Nat} {ao : Nat} {o : Nat → Int64} {MC MM : Mem} (hD : va_D A (cellsOf wC cI cZ adC MC ++ (cellsOf wM cI cZ adM MM ++ outW cL ao o))) : adOK wC adC A ∧ adOK wM adM A ∧ A ao ∧ ladj adC adM ao := by
  have lC : (cellsOf wC cI cZ adC MC).length = 27 := cells_len
  have lM : (cellsOf wM cI cZ adM MM).length = 15 := cells_len
  have gC : ∀ i, i < 27 → (cellsOf wC cI cZ adC MC ++ (cellsOf wM cI cZ adM MM ++ outW cL ao o))[i]? = some (adC i, wcell wC cI cZ adC MC i) := fun i hi => by
    rw [List.getElem?_append_left (by rw [lC]; exact hi)]; exact cells_get hi
  have gM : ∀ j, j < 15 → (cellsOf wC cI cZ adC MC ++ (cellsOf wM cI cZ adM MM ++ outW cL ao o))[27 + j]? = some (adM j, wcell wM cI cZ adM MM j) := fun j hj => by
    rw [List.getElem?_append_right (by rw [lC]; omega), lC, Nat.add_sub_cancel_left, List.getElem?_append_left (by rw [lM]; exact hj)]; exact cells_get hj
  have gO : (cellsOf wC cI cZ adC MC ++ (cellsOf wM cI cZ adM MM ++ outW cL ao o))[42]? = some (ao, .inl (cL, 1, .inr (.inl o))) := by
    rw [List.getElem?_append_right (by rw [lC]; omega), lC, List.getElem?_append_right (by rw [lM]; omega), lM]; rfl
  refine ⟨⟨fun i j hi hj e => hD.1 i j _ _ (gC i hi) (gC j hj) e, fun k hk => hD.2 k _ (gC k hk)⟩, ⟨fun i j hi hj e => ?_, fun k hk => hD.2 (27 + k) _ (gM k hk)⟩, hD.2 42 _ gO, ⟨fun i j hi hj e => ?_, fun i hi e => ?_, fun j hj e => ?_⟩⟩
  · have := hD.1 (27 + i) (27 + j) _ _ (gM i hi) (gM j hj) e; omega
  · have h1 : i < 27 := hi
    have := hD.1 i (27 + j) _ _ (gC i hi) (gM j hj) e; omega
  · have h1 : i < 27 := hi
    have := hD.1 i 42 _ _ (gC i hi) gO e; omega
  · have h1 : j < 15 := hj
    have := hD.1 (27 + j) 42 _ _ (gM j hj) gO e; omega
theorem th_of {p : Program} {s : State} {m : MethodId} {meth : Method} {c : Code} {b L : Nat} {xs : Nat → Int32} (C0 : lw_At p s m meth c b L xs) : TH (fun q : Nat => s.heap.size ≤ q) s s.heap ∧ NCs s := by
  obtain ⟨hx, hb, hr, hml, hown, hts, hX, hbl, hlocks, hgv⟩ := id C0
  have hf := flat_of_before _ hgv
  have hn : ∀ a : Nat, a < s.heap.size → ¬ (fun q : Nat => s.heap.size ≤ q) a := fun a h => Nat.not_le.mpr h
  obtain ⟨c5, k5, hfc, -⟩ := Cond.instantiable_spec (hts (.instantiable RX5 5) (by decide +kernel))
  refine ⟨⟨vx_Zqof (hts (.laysStatic Bundle.tN "UNASSIGNED_STACK" Bundle.steD) (by decide +kernel)) (hts (.initialized Bundle.tN) (by decide +kernel)) (hf _ (by decide +kernel)) hn, vx_Zqof (hts (.laysStatic Bundle.tN "SUPPRESSED_SENTINEL" Bundle.listD) (by decide +kernel)) (hts (.initialized Bundle.tN) (by decide +kernel)) (hf _ (by decide +kernel)) hn, fun w hw => ?_, fun q hq => ?_⟩, va_Nc.of (hf _ (by decide +kernel)), va_Nc.of (hf _ (by decide +kernel))⟩
  · have h := hts w (lw_BW w hw)
    have ho : w.onTables = true := by
      simp only [BW, List.mem_cons, List.not_mem_nil, or_false] at hw
      rcases hw with rfl | rfl | rfl | rfl | rfl | rfl <;> rfl
    exact va_Nw.of ho h
  · have h := hts _ (lw_SL q hq)
    obtain ⟨-, -, -, sa, -, -, -, -, -, hev⟩ := Cond.stringRef_spec hfc h
    exact ⟨sa, vk_R.of h hev⟩
set_option maxRecDepth 100000 in
set_option maxHeartbeats 1600000 in
theorem start_open {Rel : Mem → Mem → Prop} (F : Facts Rel) (hR : Rel M0C M0M) {p : Program} {e : Env} {s : State} {m : MethodId} {below : List Frame} {meth : Method} {c : Code} (l : Launch) (hl0 : l.stackTraces = false) {b L : Nat} {xs : Nat → Int32} (hL : L ≤ 1536) (C0 : lw_At p s m meth c b L xs) : W p l e room_1 s m #[Value.ref b] below meth c s.heap [] 0 0 (lw_Z below #[Value.ref b] s) (entryFrame m ([Value.ref b] : List Value).toArray 7) := by
  obtain ⟨hx, hb, hr, hml, hown, hts, hX, hbl, hlocks, hgv⟩ := id C0
  have htL : ∀ w ∈ wsL_law, w.before #[Value.ref b] s = true := fun w h => hts w (wsL_law_in w h)
  have hb : c.code = cL_law := hb
  have hA : ∀ q : Nat, s.heap.size ≤ q → (fun q : Nat => s.heap.size ≤ q) q := fun _ h => h
  have hbA : ¬ (fun q : Nat => s.heap.size ≤ q) b := Nat.not_le.mpr hbl
  obtain ⟨hTH, hNC⟩ := th_of C0
  obtain ⟨k0, iS0, hKn0⟩ := u_known (C := RX0) (T := TX0) (N := 4) (n := 4) hts hi_lw_X0 (hts (.instantiable RX0 4) (by decide +kernel))
  obtain ⟨k1, iS1, hKn1⟩ := u_known (C := RX1) (T := TX1) (N := 7) (n := 7) hts hi_lw_X1 (hts (.instantiable RX1 7) (by decide +kernel))
  obtain ⟨k2, iS2, hKn2⟩ := u_known (C := RX2) (T := TX2) (N := 7) (n := 7) hts hi_lw_X2 (hts (.instantiable RX2 7) (by decide +kernel))
  obtain ⟨k3, iS3, hKn3⟩ := u_known (C := RX3) (T := TX3) (N := 7) (n := 7) hts hi_lw_X3 (hts (.instantiable RX3 7) (by decide +kernel))
  obtain ⟨k4, iS4, hKn4⟩ := u_known (C := RX4) (T := TX4) (N := 2) (n := 2) hts hi_lw_X4 (hts (.instantiable RX4 2) (by decide +kernel))
  obtain ⟨k5, iS5, hKn5⟩ := u_known (C := RX5) (T := TX5) (N := 5) (n := 5) hts hi_lw_X5 (hts (.instantiable RX5 5) (by decide +kernel))
  obtain ⟨k6, iS6, hKn6⟩ := u_known (C := RX6) (T := TX6) (N := 19) (n := 19) hts hi_lw_X6 (hts (.instantiable RX6 19) (by decide +kernel))
  obtain ⟨dC, dI, hKc⟩ : ∃ (dC : Nat → ClassId) (dI : Nat → Nat → Nat), ∀ (k : Nat) (q : vw_C), vwCl[k]? = some q → u_Kn s q.1 q.2.1 q.2.2 (dC k) (dI k) := by
    refine ⟨fun k => ([k0, k1, k2, k3, k4, k5, k6] : List ClassId).getD k k0, fun k => ([iS0, iS1, iS2, iS3, iS4, iS5, iS6] : List (Nat → Nat)).getD k iS0, ?_⟩
    intro k q hq
    match k, hq with
    | 0, hq => cases hq; exact hKn0
    | 1, hq => cases hq; exact hKn1
    | 2, hq => cases hq; exact hKn2
    | 3, hq => cases hq; exact hKn3
    | 4, hq => cases hq; exact hKn4
    | 5, hq => cases hq; exact hKn5
    | 6, hq => cases hq; exact hKn6
    | k + 7, hq => simp [vwCl] at hq
  have hS : va_S (fun q : Nat => s.heap.size ≤ q) s.heap s.heap [] := va_S.rf
  have hK : va_K (dC, dI) vwCl [] s := ⟨hKc, fun k q h => by simp at h⟩
  have hP : va_P (dC, dI) vwCl [] s.heap := fun k q h => by simp at h
  have hD : va_D (fun q : Nat => s.heap.size ≤ q) [] := ⟨fun i j p q h => by simp at h, fun k q h => by simp at h⟩
  have hl := lv_entry ([.ref b]) (n := 7) (Nat.le_of_ble_eq_true rfl)
  rw [lg_entry_eq]
  generalize (lg_sl ([.ref b]) ++ List.replicate (7 - (lg_sl ([.ref b])).length) Slot.unset).toArray = ls at hl ⊢
  have hl : lv_has ls 7 [(0, .ref b)] := hl
  have hN : nst5 s := ⟨va_Nw.of rfl (hts (.methodLinkNest RX5 18 yX4_init "PlateauBench") (by decide +kernel)), va_Nw.of rfl (hts (.methodLinkNest RX5 25 yX3_init "PlateauBench") (by decide +kernel)), va_Nw.of rfl (hts (.methodLinkNest RX5 32 yX0_init "PlateauBench") (by decide +kernel)), va_Nw.of rfl (hts (.methodLinkNest RX5 39 yX1_init "PlateauBench") (by decide +kernel))⟩
  refine va_new (ci := 5) (fs := [.null, .null, .null, .null, .null]) (C := RX5) (T := TX5) (N := 5) hx hb hts hi_lw_X5 tyX5 tyX5_ok hown (hts (.classLink RL 8 RX5) (by decide +kernel)) (hts (.instantiable RX5 5) (by decide +kernel)) (hts (.initialized RX5) (by decide +kernel)) hK hP hD hS hA rfl (fun j hj => by revert j; decide +kernel) (Nat.le_of_ble_eq_true rfl) (Nat.le_of_ble_eq_true rfl) dL_law_0 (fun a5 H hP hD hS => ?_)
  have hP : va_P (dC, dI) vwCl [(a5, .inr (5, [.null, .null, .null, .null, .null]))] H := hP
  have hD : va_D (fun q : Nat => s.heap.size ≤ q) [(a5, .inr (5, [.null, .null, .null, .null, .null]))] := hD
  refine lv_dup hx hb dL_law_3 rfl ?_
  have hPc := hP.sub (ws' := [(a5, .inr (5, [.null, .null, .null, .null, .null]))]) [0] rfl
  have hDc := hD.sub (ws' := [(a5, .inr (5, [.null, .null, .null, .null, .null]))]) [0] (by decide) rfl
  have hKc := hK.sub (tys' := []) [] rfl
  have hFc := va_free (wc := [(a5, .inr (5, [.null, .null, .null, .null, .null]))]) hD hS hA [0] rfl
  refine va_callv (va_runI (As := []) (rest := [.ref a5]) ⟨hx, hb, hml, hown, htL⟩ (iX5 l dC dI a5 H.size) (cwI 0 htL gL_law_X5_init rfl rfl rfl (hts (.initialized RX5) (by decide +kernel)) (hts (.methodLink RL 77 yX5_init) (by decide +kernel)) (hts (.instanceMethod yX5_init) (by decide +kernel)) rfl (by decide +kernel) ⟨(Nat.le_of_ble_eq_true rfl), (Nat.le_of_ble_eq_true rfl)⟩) ⟨fun a U g mk q => by obtain ⟨q0, q1, qP, qK, qD, qN⟩ := q; exact ⟨q0, q1, qP, va_K.moved (u := U) (U := U.calling g mk a) (Vm.Alike.refl U.vm) qK, qD, va_Nw.same rfl rfl qN.1, va_Nw.same rfl rfl qN.2.1, va_Nw.same rfl rfl qN.2.2.1, va_Nw.same rfl rfl qN.2.2.2⟩, fun U hU hW => ⟨rfl, by rw [hU], by rw [hU]; exact hPc, va_K.moved hW.alike hKc, hDc.weaken (fun _ _ _ _ => trivial), va_Nw.warmM hW hN.1, va_Nw.warmM hW hN.2.1, va_Nw.warmM hW hN.2.2.1, va_Nw.warmM hW hN.2.2.2⟩⟩ rfl rfl hl.1 rfl (lv_room (Nat.le_of_ble_eq_true rfl)) dL_law_4 ⟨(Nat.le_of_ble_eq_true rfl), (Nat.le_of_ble_eq_true rfl)⟩) hS (fun q _ h => hFc q h) hFc (fun v t H1 locs ht hvm hw hB hz1 hk1 hS => ?_)
  obtain ⟨hP1, hK1, hD1⟩ := hB
  rw [ht] at hP1
  have hK1 := va_K.moved hvm.symm hK1
  obtain ⟨hP, hD⟩ := va_join (wr := []) (w1 := wE5 a5 v) hP hD [0] [] rfl rfl (by decide) (by decide) hk1 hFc hP1 hD1
  have hK := hK.app hK1
  generalize H1 = H at hP hS ⊢
  have hP : va_P (dC, dI) vwCl (wE5 a5 v) H := hP
  have hD : va_D (fun q : Nat => s.heap.size ≤ q) (wE5 a5 v) := hD
  have hK : va_K (dC, dI) vwCl (tE5 v) s := hK
  clear hP1 hK1 hD1 hPc hDc hKc hFc hk1 hz1 hw
  refine lv_astore_n (lv' := [(1, .ref a5), (0, .ref b)]) hx hb dL_law_7 rfl hl (by decide) rfl (fun ls hl => ?_)
  refine va_new (ci := 6) (fs := [.int 0, .null, .null, .int 0, .null, .null, .null, .null, .int 0, .int 0, .null, .null, .null, .null, .null, .null, .null, .null, .int 0]) (C := RX6) (T := TX6) (N := 19) hx hb hts hi_lw_X6 tyX6 tyX6_ok hown (hts (.classLink RL 78 RX6) (by decide +kernel)) (hts (.instantiable RX6 19) (by decide +kernel)) (hts (.initialized RX6) (by decide +kernel)) hK hP hD hS hA rfl (fun j hj => by revert j; decide +kernel) (Nat.le_of_ble_eq_true rfl) (Nat.le_of_ble_eq_true rfl) dL_law_8 (fun a6 H hP hD hS => ?_)
  have hP : va_P (dC, dI) vwCl (wE5 a5 v ++ [(a6, .inr (6, [.int 0, .null, .null, .int 0, .null, .null, .null, .null, .int 0, .int 0, .null, .null, .null, .null, .null, .null, .null, .null, .int 0]))]) H := hP
  have hD : va_D (fun q : Nat => s.heap.size ≤ q) (wE5 a5 v ++ [(a6, .inr (6, [.int 0, .null, .null, .int 0, .null, .null, .null, .null, .int 0, .int 0, .null, .null, .null, .null, .null, .null, .null, .null, .int 0]))]) := hD
  refine lv_dup hx hb dL_law_11 rfl ?_
  have hPc := hP.sub (ws' := [(a6, .inr (6, [.int 0, .null, .null, .int 0, .null, .null, .null, .null, .int 0, .int 0, .null, .null, .null, .null, .null, .null, .null, .null, .int 0]))]) [27] rfl
  have hDc := hD.sub (ws' := [(a6, .inr (6, [.int 0, .null, .null, .int 0, .null, .null, .null, .null, .int 0, .int 0, .null, .null, .null, .null, .null, .null, .null, .null, .int 0]))]) [27] (by decide) rfl
  have hKc := hK.sub (tys' := []) [] rfl
  have hFc := va_free (wc := [(a6, .inr (6, [.int 0, .null, .null, .int 0, .null, .null, .null, .null, .int 0, .int 0, .null, .null, .null, .null, .null, .null, .null, .null, .int 0]))]) hD hS hA [27] rfl
  refine va_callv (va_runI (As := []) (rest := [.ref a6]) ⟨hx, hb, hml, hown, htL⟩ (iX6 l dC dI a6 H.size) (cwI 0 htL gL_law_X6_init rfl rfl rfl (hts (.initialized RX6) (by decide +kernel)) (hts (.methodLink RL 80 yX6_init) (by decide +kernel)) (hts (.instanceMethod yX6_init) (by decide +kernel)) rfl (by decide +kernel) ⟨(Nat.le_of_ble_eq_true rfl), (Nat.le_of_ble_eq_true rfl)⟩) ⟨fun a U g mk q => by obtain ⟨q0, q1, qP, qK, qD⟩ := q; exact ⟨q0, q1, qP, va_K.moved (u := U) (U := U.calling g mk a) (Vm.Alike.refl U.vm) qK, qD⟩, fun U hU hW => ⟨rfl, by rw [hU], by rw [hU]; exact hPc, va_K.moved hW.alike hKc, hDc.weaken (fun _ _ _ _ => trivial)⟩⟩ rfl rfl hl.1 rfl (lv_room (Nat.le_of_ble_eq_true rfl)) dL_law_12 ⟨(Nat.le_of_ble_eq_true rfl), (Nat.le_of_ble_eq_true rfl)⟩) hS (fun q _ h => hFc q h) hFc (fun w t H1 locs ht hvm hw hB hz1 hk1 hS => ?_)
  obtain ⟨hP1, hK1, hD1⟩ := hB
  rw [ht] at hP1
  have hK1 := va_K.moved hvm.symm hK1
  obtain ⟨hP, hD⟩ := va_join (wr := wE5 a5 v) (w1 := wEX6 a6 w) hP hD [27] [0, 1, 2, 3, 4, 5, 6, 7, 8, 9, 10, 11, 12, 13, 14, 15, 16, 17, 18, 19, 20, 21, 22, 23, 24, 25, 26] rfl rfl (by decide) (by decide) hk1 hFc hP1 hD1
  have hK := hK.app hK1
  generalize H1 = H at hP hS ⊢
  have hP : va_P (dC, dI) vwCl (wE5 a5 v ++ wEX6 a6 w) H := hP
  have hD : va_D (fun q : Nat => s.heap.size ≤ q) (wE5 a5 v ++ wEX6 a6 w) := hD
  have hK : va_K (dC, dI) vwCl (tE5 v ++ tEX6 w) s := hK
  clear hP1 hK1 hD1 hPc hDc hKc hFc hk1 hz1 hw
  refine lv_astore_n (lv' := [(2, .ref a6), (1, .ref a5), (0, .ref b)]) hx hb dL_law_15 rfl hl (by decide) rfl (fun ls hl => ?_)
  refine lv_iconst (v := 1) hx hb dL_law_16 (by decide) ?_
  refine va_newa (atype := .long) (ty := .long) (N' := 1) (a0 := (1, .inr (.inl (fun _ => 0)))) hx hb (hts (.arrayClass .long) (by decide +kernel)) rfl hK hP hD hS hA (fun _ => rfl) (by decide) rfl (by decide) (Nat.le_of_ble_eq_true rfl) (Nat.le_of_ble_eq_true rfl) dL_law_17 (fun ao cL H hK hP hD hS => ?_)
  refine lv_astore_n (lv' := [(3, .ref ao), (2, .ref a6), (1, .ref a5), (0, .ref b)]) hx hb dL_law_19 rfl hl (by decide) rfl (fun ls hl => ?_)
  refine lv_iconst (v := Int32.ofInt 0) hx hb dL_law_20 (by decide) ?_
  refine lv_istore (lv' := [(4, iV 0), (3, .ref ao), (2, .ref a6), (1, .ref a5), (0, .ref b)]) hx hb dL_law_21 hl (by decide) rfl (fun ls hl => ?_)
  have hl := lv_sub hl [4, 3, 2, 1, 0] rfl
  have hK : va_K (dC, dI) vwCl [((v.2 0).2.1, .int), ((v.2 1).2.1, .int), ((v.2 2).2.1, .int), ((v.2 3).2.1, .int), ((v.2 4).2.1, .int), ((v.2 4).2.2, .boolean), (w.2.1, .int), (w.2.2, .boolean), (cL, .long)] s := hK
  have e1 : (v.2 1).2.1 = (v.2 0).2.1 := va_K_same hK 1 0 rfl rfl (fun _ => rfl)
  have e2 : (v.2 2).2.1 = (v.2 0).2.1 := va_K_same hK 2 0 rfl rfl (fun _ => rfl)
  have e3 : (v.2 3).2.1 = (v.2 0).2.1 := va_K_same hK 3 0 rfl rfl (fun _ => rfl)
  have e4 : (v.2 4).2.1 = (v.2 0).2.1 := va_K_same hK 4 0 rfl rfl (fun _ => rfl)
  have e6 : w.2.1 = (v.2 0).2.1 := va_K_same hK 6 0 rfl rfl (fun _ => rfl)
  have e7 : w.2.2 = (v.2 4).2.2 := va_K_same hK 7 5 rfl rfl (fun _ => rfl)
  have hK := hK.sub (tys' := [((v.2 0).2.1, .int), ((v.2 4).2.2, .boolean), (cL, .long)]) [0, 5, 8] rfl
  have hP : va_P (dC, dI) vwCl [(a5, .inr (5, [.ref (v.1 0), .ref (v.1 1), .ref (v.1 2), .ref (v.1 3), .ref (v.1 4)])), ((v.1 0), .inr (2, [.ref ((v.2 0).1 0), .ref ((v.2 0).1 1), .ref ((v.2 0).1 2), .ref ((v.2 0).1 3), .ref ((v.2 0).1 4), .int 1, .int 1])), (((v.2 0).1 0), .inl ((v.2 0).2.1, 60, .inl (fun k => Int32.ofInt (gM2 0 k)))), (((v.2 0).1 1), .inl ((v.2 0).2.1, 60, .inl (fun k => Int32.ofInt (gM2 1 k)))), (((v.2 0).1 2), .inl ((v.2 0).2.1, 144, .inl (fun k => Int32.ofInt (gM2 2 k)))), (((v.2 0).1 3), .inl ((v.2 0).2.1, 60, .inl (fun k => Int32.ofInt (gM2 3 k)))), (((v.2 0).1 4), .inl ((v.2 0).2.1, 60, .inl (fun k => Int32.ofInt (gM2 4 k)))), ((v.1 1), .inr (4, [.ref ((v.2 1).1 0), .ref ((v.2 1).1 1)])), (((v.2 1).1 0), .inl ((v.2 1).2.1, 36, .inl (fun _ => 0))), (((v.2 1).1 1), .inl ((v.2 1).2.1, 60, .inl (fun _ => 0))), ((v.1 2), .inr (3, [.ref ((v.2 2).1 0), .int 0, .ref ((v.2 2).1 1), .int 0, .ref ((v.2 2).1 2), .ref ((v.2 2).1 3), .ref ((v.2 2).1 4)])), (((v.2 2).1 0), .inl ((v.2 2).2.1, 6, .inl (fun _ => 0))), (((v.2 2).1 1), .inl ((v.2 2).2.1, 2304, .inl (fun _ => 0))), (((v.2 2).1 2), .inl ((v.2 2).2.1, 216, .inl (fun _ => 0))), (((v.2 2).1 3), .inl ((v.2 2).2.1, 36, .inl (fun _ => 0))), (((v.2 2).1 4), .inl ((v.2 2).2.1, 6, .inl (fun _ => 0))), ((v.1 3), .inr (0, [.ref ((v.2 3).1 0), .ref ((v.2 3).1 1), .ref ((v.2 3).1 2), .ref ((v.2 3).1 3)])), (((v.2 3).1 0), .inl ((v.2 3).2.1, 36, .inl (fun _ => 0))), (((v.2 3).1 1), .inl ((v.2 3).2.1, 60, .inl (fun _ => 0))), (((v.2 3).1 2), .inl ((v.2 3).2.1, 36, .inl (fun _ => 0))), (((v.2 3).1 3), .inl ((v.2 3).2.1, 36, .inl (fun _ => 0))), ((v.1 4), .inr (1, [.ref ((v.2 4).1 0), .ref ((v.2 4).1 1), .ref ((v.2 4).1 2), .ref ((v.2 4).1 3), .ref ((v.2 4).1 4), .int 0, .int 0])), (((v.2 4).1 0), .inl ((v.2 4).2.1, 36, .inl (fun _ => 0))), (((v.2 4).1 1), .inl ((v.2 4).2.1, 36, .inl (fun _ => 0))), (((v.2 4).1 2), .inl ((v.2 4).2.2, 8, .inl (fun _ => 0))), (((v.2 4).1 3), .inl ((v.2 4).2.2, 36, .inl (fun _ => 0))), (((v.2 4).1 4), .inl ((v.2 4).2.1, 36, .inl (fun _ => 0))), (a6, .inr (6, [.int 0, .ref (w.1 0), .ref (w.1 1), .int 0, .ref (w.1 2), .ref (w.1 3), .ref (w.1 4), .ref (w.1 5), .int 0, .int 0, .ref (w.1 6), .ref (w.1 7), .ref (w.1 8), .ref (w.1 9), .ref (w.1 10), .ref (w.1 11), .ref (w.1 12), .ref (w.1 13), .int (-1)])), ((w.1 0), .inl (w.2.1, 2, .inl (upd (upd (fun _ => 0) 0 1) 1 1))), ((w.1 1), .inl (w.2.1, 60, .inl (fun _ => 0))), ((w.1 2), .inl (w.2.1, 6, .inl (fun _ => 0))), ((w.1 3), .inl (w.2.1, 36, .inl (fun _ => 0))), ((w.1 4), .inl (w.2.1, 36, .inl (fun _ => 0))), ((w.1 5), .inl (w.2.2, 8, .inl (fun _ => 0))), ((w.1 6), .inl (w.2.1, 36, .inl (fun _ => 0))), ((w.1 7), .inl (w.2.1, 7, .inl (fun _ => 0))), ((w.1 8), .inl (w.2.1, 4608, .inl (fun _ => 0))), ((w.1 9), .inl (w.2.1, 60, .inl (fun _ => 0))), ((w.1 10), .inl (w.2.1, 36, .inl (fun _ => 0))), ((w.1 11), .inl (w.2.2, 36, .inl (fun _ => 0))), ((w.1 12), .inl (w.2.1, 36, .inl (fun _ => 0))), ((w.1 13), .inl (w.2.1, 36, .inl (fun _ => 0))), (ao, .inl (cL, 1, .inr (.inl (fun _ => 0))))] H := hP
  have hD : va_D (fun q : Nat => s.heap.size ≤ q) [(a5, .inr (5, [.ref (v.1 0), .ref (v.1 1), .ref (v.1 2), .ref (v.1 3), .ref (v.1 4)])), ((v.1 0), .inr (2, [.ref ((v.2 0).1 0), .ref ((v.2 0).1 1), .ref ((v.2 0).1 2), .ref ((v.2 0).1 3), .ref ((v.2 0).1 4), .int 1, .int 1])), (((v.2 0).1 0), .inl ((v.2 0).2.1, 60, .inl (fun k => Int32.ofInt (gM2 0 k)))), (((v.2 0).1 1), .inl ((v.2 0).2.1, 60, .inl (fun k => Int32.ofInt (gM2 1 k)))), (((v.2 0).1 2), .inl ((v.2 0).2.1, 144, .inl (fun k => Int32.ofInt (gM2 2 k)))), (((v.2 0).1 3), .inl ((v.2 0).2.1, 60, .inl (fun k => Int32.ofInt (gM2 3 k)))), (((v.2 0).1 4), .inl ((v.2 0).2.1, 60, .inl (fun k => Int32.ofInt (gM2 4 k)))), ((v.1 1), .inr (4, [.ref ((v.2 1).1 0), .ref ((v.2 1).1 1)])), (((v.2 1).1 0), .inl ((v.2 1).2.1, 36, .inl (fun _ => 0))), (((v.2 1).1 1), .inl ((v.2 1).2.1, 60, .inl (fun _ => 0))), ((v.1 2), .inr (3, [.ref ((v.2 2).1 0), .int 0, .ref ((v.2 2).1 1), .int 0, .ref ((v.2 2).1 2), .ref ((v.2 2).1 3), .ref ((v.2 2).1 4)])), (((v.2 2).1 0), .inl ((v.2 2).2.1, 6, .inl (fun _ => 0))), (((v.2 2).1 1), .inl ((v.2 2).2.1, 2304, .inl (fun _ => 0))), (((v.2 2).1 2), .inl ((v.2 2).2.1, 216, .inl (fun _ => 0))), (((v.2 2).1 3), .inl ((v.2 2).2.1, 36, .inl (fun _ => 0))), (((v.2 2).1 4), .inl ((v.2 2).2.1, 6, .inl (fun _ => 0))), ((v.1 3), .inr (0, [.ref ((v.2 3).1 0), .ref ((v.2 3).1 1), .ref ((v.2 3).1 2), .ref ((v.2 3).1 3)])), (((v.2 3).1 0), .inl ((v.2 3).2.1, 36, .inl (fun _ => 0))), (((v.2 3).1 1), .inl ((v.2 3).2.1, 60, .inl (fun _ => 0))), (((v.2 3).1 2), .inl ((v.2 3).2.1, 36, .inl (fun _ => 0))), (((v.2 3).1 3), .inl ((v.2 3).2.1, 36, .inl (fun _ => 0))), ((v.1 4), .inr (1, [.ref ((v.2 4).1 0), .ref ((v.2 4).1 1), .ref ((v.2 4).1 2), .ref ((v.2 4).1 3), .ref ((v.2 4).1 4), .int 0, .int 0])), (((v.2 4).1 0), .inl ((v.2 4).2.1, 36, .inl (fun _ => 0))), (((v.2 4).1 1), .inl ((v.2 4).2.1, 36, .inl (fun _ => 0))), (((v.2 4).1 2), .inl ((v.2 4).2.2, 8, .inl (fun _ => 0))), (((v.2 4).1 3), .inl ((v.2 4).2.2, 36, .inl (fun _ => 0))), (((v.2 4).1 4), .inl ((v.2 4).2.1, 36, .inl (fun _ => 0))), (a6, .inr (6, [.int 0, .ref (w.1 0), .ref (w.1 1), .int 0, .ref (w.1 2), .ref (w.1 3), .ref (w.1 4), .ref (w.1 5), .int 0, .int 0, .ref (w.1 6), .ref (w.1 7), .ref (w.1 8), .ref (w.1 9), .ref (w.1 10), .ref (w.1 11), .ref (w.1 12), .ref (w.1 13), .int (-1)])), ((w.1 0), .inl (w.2.1, 2, .inl (upd (upd (fun _ => 0) 0 1) 1 1))), ((w.1 1), .inl (w.2.1, 60, .inl (fun _ => 0))), ((w.1 2), .inl (w.2.1, 6, .inl (fun _ => 0))), ((w.1 3), .inl (w.2.1, 36, .inl (fun _ => 0))), ((w.1 4), .inl (w.2.1, 36, .inl (fun _ => 0))), ((w.1 5), .inl (w.2.2, 8, .inl (fun _ => 0))), ((w.1 6), .inl (w.2.1, 36, .inl (fun _ => 0))), ((w.1 7), .inl (w.2.1, 7, .inl (fun _ => 0))), ((w.1 8), .inl (w.2.1, 4608, .inl (fun _ => 0))), ((w.1 9), .inl (w.2.1, 60, .inl (fun _ => 0))), ((w.1 10), .inl (w.2.1, 36, .inl (fun _ => 0))), ((w.1 11), .inl (w.2.2, 36, .inl (fun _ => 0))), ((w.1 12), .inl (w.2.1, 36, .inl (fun _ => 0))), ((w.1 13), .inl (w.2.1, 36, .inl (fun _ => 0))), (ao, .inl (cL, 1, .inr (.inl (fun _ => 0))))] := hD
  have m0 : (upd (upd (fun _ => 0) 0 1) 1 1 : Nat → Int32) = fun j => Int32.ofInt (M0M 0 j) := by unfold M0M; rw [wr_upd, wr_upd]; rfl
  rw [e1, e2, e3, e4, e6, e7, m0] at hP hD
  have hPC := hP.sub (ws' := [(((v.2 0).1 0), .inl ((v.2 0).2.1, 60, .inl (fun k => Int32.ofInt (gM2 0 k)))), (((v.2 0).1 1), .inl ((v.2 0).2.1, 60, .inl (fun k => Int32.ofInt (gM2 1 k)))), (((v.2 0).1 2), .inl ((v.2 0).2.1, 144, .inl (fun k => Int32.ofInt (gM2 2 k)))), (((v.2 0).1 3), .inl ((v.2 0).2.1, 60, .inl (fun k => Int32.ofInt (gM2 3 k)))), (((v.2 0).1 4), .inl ((v.2 0).2.1, 60, .inl (fun k => Int32.ofInt (gM2 4 k)))), (((v.2 1).1 0), .inl ((v.2 0).2.1, 36, .inl (fun _ => 0))), (((v.2 1).1 1), .inl ((v.2 0).2.1, 60, .inl (fun _ => 0))), (((v.2 2).1 0), .inl ((v.2 0).2.1, 6, .inl (fun _ => 0))), (((v.2 2).1 1), .inl ((v.2 0).2.1, 2304, .inl (fun _ => 0))), (((v.2 2).1 2), .inl ((v.2 0).2.1, 216, .inl (fun _ => 0))), (((v.2 2).1 3), .inl ((v.2 0).2.1, 36, .inl (fun _ => 0))), (((v.2 2).1 4), .inl ((v.2 0).2.1, 6, .inl (fun _ => 0))), (((v.2 3).1 0), .inl ((v.2 0).2.1, 36, .inl (fun _ => 0))), (((v.2 3).1 1), .inl ((v.2 0).2.1, 60, .inl (fun _ => 0))), (((v.2 3).1 2), .inl ((v.2 0).2.1, 36, .inl (fun _ => 0))), (((v.2 3).1 3), .inl ((v.2 0).2.1, 36, .inl (fun _ => 0))), (((v.2 4).1 0), .inl ((v.2 0).2.1, 36, .inl (fun _ => 0))), (((v.2 4).1 1), .inl ((v.2 0).2.1, 36, .inl (fun _ => 0))), (((v.2 4).1 2), .inl ((v.2 4).2.2, 8, .inl (fun _ => 0))), (((v.2 4).1 3), .inl ((v.2 4).2.2, 36, .inl (fun _ => 0))), (((v.2 4).1 4), .inl ((v.2 0).2.1, 36, .inl (fun _ => 0))), ((v.1 0), .inr (2, [.ref ((v.2 0).1 0), .ref ((v.2 0).1 1), .ref ((v.2 0).1 2), .ref ((v.2 0).1 3), .ref ((v.2 0).1 4), .int 1, .int 1])), ((v.1 1), .inr (4, [.ref ((v.2 1).1 0), .ref ((v.2 1).1 1)])), ((v.1 2), .inr (3, [.ref ((v.2 2).1 0), .int 0, .ref ((v.2 2).1 1), .int 0, .ref ((v.2 2).1 2), .ref ((v.2 2).1 3), .ref ((v.2 2).1 4)])), ((v.1 3), .inr (0, [.ref ((v.2 3).1 0), .ref ((v.2 3).1 1), .ref ((v.2 3).1 2), .ref ((v.2 3).1 3)])), ((v.1 4), .inr (1, [.ref ((v.2 4).1 0), .ref ((v.2 4).1 1), .ref ((v.2 4).1 2), .ref ((v.2 4).1 3), .ref ((v.2 4).1 4), .int 0, .int 0])), (a5, .inr (5, [.ref (v.1 0), .ref (v.1 1), .ref (v.1 2), .ref (v.1 3), .ref (v.1 4)]))]) [2, 3, 4, 5, 6, 8, 9, 11, 12, 13, 14, 15, 17, 18, 19, 20, 22, 23, 24, 25, 26, 1, 7, 10, 16, 21, 0] rfl
  have hPM := hP.sub (ws' := [((w.1 0), .inl ((v.2 0).2.1, 2, .inl (fun j => Int32.ofInt (M0M 0 j)))), ((w.1 1), .inl ((v.2 0).2.1, 60, .inl (fun _ => 0))), ((w.1 2), .inl ((v.2 0).2.1, 6, .inl (fun _ => 0))), ((w.1 3), .inl ((v.2 0).2.1, 36, .inl (fun _ => 0))), ((w.1 4), .inl ((v.2 0).2.1, 36, .inl (fun _ => 0))), ((w.1 5), .inl ((v.2 4).2.2, 8, .inl (fun _ => 0))), ((w.1 6), .inl ((v.2 0).2.1, 36, .inl (fun _ => 0))), ((w.1 7), .inl ((v.2 0).2.1, 7, .inl (fun _ => 0))), ((w.1 8), .inl ((v.2 0).2.1, 4608, .inl (fun _ => 0))), ((w.1 9), .inl ((v.2 0).2.1, 60, .inl (fun _ => 0))), ((w.1 10), .inl ((v.2 0).2.1, 36, .inl (fun _ => 0))), ((w.1 11), .inl ((v.2 4).2.2, 36, .inl (fun _ => 0))), ((w.1 12), .inl ((v.2 0).2.1, 36, .inl (fun _ => 0))), ((w.1 13), .inl ((v.2 0).2.1, 36, .inl (fun _ => 0))), (a6, .inr (6, [.int 0, .ref (w.1 0), .ref (w.1 1), .int 0, .ref (w.1 2), .ref (w.1 3), .ref (w.1 4), .ref (w.1 5), .int 0, .int 0, .ref (w.1 6), .ref (w.1 7), .ref (w.1 8), .ref (w.1 9), .ref (w.1 10), .ref (w.1 11), .ref (w.1 12), .ref (w.1 13), .int (-1)]))]) [28, 29, 30, 31, 32, 33, 34, 35, 36, 37, 38, 39, 40, 41, 27] rfl
  have hPO := hP.sub (ws' := outW cL ao (fun _ => 0)) [42] rfl
  have hDD := hD.sub (ws' := [(((v.2 0).1 0), .inl ((v.2 0).2.1, 60, .inl (fun k => Int32.ofInt (gM2 0 k)))), (((v.2 0).1 1), .inl ((v.2 0).2.1, 60, .inl (fun k => Int32.ofInt (gM2 1 k)))), (((v.2 0).1 2), .inl ((v.2 0).2.1, 144, .inl (fun k => Int32.ofInt (gM2 2 k)))), (((v.2 0).1 3), .inl ((v.2 0).2.1, 60, .inl (fun k => Int32.ofInt (gM2 3 k)))), (((v.2 0).1 4), .inl ((v.2 0).2.1, 60, .inl (fun k => Int32.ofInt (gM2 4 k)))), (((v.2 1).1 0), .inl ((v.2 0).2.1, 36, .inl (fun _ => 0))), (((v.2 1).1 1), .inl ((v.2 0).2.1, 60, .inl (fun _ => 0))), (((v.2 2).1 0), .inl ((v.2 0).2.1, 6, .inl (fun _ => 0))), (((v.2 2).1 1), .inl ((v.2 0).2.1, 2304, .inl (fun _ => 0))), (((v.2 2).1 2), .inl ((v.2 0).2.1, 216, .inl (fun _ => 0))), (((v.2 2).1 3), .inl ((v.2 0).2.1, 36, .inl (fun _ => 0))), (((v.2 2).1 4), .inl ((v.2 0).2.1, 6, .inl (fun _ => 0))), (((v.2 3).1 0), .inl ((v.2 0).2.1, 36, .inl (fun _ => 0))), (((v.2 3).1 1), .inl ((v.2 0).2.1, 60, .inl (fun _ => 0))), (((v.2 3).1 2), .inl ((v.2 0).2.1, 36, .inl (fun _ => 0))), (((v.2 3).1 3), .inl ((v.2 0).2.1, 36, .inl (fun _ => 0))), (((v.2 4).1 0), .inl ((v.2 0).2.1, 36, .inl (fun _ => 0))), (((v.2 4).1 1), .inl ((v.2 0).2.1, 36, .inl (fun _ => 0))), (((v.2 4).1 2), .inl ((v.2 4).2.2, 8, .inl (fun _ => 0))), (((v.2 4).1 3), .inl ((v.2 4).2.2, 36, .inl (fun _ => 0))), (((v.2 4).1 4), .inl ((v.2 0).2.1, 36, .inl (fun _ => 0))), ((v.1 0), .inr (2, [.ref ((v.2 0).1 0), .ref ((v.2 0).1 1), .ref ((v.2 0).1 2), .ref ((v.2 0).1 3), .ref ((v.2 0).1 4), .int 1, .int 1])), ((v.1 1), .inr (4, [.ref ((v.2 1).1 0), .ref ((v.2 1).1 1)])), ((v.1 2), .inr (3, [.ref ((v.2 2).1 0), .int 0, .ref ((v.2 2).1 1), .int 0, .ref ((v.2 2).1 2), .ref ((v.2 2).1 3), .ref ((v.2 2).1 4)])), ((v.1 3), .inr (0, [.ref ((v.2 3).1 0), .ref ((v.2 3).1 1), .ref ((v.2 3).1 2), .ref ((v.2 3).1 3)])), ((v.1 4), .inr (1, [.ref ((v.2 4).1 0), .ref ((v.2 4).1 1), .ref ((v.2 4).1 2), .ref ((v.2 4).1 3), .ref ((v.2 4).1 4), .int 0, .int 0])), (a5, .inr (5, [.ref (v.1 0), .ref (v.1 1), .ref (v.1 2), .ref (v.1 3), .ref (v.1 4)]))] ++ ([((w.1 0), .inl ((v.2 0).2.1, 2, .inl (fun j => Int32.ofInt (M0M 0 j)))), ((w.1 1), .inl ((v.2 0).2.1, 60, .inl (fun _ => 0))), ((w.1 2), .inl ((v.2 0).2.1, 6, .inl (fun _ => 0))), ((w.1 3), .inl ((v.2 0).2.1, 36, .inl (fun _ => 0))), ((w.1 4), .inl ((v.2 0).2.1, 36, .inl (fun _ => 0))), ((w.1 5), .inl ((v.2 4).2.2, 8, .inl (fun _ => 0))), ((w.1 6), .inl ((v.2 0).2.1, 36, .inl (fun _ => 0))), ((w.1 7), .inl ((v.2 0).2.1, 7, .inl (fun _ => 0))), ((w.1 8), .inl ((v.2 0).2.1, 4608, .inl (fun _ => 0))), ((w.1 9), .inl ((v.2 0).2.1, 60, .inl (fun _ => 0))), ((w.1 10), .inl ((v.2 0).2.1, 36, .inl (fun _ => 0))), ((w.1 11), .inl ((v.2 4).2.2, 36, .inl (fun _ => 0))), ((w.1 12), .inl ((v.2 0).2.1, 36, .inl (fun _ => 0))), ((w.1 13), .inl ((v.2 0).2.1, 36, .inl (fun _ => 0))), (a6, .inr (6, [.int 0, .ref (w.1 0), .ref (w.1 1), .int 0, .ref (w.1 2), .ref (w.1 3), .ref (w.1 4), .ref (w.1 5), .int 0, .int 0, .ref (w.1 6), .ref (w.1 7), .ref (w.1 8), .ref (w.1 9), .ref (w.1 10), .ref (w.1 11), .ref (w.1 12), .ref (w.1 13), .int (-1)]))] ++ outW cL ao (fun _ => 0))) [2, 3, 4, 5, 6, 8, 9, 11, 12, 13, 14, 15, 17, 18, 19, 20, 22, 23, 24, 25, 26, 1, 7, 10, 16, 21, 0, 28, 29, 30, 31, 32, 33, 34, 35, 36, 37, 38, 39, 40, 41, 27, 42] (by decide) rfl
  rw [← convC (v.2 0).2.1 (v.2 4).2.2 ((v.2 0).1 0) ((v.2 0).1 1) ((v.2 0).1 2) ((v.2 0).1 3) ((v.2 0).1 4) ((v.2 1).1 0) ((v.2 1).1 1) ((v.2 2).1 0) ((v.2 2).1 1) ((v.2 2).1 2) ((v.2 2).1 3) ((v.2 2).1 4) ((v.2 3).1 0) ((v.2 3).1 1) ((v.2 3).1 2) ((v.2 3).1 3) ((v.2 4).1 0) ((v.2 4).1 1) ((v.2 4).1 2) ((v.2 4).1 3) ((v.2 4).1 4) (v.1 0) (v.1 1) (v.1 2) (v.1 3) (v.1 4) (a5) gM2] at hPC hDD
  rw [← convM (v.2 0).2.1 (v.2 4).2.2 (w.1 0) (w.1 1) (w.1 2) (w.1 3) (w.1 4) (w.1 5) (w.1 6) (w.1 7) (w.1 8) (w.1 9) (w.1 10) (w.1 11) (w.1 12) (w.1 13) (a6)] at hPM hDD
  have hDD : va_D (fun q : Nat => s.heap.size ≤ q) (cellsOf wC (v.2 0).2.1 (v.2 4).2.2 (fun k => ([(v.2 0).1 0, (v.2 0).1 1, (v.2 0).1 2, (v.2 0).1 3, (v.2 0).1 4, (v.2 1).1 0, (v.2 1).1 1, (v.2 2).1 0, (v.2 2).1 1, (v.2 2).1 2, (v.2 2).1 3, (v.2 2).1 4, (v.2 3).1 0, (v.2 3).1 1, (v.2 3).1 2, (v.2 3).1 3, (v.2 4).1 0, (v.2 4).1 1, (v.2 4).1 2, (v.2 4).1 3, (v.2 4).1 4, v.1 0, v.1 1, v.1 2, v.1 3, v.1 4, a5] : List Nat).getD k 0) M0C ++ (cellsOf wM (v.2 0).2.1 (v.2 4).2.2 (fun k => ([w.1 0, w.1 1, w.1 2, w.1 3, w.1 4, w.1 5, w.1 6, w.1 7, w.1 8, w.1 9, w.1 10, w.1 11, w.1 12, w.1 13, a6] : List Nat).getD k 0) M0M ++ outW cL ao (fun _ => 0))) := hDD
  obtain ⟨hAC, hAM, hao, hdj⟩ := ad_all hDD
  have hLW : LWP (dC, dI) (v.2 0).2.1 (v.2 4).2.2 cL (fun k => ([(v.2 0).1 0, (v.2 0).1 1, (v.2 0).1 2, (v.2 0).1 3, (v.2 0).1 4, (v.2 1).1 0, (v.2 1).1 1, (v.2 2).1 0, (v.2 2).1 1, (v.2 2).1 2, (v.2 2).1 3, (v.2 2).1 4, (v.2 3).1 0, (v.2 3).1 1, (v.2 3).1 2, (v.2 3).1 3, (v.2 4).1 0, (v.2 4).1 1, (v.2 4).1 2, (v.2 4).1 3, (v.2 4).1 4, v.1 0, v.1 1, v.1 2, v.1 3, v.1 4, a5] : List Nat).getD k 0) (fun k => ([w.1 0, w.1 1, w.1 2, w.1 3, w.1 4, w.1 5, w.1 6, w.1 7, w.1 8, w.1 9, w.1 10, w.1 11, w.1 12, w.1 13, a6] : List Nat).getD k 0) ao (0, M0C, M0M, fun _ => 0) H := ⟨hPC, hPM, hPO⟩
  refine W.widen (k := 43) (n := 8423) (Nat.le_of_ble_eq_true rfl) (Nat.le_of_ble_eq_true rfl) ?_
  refine law_loop F l hl0 (fun k => ([(v.2 0).1 0, (v.2 0).1 1, (v.2 0).1 2, (v.2 0).1 3, (v.2 0).1 4, (v.2 1).1 0, (v.2 1).1 1, (v.2 2).1 0, (v.2 2).1 1, (v.2 2).1 2, (v.2 2).1 3, (v.2 2).1 4, (v.2 3).1 0, (v.2 3).1 1, (v.2 3).1 2, (v.2 3).1 3, (v.2 4).1 0, (v.2 4).1 1, (v.2 4).1 2, (v.2 4).1 3, (v.2 4).1 4, v.1 0, v.1 1, v.1 2, v.1 3, v.1 4, a5] : List Nat).getD k 0) (fun k => ([w.1 0, w.1 1, w.1 2, w.1 3, w.1 4, w.1 5, w.1 6, w.1 7, w.1 8, w.1 9, w.1 10, w.1 11, w.1 12, w.1 13, a6] : List Nat).getD k 0) ao b L xs (fun S pc lv st => ∀ (H : Heap) (locs : List Loc) (ls : Array Slot), LWP (dC, dI) (v.2 0).2.1 (v.2 4).2.2 cL (fun k => ([(v.2 0).1 0, (v.2 0).1 1, (v.2 0).1 2, (v.2 0).1 3, (v.2 0).1 4, (v.2 1).1 0, (v.2 1).1 1, (v.2 2).1 0, (v.2 2).1 1, (v.2 2).1 2, (v.2 2).1 3, (v.2 2).1 4, (v.2 3).1 0, (v.2 3).1 1, (v.2 3).1 2, (v.2 3).1 3, (v.2 4).1 0, (v.2 4).1 1, (v.2 4).1 2, (v.2 4).1 3, (v.2 4).1 4, v.1 0, v.1 1, v.1 2, v.1 3, v.1 4, a5] : List Nat).getD k 0) (fun k => ([w.1 0, w.1 1, w.1 2, w.1 3, w.1 4, w.1 5, w.1 6, w.1 7, w.1 8, w.1 9, w.1 10, w.1 11, w.1 12, w.1 13, a6] : List Nat).getD k 0) ao S H → va_S (fun q : Nat => s.heap.size ≤ q) s.heap H locs → lv_has ls 7 lv → W p l e room_1 s m #[Value.ref b] below meth c H locs (43 + S.1) (8423 + 6 * S.1) (lw_Z below #[Value.ref b] s) (F0 m pc ls st)) ?_ hL (L + 1) 0 M0C M0M (fun _ => 0) 0 rfl (by omega) (by omega) hR H locs ls hLW hS hl
  refine ⟨p, e, s, m, #[Value.ref b], below, meth, c, (dC, dI), (v.2 0).2.1, (v.2 4).2.2, cL, (fun q : Nat => s.heap.size ≤ q), lw_Z below #[Value.ref b] s, 43, 8423, hx, hb, hml, hown, htL, hK, hAC, hAM, hao, hdj, hA, trivial, hTH, hNC, ?_, ?_, ?_, rfl⟩
  · intro b1 L1 xs1 e1
    cases e1
    exact ⟨hX, hbl, hbA⟩
  · intro k hk
    exact ⟨by show 43 + k ≤ 1082; omega, by show 8423 + 6 * k ≤ 16705; omega⟩
  · intro S z H locs ls pc hS1 _ hS hz hdg
    have hz : z = 1 := hz
    subst hz
    refine va_forget (fun q hq => hS.2.2 q hq) ?_
    refine W.widen (k := 1082) (n := 16705) (by omega) (by omega) ?_
    exact lw_ret hx hb hr hlocks hdg
theorem no_traces {l : Launch} (h : l.flags = flags0) : l.stackTraces = false := by
  unfold Launch.stackTraces
  rw [h]
  decide +kernel
