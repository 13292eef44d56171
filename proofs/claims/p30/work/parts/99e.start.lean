theorem hi_lw_X0 : ∀ x ∈ u_ws RX0 TX0 4, x ∈ lw_tbl := by decide +kernel
theorem hi_lw_X1 : ∀ x ∈ u_ws RX1 TX1 7, x ∈ lw_tbl := by decide +kernel
theorem hi_lw_X2 : ∀ x ∈ u_ws RX2 TX2 7, x ∈ lw_tbl := by decide +kernel
theorem hi_lw_X3 : ∀ x ∈ u_ws RX3 TX3 7, x ∈ lw_tbl := by decide +kernel
theorem hi_lw_X4 : ∀ x ∈ u_ws RX4 TX4 2, x ∈ lw_tbl := by decide +kernel
theorem hi_lw_X5 : ∀ x ∈ u_ws RX5 TX5 5, x ∈ lw_tbl := by decide +kernel
theorem lw_BW : ∀ w ∈ BW, w ∈ lw_tbl := by decide +kernel
theorem lw_SL : ∀ q ∈ SL, Cond.stringRef RX5 q.1 q.2 ∈ lw_tbl := by decide +kernel
theorem th_of {p : Program} {s : State} {m : MethodId} {meth : Method} {c : Code} {b L : Nat} {xs : Nat → Int32} (C0 : lw_At p s m meth c b L xs) : TH (fun q : Nat => s.heap.size ≤ q) s s.heap ∧ NCs s := by
  obtain ⟨hx, hb, hr, hml, hown, hts, hX, hbl, hlocks, hgv⟩ := id C0
  have hf := flat_of_before _ hgv
  have hn : ∀ a : Nat, a < s.heap.size → ¬ (fun q : Nat => s.heap.size ≤ q) a := fun a h => Nat.not_le.mpr h
  obtain ⟨c5, k5, hfc, -⟩ := Cond.instantiable_spec (hts (.instantiable RX5 5) (by decide +kernel))
  refine ⟨⟨vx_Zqof (hts (.laysStatic Bundle.tN "UNASSIGNED_STACK" Bundle.steD) (by decide +kernel)) (hts (.initialized Bundle.tN) (by decide +kernel)) (hf _ (by decide +kernel)) hn, vx_Zqof (hts (.laysStatic Bundle.tN "SUPPRESSED_SENTINEL" Bundle.listD) (by decide +kernel)) (hts (.initialized Bundle.tN) (by decide +kernel)) (hf _ (by decide +kernel)) hn, fun w hw => ?_, fun q hq => ?_⟩, va_Nc.of (hf _ (by decide +kernel)), va_Nc.of (hf _ (by decide +kernel))⟩
  · have h := hts w (lw_BW w hw)
    have ho : w.onTables = true := by
      simp only [BW, List.mem_cons, List.not_mem_nil, or_false] at hw
      rcases hw with rfl | rfl | rfl | rfl | rfl | rfl <;> rfl
    exact va_Nw.of ho h
  · have h := hts _ (lw_SL q hq)
    obtain ⟨-, -, -, sa, -, -, -, -, -, hev⟩ := Cond.stringRef_spec hfc h
    exact ⟨sa, vk_R.of h hev⟩
theorem no_traces {l : Launch} (h : l.flags = flags0) : l.stackTraces = false := by
  unfold Launch.stackTraces
  rw [h]
  decide +kernel
theorem kn_all {p : Program} {s : State} {m : MethodId} {meth : Method} {c : Code} {b L : Nat} {xs : Nat → Int32} (C0 : lw_At p s m meth c b L xs) : ∃ (dC : Nat → ClassId) (dI : Nat → Nat → Nat), va_K (dC, dI) vwCl [] s := by
  obtain ⟨hx, hb, hr, hml, hown, hts, hX, hbl, hlocks, hgv⟩ := id C0
  obtain ⟨k0, iS0, hKn0⟩ := u_known (C := RX0) (T := TX0) (N := 4) (n := 4) hts hi_lw_X0 (hts (.instantiable RX0 4) (by decide +kernel))
  obtain ⟨k1, iS1, hKn1⟩ := u_known (C := RX1) (T := TX1) (N := 7) (n := 7) hts hi_lw_X1 (hts (.instantiable RX1 7) (by decide +kernel))
  obtain ⟨k2, iS2, hKn2⟩ := u_known (C := RX2) (T := TX2) (N := 7) (n := 7) hts hi_lw_X2 (hts (.instantiable RX2 7) (by decide +kernel))
  obtain ⟨k3, iS3, hKn3⟩ := u_known (C := RX3) (T := TX3) (N := 7) (n := 7) hts hi_lw_X3 (hts (.instantiable RX3 7) (by decide +kernel))
  obtain ⟨k4, iS4, hKn4⟩ := u_known (C := RX4) (T := TX4) (N := 2) (n := 2) hts hi_lw_X4 (hts (.instantiable RX4 2) (by decide +kernel))
  obtain ⟨k5, iS5, hKn5⟩ := u_known (C := RX5) (T := TX5) (N := 5) (n := 5) hts hi_lw_X5 (hts (.instantiable RX5 5) (by decide +kernel))
  refine ⟨fun k => ([k0, k1, k2, k3, k4, k5] : List ClassId).getD k k0, fun k => ([iS0, iS1, iS2, iS3, iS4, iS5] : List (Nat → Nat)).getD k iS0, fun k q hq => ?_, fun k q h => by simp at h⟩
  match k, hq with
  | 0, hq => cases hq; exact hKn0
  | 1, hq => cases hq; exact hKn1
  | 2, hq => cases hq; exact hKn2
  | 3, hq => cases hq; exact hKn3
  | 4, hq => cases hq; exact hKn4
  | 5, hq => cases hq; exact hKn5
  | k + 6, hq => simp [vwCl] at hq
theorem m0_en : M0C 104 0 = enS (M0C 4) (M0C 16) + M0C 105 0 := by
  have z : M0C 16 = fun _ => 0 := by funext j; rfl
  have e : enS (M0C 4) (M0C 16) = 0 := by
    rw [z]
    exact ss_zero 60 0 (fun e _ _ => if_pos rfl)
  rw [e]
  rfl
set_option maxRecDepth 100000 in
set_option maxHeartbeats 1600000 in
theorem law_run (l : Launch) (hl0 : l.stackTraces = false) {p : Program} {e : Env} {s : State} {m : MethodId} {below : List Frame} {meth : Method} {c : Code} {b L : Nat} {xs : Nat → Int32} (hL : L ≤ 260) (C0 : lw_At p s m meth c b L xs) {r : Nat} (hr2 : r < 2) {cl sl : Nat} (hcl : cl ≤ 1000 * r) (hsl : sl ≤ 10000 * r)
    (nx : ∀ (H : Heap) (locs : List Loc) (ls : Array Slot) (cl2 sl2 : Nat), cl2 ≤ 1000 * (r + 1) → sl2 ≤ 10000 * (r + 1) → va_S (fun q : Nat => s.heap.size ≤ q) s.heap H locs → lv_has ls 11 [(0, .ref b), (1, iV 1), (2, iV (r : Int))] → W p l e room_1 s m #[Value.ref b] below meth c H locs cl2 sl2 (lw_Z below #[Value.ref b] s) (F0 m 256 ls []))
    (H : Heap) (locs : List Loc) (ls : Array Slot) (hS : va_S (fun q : Nat => s.heap.size ≤ q) s.heap H locs) (hl : lv_has ls 11 [(0, .ref b), (1, iV 1), (2, iV (r : Int))]) : W p l e room_1 s m #[Value.ref b] below meth c H locs cl sl (lw_Z below #[Value.ref b] s) (F0 m 13 ls []) := by
  obtain ⟨hx, hb, hr, hml, hown, hts, hX, hbl, hlocks, hgv⟩ := id C0
  have htL : ∀ w ∈ wsL_law, w.before #[Value.ref b] s = true := fun w h => hts w (wsL_law_in w h)
  have hb : c.code = cL_law := hb
  have hA : ∀ q : Nat, s.heap.size ≤ q → (fun q : Nat => s.heap.size ≤ q) q := fun _ h => h
  have hbA : ¬ (fun q : Nat => s.heap.size ≤ q) b := Nat.not_le.mpr hbl
  obtain ⟨hTH, hNC⟩ := th_of C0
  obtain ⟨dC, dI, hK⟩ := kn_all C0
  have hP : va_P (dC, dI) vwCl [] H := fun k q h => by simp at h
  have hD : va_D (fun q : Nat => s.heap.size ≤ q) [] := ⟨fun i j p q h => by simp at h, fun k q h => by simp at h⟩
  have hN : nst5 s := ⟨va_Nw.of rfl (hts (.methodLinkNest RX5 18 yX4_init "PlateauBench") (by decide +kernel)), va_Nw.of rfl (hts (.methodLinkNest RX5 25 yX3_init "PlateauBench") (by decide +kernel)), va_Nw.of rfl (hts (.methodLinkNest RX5 32 yX0_init "PlateauBench") (by decide +kernel)), va_Nw.of rfl (hts (.methodLinkNest RX5 39 yX1_init "PlateauBench") (by decide +kernel))⟩
  refine va_new (ci := 5) (fs := [.null, .null, .null, .null, .null]) (C := RX5) (T := TX5) (N := 5) hx hb hts hi_lw_X5 tyX5 tyX5_ok hown (hts (.classLink RL 8 RX5) (by decide +kernel)) (hts (.instantiable RX5 5) (by decide +kernel)) (hts (.initialized RX5) (by decide +kernel)) hK hP hD hS hA rfl (fun j hj => by revert j; decide +kernel) (by show _ ≤ 600172; omega) (by show _ ≤ 7300668; omega) dL_law_13 (fun a5 H hP hD hS => ?_)
  have hP : va_P (dC, dI) vwCl [(a5, .inr (5, [.null, .null, .null, .null, .null]))] H := hP
  have hD : va_D (fun q : Nat => s.heap.size ≤ q) [(a5, .inr (5, [.null, .null, .null, .null, .null]))] := hD
  refine lv_dup hx hb dL_law_16 rfl ?_
  have hPc := hP.sub (ws' := [(a5, .inr (5, [.null, .null, .null, .null, .null]))]) [0] rfl
  have hDc := hD.sub (ws' := [(a5, .inr (5, [.null, .null, .null, .null, .null]))]) [0] (by decide) rfl
  have hKc := hK.sub (tys' := []) [] rfl
  have hFc := va_free (wc := [(a5, .inr (5, [.null, .null, .null, .null, .null]))]) hD hS hA [0] rfl
  refine va_callv (va_runI (As := []) (rest := [.ref a5]) ⟨hx, hb, hml, hown, htL⟩ (iX5 l dC dI a5 H.size) (cwI 0 htL gL_law_X5_init rfl rfl rfl (hts (.initialized RX5) (by decide +kernel)) (hts (.methodLink RL 184 yX5_init) (by decide +kernel)) (hts (.instanceMethod yX5_init) (by decide +kernel)) rfl (by decide +kernel) ⟨(Nat.le_of_ble_eq_true rfl), (Nat.le_of_ble_eq_true rfl)⟩) ⟨fun a U g mk q => by obtain ⟨q0, q1, qP, qK, qD, qN⟩ := q; exact ⟨q0, q1, qP, va_K.moved (u := U) (U := U.calling g mk a) (Vm.Alike.refl U.vm) qK, qD, va_Nw.same rfl rfl qN.1, va_Nw.same rfl rfl qN.2.1, va_Nw.same rfl rfl qN.2.2.1, va_Nw.same rfl rfl qN.2.2.2⟩, fun U hU hW => ⟨rfl, by rw [hU], by rw [hU]; exact hPc, va_K.moved hW.alike hKc, hDc.weaken (fun _ _ _ _ => trivial), va_Nw.warmM hW hN.1, va_Nw.warmM hW hN.2.1, va_Nw.warmM hW hN.2.2.1, va_Nw.warmM hW hN.2.2.2⟩⟩ rfl rfl hl.1 rfl (lv_room (Nat.le_of_ble_eq_true rfl)) dL_law_17 ⟨(by show _ ≤ 600172; omega), (by show _ ≤ 7300668; omega)⟩) hS (fun q _ h => hFc q h) hFc (fun v t H1 locs ht hvm hw hB hz1 hk1 hS => ?_)
  obtain ⟨hP1, hK1, hD1⟩ := hB
  rw [ht] at hP1
  have hK1 := va_K.moved hvm.symm hK1
  obtain ⟨hP, hD⟩ := va_join (wr := []) (w1 := wE5 a5 v) hP hD [0] [] rfl rfl (by decide) (by decide) hk1 hFc hP1 hD1
  have hK := hK.app hK1
  generalize H1 = H at hP hS ⊢
  have hP : va_P (dC, dI) vwCl (wE5 a5 v) H := hP
  have hD : va_D (fun q : Nat => s.heap.size ≤ q) (wE5 a5 v) := hD
  have hK : va_K (dC, dI) vwCl (tE5 v) s := hK
  clear hP1 hK1 hD1 hPc hDc hKc hFc hk1 hz1 hw
  refine lv_astore_n (lv' := [(3, .ref a5), (0, .ref b), (1, iV 1), (2, iV (r : Int))]) hx hb dL_law_20 rfl hl (by decide) rfl (fun ls hl => ?_)
  refine lv_iconst (v := 1) hx hb dL_law_21 (by decide) ?_
  refine va_newa (atype := .int) (ty := .int) (N' := 1) (a0 := (1, .inl (fun _ => 0))) hx hb (hts (.arrayClass .int) (by decide +kernel)) rfl hK hP hD hS hA (fun _ => rfl) (by decide) rfl (by decide) (by show _ ≤ 600172; omega) (by show _ ≤ 7300668; omega) dL_law_22 (fun an c1 H hK hP hD hS => ?_)
  refine lv_astore (lv' := [(4, .ref an), (3, .ref a5), (0, .ref b), (1, iV 1), (2, iV (r : Int))]) hx hb dL_law_24 hl (by decide) rfl (fun ls hl => ?_)
  refine lv_bipush (v := 37) hx hb dL_law_26 (by decide) ?_
  refine va_newa (atype := .int) (ty := .int) (N' := 37) (a0 := (37, .inl (fun _ => 0))) hx hb (hts (.arrayClass .int) (by decide +kernel)) rfl hK hP hD hS hA (fun _ => rfl) (by decide) rfl (by decide) (by show _ ≤ 600172; omega) (by show _ ≤ 7300668; omega) dL_law_28 (fun ap c2 H hK hP hD hS => ?_)
  refine lv_astore (lv' := [(5, .ref ap), (4, .ref an), (3, .ref a5), (0, .ref b), (1, iV 1), (2, iV (r : Int))]) hx hb dL_law_30 hl (by decide) rfl (fun ls hl => ?_)
  refine lv_iconst (v := Int32.ofInt 0) hx hb dL_law_32 (by decide) ?_
  refine lv_istore (lv' := [(6, iV 0), (5, .ref ap), (4, .ref an), (3, .ref a5), (0, .ref b), (1, iV 1), (2, iV (r : Int))]) hx hb dL_law_33 hl (by decide) rfl (fun ls hl => ?_)
  have hl := lv_sub hl [4, 5, 6, 3, 2, 1, 0] rfl
  have hK : va_K (dC, dI) vwCl [((v.2 0).2.1, .int), ((v.2 1).2.1, .int), ((v.2 2).2.1, .int), ((v.2 3).2.1, .int), ((v.2 4).2.1, .int), ((v.2 4).2.2, .boolean), (c1, .int), (c2, .int)] s := hK
  have e1 : (v.2 1).2.1 = (v.2 0).2.1 := va_K_same hK 1 0 rfl rfl (fun _ => rfl)
  have e2 : (v.2 2).2.1 = (v.2 0).2.1 := va_K_same hK 2 0 rfl rfl (fun _ => rfl)
  have e3 : (v.2 3).2.1 = (v.2 0).2.1 := va_K_same hK 3 0 rfl rfl (fun _ => rfl)
  have e4 : (v.2 4).2.1 = (v.2 0).2.1 := va_K_same hK 4 0 rfl rfl (fun _ => rfl)
  have e6 : c1 = (v.2 0).2.1 := va_K_same hK 6 0 rfl rfl (fun _ => rfl)
  have e7 : c2 = (v.2 0).2.1 := va_K_same hK 7 0 rfl rfl (fun _ => rfl)
  have hK := hK.sub (tys' := [((v.2 0).2.1, .int), ((v.2 4).2.2, .boolean)]) [0, 5] rfl
  have hP : va_P (dC, dI) vwCl [(a5, .inr (5, [.ref (v.1 0), .ref (v.1 1), .ref (v.1 2), .ref (v.1 3), .ref (v.1 4)])), ((v.1 0), .inr (2, [.ref ((v.2 0).1 0), .ref ((v.2 0).1 1), .ref ((v.2 0).1 2), .ref ((v.2 0).1 3), .ref ((v.2 0).1 4), .int 1, .int 1])), (((v.2 0).1 0), .inl ((v.2 0).2.1, 60, .inl (fun k => Int32.ofInt (gM2 0 k)))), (((v.2 0).1 1), .inl ((v.2 0).2.1, 60, .inl (fun k => Int32.ofInt (gM2 1 k)))), (((v.2 0).1 2), .inl ((v.2 0).2.1, 144, .inl (fun k => Int32.ofInt (gM2 2 k)))), (((v.2 0).1 3), .inl ((v.2 0).2.1, 60, .inl (fun k => Int32.ofInt (gM2 3 k)))), (((v.2 0).1 4), .inl ((v.2 0).2.1, 60, .inl (fun k => Int32.ofInt (gM2 4 k)))), ((v.1 1), .inr (4, [.ref ((v.2 1).1 0), .ref ((v.2 1).1 1)])), (((v.2 1).1 0), .inl ((v.2 1).2.1, 36, .inl (fun _ => 0))), (((v.2 1).1 1), .inl ((v.2 1).2.1, 60, .inl (fun _ => 0))), ((v.1 2), .inr (3, [.ref ((v.2 2).1 0), .int 0, .ref ((v.2 2).1 1), .int 0, .ref ((v.2 2).1 2), .ref ((v.2 2).1 3), .ref ((v.2 2).1 4)])), (((v.2 2).1 0), .inl ((v.2 2).2.1, 6, .inl (fun _ => 0))), (((v.2 2).1 1), .inl ((v.2 2).2.1, 2304, .inl (fun _ => 0))), (((v.2 2).1 2), .inl ((v.2 2).2.1, 216, .inl (fun _ => 0))), (((v.2 2).1 3), .inl ((v.2 2).2.1, 36, .inl (fun _ => 0))), (((v.2 2).1 4), .inl ((v.2 2).2.1, 6, .inl (fun _ => 0))), ((v.1 3), .inr (0, [.ref ((v.2 3).1 0), .ref ((v.2 3).1 1), .ref ((v.2 3).1 2), .ref ((v.2 3).1 3)])), (((v.2 3).1 0), .inl ((v.2 3).2.1, 36, .inl (fun _ => 0))), (((v.2 3).1 1), .inl ((v.2 3).2.1, 60, .inl (fun _ => 0))), (((v.2 3).1 2), .inl ((v.2 3).2.1, 36, .inl (fun _ => 0))), (((v.2 3).1 3), .inl ((v.2 3).2.1, 36, .inl (fun _ => 0))), ((v.1 4), .inr (1, [.ref ((v.2 4).1 0), .ref ((v.2 4).1 1), .ref ((v.2 4).1 2), .ref ((v.2 4).1 3), .ref ((v.2 4).1 4), .int 0, .int 0])), (((v.2 4).1 0), .inl ((v.2 4).2.1, 36, .inl (fun _ => 0))), (((v.2 4).1 1), .inl ((v.2 4).2.1, 36, .inl (fun _ => 0))), (((v.2 4).1 2), .inl ((v.2 4).2.2, 8, .inl (fun _ => 0))), (((v.2 4).1 3), .inl ((v.2 4).2.2, 36, .inl (fun _ => 0))), (((v.2 4).1 4), .inl ((v.2 4).2.1, 36, .inl (fun _ => 0))), (an, .inl (c1, 1, .inl (fun _ => 0))), (ap, .inl (c2, 37, .inl (fun _ => 0)))] H := hP
  have hD : va_D (fun q : Nat => s.heap.size ≤ q) [(a5, .inr (5, [.ref (v.1 0), .ref (v.1 1), .ref (v.1 2), .ref (v.1 3), .ref (v.1 4)])), ((v.1 0), .inr (2, [.ref ((v.2 0).1 0), .ref ((v.2 0).1 1), .ref ((v.2 0).1 2), .ref ((v.2 0).1 3), .ref ((v.2 0).1 4), .int 1, .int 1])), (((v.2 0).1 0), .inl ((v.2 0).2.1, 60, .inl (fun k => Int32.ofInt (gM2 0 k)))), (((v.2 0).1 1), .inl ((v.2 0).2.1, 60, .inl (fun k => Int32.ofInt (gM2 1 k)))), (((v.2 0).1 2), .inl ((v.2 0).2.1, 144, .inl (fun k => Int32.ofInt (gM2 2 k)))), (((v.2 0).1 3), .inl ((v.2 0).2.1, 60, .inl (fun k => Int32.ofInt (gM2 3 k)))), (((v.2 0).1 4), .inl ((v.2 0).2.1, 60, .inl (fun k => Int32.ofInt (gM2 4 k)))), ((v.1 1), .inr (4, [.ref ((v.2 1).1 0), .ref ((v.2 1).1 1)])), (((v.2 1).1 0), .inl ((v.2 1).2.1, 36, .inl (fun _ => 0))), (((v.2 1).1 1), .inl ((v.2 1).2.1, 60, .inl (fun _ => 0))), ((v.1 2), .inr (3, [.ref ((v.2 2).1 0), .int 0, .ref ((v.2 2).1 1), .int 0, .ref ((v.2 2).1 2), .ref ((v.2 2).1 3), .ref ((v.2 2).1 4)])), (((v.2 2).1 0), .inl ((v.2 2).2.1, 6, .inl (fun _ => 0))), (((v.2 2).1 1), .inl ((v.2 2).2.1, 2304, .inl (fun _ => 0))), (((v.2 2).1 2), .inl ((v.2 2).2.1, 216, .inl (fun _ => 0))), (((v.2 2).1 3), .inl ((v.2 2).2.1, 36, .inl (fun _ => 0))), (((v.2 2).1 4), .inl ((v.2 2).2.1, 6, .inl (fun _ => 0))), ((v.1 3), .inr (0, [.ref ((v.2 3).1 0), .ref ((v.2 3).1 1), .ref ((v.2 3).1 2), .ref ((v.2 3).1 3)])), (((v.2 3).1 0), .inl ((v.2 3).2.1, 36, .inl (fun _ => 0))), (((v.2 3).1 1), .inl ((v.2 3).2.1, 60, .inl (fun _ => 0))), (((v.2 3).1 2), .inl ((v.2 3).2.1, 36, .inl (fun _ => 0))), (((v.2 3).1 3), .inl ((v.2 3).2.1, 36, .inl (fun _ => 0))), ((v.1 4), .inr (1, [.ref ((v.2 4).1 0), .ref ((v.2 4).1 1), .ref ((v.2 4).1 2), .ref ((v.2 4).1 3), .ref ((v.2 4).1 4), .int 0, .int 0])), (((v.2 4).1 0), .inl ((v.2 4).2.1, 36, .inl (fun _ => 0))), (((v.2 4).1 1), .inl ((v.2 4).2.1, 36, .inl (fun _ => 0))), (((v.2 4).1 2), .inl ((v.2 4).2.2, 8, .inl (fun _ => 0))), (((v.2 4).1 3), .inl ((v.2 4).2.2, 36, .inl (fun _ => 0))), (((v.2 4).1 4), .inl ((v.2 4).2.1, 36, .inl (fun _ => 0))), (an, .inl (c1, 1, .inl (fun _ => 0))), (ap, .inl (c2, 37, .inl (fun _ => 0)))] := hD
  rw [e1, e2, e3, e4, e6, e7] at hP hD
  have hP := hP.sub (ws' := [(((v.2 0).1 0), .inl ((v.2 0).2.1, 60, .inl (fun k => Int32.ofInt (gM2 0 k)))), (((v.2 0).1 1), .inl ((v.2 0).2.1, 60, .inl (fun k => Int32.ofInt (gM2 1 k)))), (((v.2 0).1 2), .inl ((v.2 0).2.1, 144, .inl (fun k => Int32.ofInt (gM2 2 k)))), (((v.2 0).1 3), .inl ((v.2 0).2.1, 60, .inl (fun k => Int32.ofInt (gM2 3 k)))), (((v.2 0).1 4), .inl ((v.2 0).2.1, 60, .inl (fun k => Int32.ofInt (gM2 4 k)))), (((v.2 1).1 0), .inl ((v.2 0).2.1, 36, .inl (fun _ => 0))), (((v.2 1).1 1), .inl ((v.2 0).2.1, 60, .inl (fun _ => 0))), (((v.2 2).1 0), .inl ((v.2 0).2.1, 6, .inl (fun _ => 0))), (((v.2 2).1 1), .inl ((v.2 0).2.1, 2304, .inl (fun _ => 0))), (((v.2 2).1 2), .inl ((v.2 0).2.1, 216, .inl (fun _ => 0))), (((v.2 2).1 3), .inl ((v.2 0).2.1, 36, .inl (fun _ => 0))), (((v.2 2).1 4), .inl ((v.2 0).2.1, 6, .inl (fun _ => 0))), (((v.2 3).1 0), .inl ((v.2 0).2.1, 36, .inl (fun _ => 0))), (((v.2 3).1 1), .inl ((v.2 0).2.1, 60, .inl (fun _ => 0))), (((v.2 3).1 2), .inl ((v.2 0).2.1, 36, .inl (fun _ => 0))), (((v.2 3).1 3), .inl ((v.2 0).2.1, 36, .inl (fun _ => 0))), (((v.2 4).1 0), .inl ((v.2 0).2.1, 36, .inl (fun _ => 0))), (((v.2 4).1 1), .inl ((v.2 0).2.1, 36, .inl (fun _ => 0))), (((v.2 4).1 2), .inl ((v.2 4).2.2, 8, .inl (fun _ => 0))), (((v.2 4).1 3), .inl ((v.2 4).2.2, 36, .inl (fun _ => 0))), (((v.2 4).1 4), .inl ((v.2 0).2.1, 36, .inl (fun _ => 0))), (an, .inl ((v.2 0).2.1, 1, .inl (fun _ => 0))), (ap, .inl ((v.2 0).2.1, 37, .inl (fun _ => 0))), ((v.1 0), .inr (2, [.ref ((v.2 0).1 0), .ref ((v.2 0).1 1), .ref ((v.2 0).1 2), .ref ((v.2 0).1 3), .ref ((v.2 0).1 4), .int 1, .int 1])), ((v.1 1), .inr (4, [.ref ((v.2 1).1 0), .ref ((v.2 1).1 1)])), ((v.1 2), .inr (3, [.ref ((v.2 2).1 0), .int 0, .ref ((v.2 2).1 1), .int 0, .ref ((v.2 2).1 2), .ref ((v.2 2).1 3), .ref ((v.2 2).1 4)])), ((v.1 3), .inr (0, [.ref ((v.2 3).1 0), .ref ((v.2 3).1 1), .ref ((v.2 3).1 2), .ref ((v.2 3).1 3)])), ((v.1 4), .inr (1, [.ref ((v.2 4).1 0), .ref ((v.2 4).1 1), .ref ((v.2 4).1 2), .ref ((v.2 4).1 3), .ref ((v.2 4).1 4), .int 0, .int 0])), (a5, .inr (5, [.ref (v.1 0), .ref (v.1 1), .ref (v.1 2), .ref (v.1 3), .ref (v.1 4)]))]) [2, 3, 4, 5, 6, 8, 9, 11, 12, 13, 14, 15, 17, 18, 19, 20, 22, 23, 24, 25, 26, 27, 28, 1, 7, 10, 16, 21, 0] rfl
  have hD := hD.sub (ws' := [(((v.2 0).1 0), .inl ((v.2 0).2.1, 60, .inl (fun k => Int32.ofInt (gM2 0 k)))), (((v.2 0).1 1), .inl ((v.2 0).2.1, 60, .inl (fun k => Int32.ofInt (gM2 1 k)))), (((v.2 0).1 2), .inl ((v.2 0).2.1, 144, .inl (fun k => Int32.ofInt (gM2 2 k)))), (((v.2 0).1 3), .inl ((v.2 0).2.1, 60, .inl (fun k => Int32.ofInt (gM2 3 k)))), (((v.2 0).1 4), .inl ((v.2 0).2.1, 60, .inl (fun k => Int32.ofInt (gM2 4 k)))), (((v.2 1).1 0), .inl ((v.2 0).2.1, 36, .inl (fun _ => 0))), (((v.2 1).1 1), .inl ((v.2 0).2.1, 60, .inl (fun _ => 0))), (((v.2 2).1 0), .inl ((v.2 0).2.1, 6, .inl (fun _ => 0))), (((v.2 2).1 1), .inl ((v.2 0).2.1, 2304, .inl (fun _ => 0))), (((v.2 2).1 2), .inl ((v.2 0).2.1, 216, .inl (fun _ => 0))), (((v.2 2).1 3), .inl ((v.2 0).2.1, 36, .inl (fun _ => 0))), (((v.2 2).1 4), .inl ((v.2 0).2.1, 6, .inl (fun _ => 0))), (((v.2 3).1 0), .inl ((v.2 0).2.1, 36, .inl (fun _ => 0))), (((v.2 3).1 1), .inl ((v.2 0).2.1, 60, .inl (fun _ => 0))), (((v.2 3).1 2), .inl ((v.2 0).2.1, 36, .inl (fun _ => 0))), (((v.2 3).1 3), .inl ((v.2 0).2.1, 36, .inl (fun _ => 0))), (((v.2 4).1 0), .inl ((v.2 0).2.1, 36, .inl (fun _ => 0))), (((v.2 4).1 1), .inl ((v.2 0).2.1, 36, .inl (fun _ => 0))), (((v.2 4).1 2), .inl ((v.2 4).2.2, 8, .inl (fun _ => 0))), (((v.2 4).1 3), .inl ((v.2 4).2.2, 36, .inl (fun _ => 0))), (((v.2 4).1 4), .inl ((v.2 0).2.1, 36, .inl (fun _ => 0))), (an, .inl ((v.2 0).2.1, 1, .inl (fun _ => 0))), (ap, .inl ((v.2 0).2.1, 37, .inl (fun _ => 0))), ((v.1 0), .inr (2, [.ref ((v.2 0).1 0), .ref ((v.2 0).1 1), .ref ((v.2 0).1 2), .ref ((v.2 0).1 3), .ref ((v.2 0).1 4), .int 1, .int 1])), ((v.1 1), .inr (4, [.ref ((v.2 1).1 0), .ref ((v.2 1).1 1)])), ((v.1 2), .inr (3, [.ref ((v.2 2).1 0), .int 0, .ref ((v.2 2).1 1), .int 0, .ref ((v.2 2).1 2), .ref ((v.2 2).1 3), .ref ((v.2 2).1 4)])), ((v.1 3), .inr (0, [.ref ((v.2 3).1 0), .ref ((v.2 3).1 1), .ref ((v.2 3).1 2), .ref ((v.2 3).1 3)])), ((v.1 4), .inr (1, [.ref ((v.2 4).1 0), .ref ((v.2 4).1 1), .ref ((v.2 4).1 2), .ref ((v.2 4).1 3), .ref ((v.2 4).1 4), .int 0, .int 0])), (a5, .inr (5, [.ref (v.1 0), .ref (v.1 1), .ref (v.1 2), .ref (v.1 3), .ref (v.1 4)]))]) [2, 3, 4, 5, 6, 8, 9, 11, 12, 13, 14, 15, 17, 18, 19, 20, 22, 23, 24, 25, 26, 27, 28, 1, 7, 10, 16, 21, 0] (by decide) rfl
  rw [← convC (v.2 0).2.1 (v.2 4).2.2 ((v.2 0).1 0) ((v.2 0).1 1) ((v.2 0).1 2) ((v.2 0).1 3) ((v.2 0).1 4) ((v.2 1).1 0) ((v.2 1).1 1) ((v.2 2).1 0) ((v.2 2).1 1) ((v.2 2).1 2) ((v.2 2).1 3) ((v.2 2).1 4) ((v.2 3).1 0) ((v.2 3).1 1) ((v.2 3).1 2) ((v.2 3).1 3) ((v.2 4).1 0) ((v.2 4).1 1) ((v.2 4).1 2) ((v.2 4).1 3) ((v.2 4).1 4) (an) (ap) (v.1 0) (v.1 1) (v.1 2) (v.1 3) (v.1 4) (a5) gM2] at hP hD
  have had : adOK wC (fun k => ([(v.2 0).1 0, (v.2 0).1 1, (v.2 0).1 2, (v.2 0).1 3, (v.2 0).1 4, (v.2 1).1 0, (v.2 1).1 1, (v.2 2).1 0, (v.2 2).1 1, (v.2 2).1 2, (v.2 2).1 3, (v.2 2).1 4, (v.2 3).1 0, (v.2 3).1 1, (v.2 3).1 2, (v.2 3).1 3, (v.2 4).1 0, (v.2 4).1 1, (v.2 4).1 2, (v.2 4).1 3, (v.2 4).1 4, an, ap, v.1 0, v.1 1, v.1 2, v.1 3, v.1 4, a5] : List Nat).getD k 0) (fun q : Nat => s.heap.size ≤ q) := adOK.of hD
  generalize hAD : (fun k => ([(v.2 0).1 0, (v.2 0).1 1, (v.2 0).1 2, (v.2 0).1 3, (v.2 0).1 4, (v.2 1).1 0, (v.2 1).1 1, (v.2 2).1 0, (v.2 2).1 1, (v.2 2).1 2, (v.2 2).1 3, (v.2 2).1 4, (v.2 3).1 0, (v.2 3).1 1, (v.2 3).1 2, (v.2 3).1 3, (v.2 4).1 0, (v.2 4).1 1, (v.2 4).1 2, (v.2 4).1 3, (v.2 4).1 4, an, ap, v.1 0, v.1 1, v.1 2, v.1 3, v.1 4, a5] : List Nat).getD k 0) = ad at hP hD had
  have q28 : a5 = ad 28 := by rw [← hAD]; rfl
  have q21 : an = ad 21 := by rw [← hAD]; rfl
  have q22 : ap = ad 22 := by rw [← hAD]; rfl
  rw [q28, q21, q22] at hl
  refine W.widen (k := cl + 29) (n := sl + 3438) (by omega) (by omega) ?_
  refine law_k hl0 (ad := ad) (b := b) (L := L) (xs := xs) (G := (fun S pc lv st => ∀ (H : Heap) (locs : List Loc) (ls : Array Slot), va_P (dC, dI) vwCl (cellsOf wC (v.2 0).2.1 (v.2 4).2.2 ad S.2) H → va_S (fun q : Nat => s.heap.size ≤ q) s.heap H locs → lv_has ls 11 lv → W p l e room_1 s m #[Value.ref b] below meth c H locs (cl + 29 + S.1) (sl + 3438 + 6 * S.1) (lw_Z below #[Value.ref b] s) (F0 m pc ls st))) ?_ hL hr2 ?_ 40 0 0 M0C M0M rfl rfl ?_ H locs ls hP hS hl
  · refine ⟨p, e, s, m, #[Value.ref b], below, meth, c, (dC, dI), (v.2 0).2.1, (v.2 4).2.2, (fun q : Nat => s.heap.size ≤ q), lw_Z below #[Value.ref b] s, cl + 29, sl + 3438, hx, hb, hml, hown, htL, hK, had, hA, wC_ok, trivial, hTH, hNC, ?_, ?_, fun _ _ _ _ _ _ _ _ _ hp _ => hp.elim, rfl⟩
    · intro b1 L1 xs1 e1
      cases e1
      exact ⟨hX, hbl, hbA⟩
    · intro k hk
      exact ⟨by show cl + 29 + k ≤ 600172; omega, by show sl + 3438 + 6 * k ≤ 7300668; omega⟩
  · intro M H locs ls _ hS hl
    exact nx H locs ls (cl + 29 + 200) (sl + 3438 + 6 * 200) (by omega) (by omega) hS hl
  · exact ⟨F_start, rfl, fun _ _ => rfl, ⟨by decide, by decide⟩, m0_en⟩
set_option maxRecDepth 100000 in
set_option maxHeartbeats 1600000 in
theorem law_outer (l : Launch) (hl0 : l.stackTraces = false) {p : Program} {e : Env} {s : State} {m : MethodId} {below : List Frame} {meth : Method} {c : Code} {b L : Nat} {xs : Nat → Int32} (hL : L ≤ 260) (C0 : lw_At p s m meth c b L xs) : ∀ (n r : Nat) (cl sl : Nat) (H : Heap) (locs : List Loc) (ls : Array Slot), r + n = 2 → cl ≤ 1000 * r → sl ≤ 10000 * r → va_S (fun q : Nat => s.heap.size ≤ q) s.heap H locs → lv_has ls 11 [(0, .ref b), (1, iV 1), (2, iV (r : Int))] → W p l e room_1 s m #[Value.ref b] below meth c H locs cl sl (lw_Z below #[Value.ref b] s) (F0 m 4 ls []) := by
  obtain ⟨hx, hb, hr, hml, hown, hts, hX, hbl, hlocks, hgv⟩ := id C0
  have hb : c.code = cL_law := hb
  intro n
  induction n with
  | zero =>
    intro r cl sl H locs ls hrn hcl hsl hS hl
    refine lv_iload_n hx hb dL_law_4 rfl (lv_at hl 2 rfl) ?_
    refine lv_iconst (v := Int32.ofInt 2) hx hb dL_law_5 (by decide) ?_
    refine lv_icmp_ge (tgt := 262) hx hb dL_law_6 (by decide) (fun _ => ?_) (fun h9 => absurd ((zi_le (by unfold inR; omega) (by unfold inR; omega)).mpr (by omega)) h9)
    refine lv_iload_n hx hb dL_law_262 rfl (lv_at hl 1 rfl) ?_
    refine va_forget (fun q hq => hS.2.2 q hq) ?_
    refine W.widen (k := 600172) (n := 7300668) (by omega) (by omega) ?_
    exact lw_ret hx hb hr hlocks dL_law_263
  | succ n ih =>
    intro r cl sl H locs ls hrn hcl hsl hS hl
    refine lv_iload_n hx hb dL_law_4 rfl (lv_at hl 2 rfl) ?_
    refine lv_iconst (v := Int32.ofInt 2) hx hb dL_law_5 (by decide) ?_
    refine lv_icmp_ge (tgt := 262) hx hb dL_law_6 (by decide) (fun h9 => absurd ((zi_le (by unfold inR; omega) (by unfold inR; omega)).mp h9) (by omega)) (fun _ => ?_)
    refine lv_iload_n hx hb dL_law_9 rfl (lv_at hl 1 rfl) ?_
    refine lv_if_eq (tgt := 262) hx hb dL_law_10 (by decide) (fun h9 => absurd h9 (by decide)) (fun _ => ?_)
    refine law_run l hl0 hL C0 (by omega) hcl hsl (fun H locs ls cl2 sl2 h1 h2 hS hl => ?_) H locs ls hS hl
    refine lv_iinc (k := 2) (lv' := [(2, iV ((r : Int) + 1)), (0, .ref b), (1, iV 1)]) hx hb dL_law_256 hl rfl (zi_add (r : Int) 1) (by decide) rfl (fun ls hl => ?_)
    refine lv_goto (tgt := 4) hx hb dL_law_259 (by decide) ?_
    have hl := lv_sub hl [1, 2, 0] rfl
    rw [show (r : Int) + 1 = ((r + 1 : Nat) : Int) by omega] at hl
    exact ih (r + 1) cl2 sl2 H locs ls (by omega) h1 h2 hS hl
theorem start_all (l : Launch) (hl0 : l.stackTraces = false) {p : Program} {e : Env} {s : State} {m : MethodId} {below : List Frame} {meth : Method} {c : Code} {b L : Nat} {xs : Nat → Int32} (hL : L ≤ 260) (C0 : lw_At p s m meth c b L xs) : W p l e room_1 s m #[Value.ref b] below meth c s.heap [] 0 0 (lw_Z below #[Value.ref b] s) (entryFrame m ([Value.ref b] : List Value).toArray 11) := by
  obtain ⟨hx, hb, hr, hml, hown, hts, hX, hbl, hlocks, hgv⟩ := id C0
  have hb : c.code = cL_law := hb
  have hS : va_S (fun q : Nat => s.heap.size ≤ q) s.heap s.heap [] := va_S.rf
  have hl := lv_entry ([.ref b]) (n := 11) (Nat.le_of_ble_eq_true rfl)
  rw [lg_entry_eq]
  generalize (lg_sl ([.ref b]) ++ List.replicate (11 - (lg_sl ([.ref b])).length) Slot.unset).toArray = ls at hl ⊢
  have hl : lv_has ls 11 [(0, .ref b)] := hl
  refine lv_iconst (v := Int32.ofInt 1) hx hb dL_law_0 (by decide) ?_
  refine lv_istore_n (lv' := [(1, iV 1), (0, .ref b)]) hx hb dL_law_1 rfl hl (by decide) rfl (fun ls hl => ?_)
  refine lv_iconst (v := Int32.ofInt 0) hx hb dL_law_2 (by decide) ?_
  refine lv_istore_n (lv' := [(2, iV ((0 : Nat) : Int)), (1, iV 1), (0, .ref b)]) hx hb dL_law_3 rfl hl (by decide) rfl (fun ls hl => ?_)
  exact law_outer l hl0 hL C0 2 0 0 0 s.heap [] ls rfl (Nat.le_refl _) (Nat.le_refl _) hS (lv_sub hl [2, 1, 0] rfl)
