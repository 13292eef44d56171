theorem hi_X5_init_X5 : ∀ x ∈ u_ws RX5 TX5 5, x ∈ wsX5_init := by decide +kernel
theorem hi_X5_init_X2 : ∀ x ∈ u_ws RX2 TX2 7, x ∈ wsX5_init := by decide +kernel
theorem hi_X5_init_X4 : ∀ x ∈ u_ws RX4 TX4 2, x ∈ wsX5_init := by decide +kernel
theorem hi_X5_init_X3 : ∀ x ∈ u_ws RX3 TX3 7, x ∈ wsX5_init := by decide +kernel
theorem hi_X5_init_X0 : ∀ x ∈ u_ws RX0 TX0 4, x ∈ wsX5_init := by decide +kernel
theorem hi_X5_init_X1 : ∀ x ∈ u_ws RX1 TX1 7, x ∈ wsX5_init := by decide +kernel
abbrev wE5 (h0 : Nat) (v : (Nat → Nat) × (Nat → ((Nat → Nat) × ClassId × ClassId))) : va_W := ((h0, .inr (5, [.ref (v.1 0), .ref (v.1 1), .ref (v.1 2), .ref (v.1 3), .ref (v.1 4)])) :: (((((wdG (v.1 0) (v.2 0).1 (v.2 0).2.1 gM2) ++ (wEX4 (v.1 1) (v.2 1))) ++ (wEX3 (v.1 2) (v.2 2))) ++ (wEX0 (v.1 3) (v.2 3))) ++ (wEX1 (v.1 4) (v.2 4))))
abbrev tE5 (v : (Nat → Nat) × (Nat → ((Nat → Nat) × ClassId × ClassId))) : List (ClassId × FieldType) := (((([((v.2 0).2.1, .int)] ++ (tEX4 (v.2 1))) ++ (tEX3 (v.2 2))) ++ (tEX0 (v.2 3))) ++ (tEX1 (v.2 4)))
def nst5 (U : State) : Prop := va_Nw (.methodLinkNest RX5 18 yX4_init "PlateauBench") U ∧ va_Nw (.methodLinkNest RX5 25 yX3_init "PlateauBench") U ∧ va_Nw (.methodLinkNest RX5 32 yX0_init "PlateauBench") U ∧ va_Nw (.methodLinkNest RX5 39 yX1_init "PlateauBench") U
abbrev rmX5_init : Room := { frames := 2, cells := 26, slots := 3395, locals := 48 }
abbrev pcX5_init (dC : Nat → ClassId) (dI : Nat → Nat → Nat) (h0 sz : Nat) := va_Pc [.ref h0] (fun U => U.heap.size = sz ∧ va_P (dC, dI) vwCl [(h0, .inr (5, [.null, .null, .null, .null, .null]))] U.heap ∧ va_K (dC, dI) vwCl [] U ∧ va_D (fun _ => True) [(h0, .inr (5, [.null, .null, .null, .null, .null]))] ∧ nst5 U)
set_option maxRecDepth 100000 in
set_option maxHeartbeats 8000000 in
theorem iX5 (l : Launch) (dC : Nat → ClassId) (dI : Nat → Nat → Nat) (h0 sz : Nat) : Met l yX5_init wsX5_init rmX5_init (pcX5_init dC dI h0 sz) (va_Qv (fun _ : (Nat → Nat) × (Nat → ((Nat → Nat) × ClassId × ClassId)) => True) (fun v t => va_P (dC, dI) vwCl (wE5 h0 v) t.heap ∧ va_K (dC, dI) vwCl (tE5 v) t ∧ va_D (va_A [(h0, .inr (5, [.null, .null, .null, .null, .null]))] sz) (wE5 h0 v)) (va_A [(h0, .inr (5, [.null, .null, .null, .null, .null]))] sz)) 26 3395 (va_A [(h0, .inr (5, [.null, .null, .null, .null, .null]))] sz) := by
  refine Met.ofW (cc := cX5_init) (maxL := 1) (ret := none) (by decide +kernel) rfl ?_
  intro p e s m args below meth c s₁ B hml hv
  obtain ⟨rfl, hsz, hP, hK, hD0, hN⟩ := hv
  have hx := B.exec
  have hb := B.bytes
  have hr := B.returns
  have hts := atoms_spec (ws := wsX5_init) B.pre
  have hown : s.vm.findClass RX5 = some m.cls := findClass_of_methodNamed B.named
  have hlocks := B.notSynchronized
  have hin : meth.name = "<init>" := (name_of_methodNamed B.named B.method).1
  subst hsz
  have hD := hD0.self (sz := s.heap.size)
  generalize hAe : va_A [(h0, .inr (5, [.null, .null, .null, .null, .null]))] s.heap.size = A at hD ⊢
  have hA : ∀ q : Nat, s.heap.size ≤ q → A q := fun q h => by rw [← hAe]; exact Or.inr h
  have hS : va_S A s.heap s.heap [] := va_S.rf
  have hP : va_P (dC, dI) vwCl [(h0, .inr (5, [.null, .null, .null, .null, .null]))] s.heap := hP
  have hl := lv_entry ([.ref h0]) (n := 1) (Nat.le_of_ble_eq_true rfl)
  rw [lg_entry_eq]
  generalize (lg_sl ([.ref h0]) ++ List.replicate (1 - (lg_sl ([.ref h0])).length) Slot.unset).toArray = ls at hl ⊢
  have hl : lv_has ls 1 [(0, .ref h0)] := hl
  refine lv_aload_n hx hb dX5_init_0 rfl (lv_at hl 0 rfl) ?_
  refine W.objInit hx hb hown (hts (.methodLink RX5 1 objectInit) (by decide +kernel)) (hts (.instanceMethod objectInit) (by decide +kernel)) (hts (.code objectInit ⟨#[0xb1]⟩ 1 none) (by decide +kernel)) rfl (by rw [hml]; exact hl.1) rfl dX5_init_1 (Nat.le_of_ble_eq_true rfl) (Nat.le_of_ble_eq_true rfl) ?_
  refine W.eq (g2 := F0 m 4 ls []) rfl ?_
  refine lv_aload_n hx hb dX5_init_4 rfl (lv_at hl 0 rfl) ?_
  refine va_new (ci := 2) (fs := [.null, .null, .null, .null, .null, .int 0, .int 0]) (C := RX2) (T := TX2) (N := 7) hx hb hts hi_X5_init_X2 tyX2 tyX2_ok hown (hts (.classLink RX5 7 RX2) (by decide +kernel)) (hts (.instantiable RX2 7) (by decide +kernel)) (hts (.initialized RX2) (by decide +kernel)) hK hP hD hS hA rfl (fun j hj => by revert j; decide +kernel) (Nat.le_of_ble_eq_true rfl) (Nat.le_of_ble_eq_true rfl) dX5_init_5 (fun a0 H hP hD hS => ?_)
  have hP : va_P (dC, dI) vwCl (((h0, .inr (5, [.null, .null, .null, .null, .null])) :: []) ++ [(a0, .inr (2, [.null, .null, .null, .null, .null, .int 0, .int 0]))]) H := hP
  have hD : va_D A (((h0, .inr (5, [.null, .null, .null, .null, .null])) :: []) ++ [(a0, .inr (2, [.null, .null, .null, .null, .null, .int 0, .int 0]))]) := hD
  refine lv_dup hx hb dX5_init_8 rfl ?_
  have hPc := hP.sub (ws' := [(a0, .inr (2, [.null, .null, .null, .null, .null, .int 0, .int 0]))]) [1] rfl
  have hDc := hD.sub (ws' := [(a0, .inr (2, [.null, .null, .null, .null, .null, .int 0, .int 0]))]) [1] (by decide) rfl
  have hKc := hK.sub (tys' := []) [] rfl
  have hFc := va_free (wc := [(a0, .inr (2, [.null, .null, .null, .null, .null, .int 0, .int 0]))]) hD hS hA [1] rfl
  refine va_callv (va_runI (As := []) (rest := [.ref a0, .ref h0]) ⟨hx, hb, hml, hown, hts⟩ (iX2 l dC dI a0 H.size) (cwI 0 hts gX5_init_X2_init rfl rfl rfl (hts (.initialized RX2) (by decide +kernel)) (hts (.methodLink RX5 9 yX2_init) (by decide +kernel)) (hts (.instanceMethod yX2_init) (by decide +kernel)) rfl (by decide +kernel) ⟨(Nat.le_of_ble_eq_true rfl), (Nat.le_of_ble_eq_true rfl)⟩) ⟨fun a U g mk q => by obtain ⟨q0, q1, qP, qK, qD⟩ := q; exact ⟨q0, q1, qP, va_K.moved (u := U) (U := U.calling g mk a) (Vm.Alike.refl U.vm) qK, qD⟩, fun U hU hW => ⟨rfl, by rw [hU], by rw [hU]; exact hPc, va_K.moved hW.alike hKc, hDc.weaken (fun _ _ _ _ => trivial)⟩⟩ rfl rfl hl.1 rfl (lv_room (Nat.le_of_ble_eq_true rfl)) dX5_init_9 ⟨(Nat.le_of_ble_eq_true rfl), (Nat.le_of_ble_eq_true rfl)⟩) hS (fun q _ h => hFc q h) hFc (fun u0 t H1 locs ht hvm hw hB hz1 hk1 hS => ?_)
  obtain ⟨hP1, hK1, hD1⟩ := hB
  rw [ht] at hP1
  have hK1 := va_K.moved hvm.symm hK1
  obtain ⟨hP, hD⟩ := va_join (wr := ((h0, .inr (5, [.null, .null, .null, .null, .null])) :: [])) (w1 := (wdG a0 u0.1 u0.2.1 gM2)) hP hD [1] [0] rfl rfl (by decide) (by decide) hk1 hFc hP1 hD1
  have hK := hK.app hK1
  generalize H1 = H at hP hS ⊢
  have hP : va_P (dC, dI) vwCl ((h0, .inr (5, [.null, .null, .null, .null, .null])) :: (wdG a0 u0.1 u0.2.1 gM2)) H := hP
  have hD : va_D A ((h0, .inr (5, [.null, .null, .null, .null, .null])) :: (wdG a0 u0.1 u0.2.1 gM2)) := hD
  have hK : va_K (dC, dI) vwCl [(u0.2.1, .int)] s := hK
  clear hP1 hK1 hD1 hPc hDc hKc hFc hk1 hz1 hw
  refine va_putF (D := (dC, dI)) (ci := 5) (v := .ref a0) (ty := .object "PlateauBench$Grid") (C := RX5) (T := TX5) (N := 5) hx hb hts hi_X5_init_X5 tyX5 tyX5_ok nmX5 hown hK hP hD hS 0 rfl rfl 0 (by decide) (hts (.fieldLink RX5 10 "PlateauBench" "grid" "LPlateauBench$Grid;") (by decide +kernel)) (fun _ h9 => h9) rfl hin rfl (by decide +kernel) rfl rfl (Nat.le_of_ble_eq_true rfl) dX5_init_12 (fun H locs hP hD hS => ?_)
  have hP : va_P (dC, dI) vwCl ((h0, .inr (5, [.ref a0, .null, .null, .null, .null])) :: (wdG a0 u0.1 u0.2.1 gM2)) H := hP
  have hD : va_D A ((h0, .inr (5, [.ref a0, .null, .null, .null, .null])) :: (wdG a0 u0.1 u0.2.1 gM2)) := hD
  refine lv_aload_n hx hb dX5_init_15 rfl (lv_at hl 0 rfl) ?_
  refine va_new (ci := 4) (fs := [.null, .null]) (C := RX4) (T := TX4) (N := 2) hx hb hts hi_X5_init_X4 tyX4 tyX4_ok hown (hts (.classLink RX5 16 RX4) (by decide +kernel)) (hts (.instantiable RX4 2) (by decide +kernel)) (hts (.initialized RX4) (by decide +kernel)) hK hP hD hS hA rfl (fun j hj => by revert j; decide +kernel) (Nat.le_of_ble_eq_true rfl) (Nat.le_of_ble_eq_true rfl) dX5_init_16 (fun a1 H hP hD hS => ?_)
  have hP : va_P (dC, dI) vwCl (((h0, .inr (5, [.ref a0, .null, .null, .null, .null])) :: (wdG a0 u0.1 u0.2.1 gM2)) ++ [(a1, .inr (4, [.null, .null]))]) H := hP
  have hD : va_D A (((h0, .inr (5, [.ref a0, .null, .null, .null, .null])) :: (wdG a0 u0.1 u0.2.1 gM2)) ++ [(a1, .inr (4, [.null, .null]))]) := hD
  refine lv_dup hx hb dX5_init_19 rfl ?_
  have hPc := hP.sub (ws' := [(a1, .inr (4, [.null, .null]))]) [7] rfl
  have hDc := hD.sub (ws' := [(a1, .inr (4, [.null, .null]))]) [7] (by decide) rfl
  have hKc := hK.sub (tys' := []) [] rfl
  have hFc := va_free (wc := [(a1, .inr (4, [.null, .null]))]) hD hS hA [7] rfl
  refine va_callv (va_runIN (As := []) (rest := [.ref a1, .ref h0]) ⟨hx, hb, hml, hown, hts⟩ (iX4 l dC dI a1 H.size) ⟨va_cnB 0 hts gX5_init_X4_init_n18 rfl rfl rfl hN.1 (hts (.initialized RX4) (by decide +kernel)) ⟨by decide, by decide, by decide +kernel⟩ ⟨(Nat.le_of_ble_eq_true rfl), (Nat.le_of_ble_eq_true rfl)⟩, rfl, hts (.instanceMethod yX4_init) (by decide +kernel)⟩ ⟨fun a U g mk q => by obtain ⟨q0, q1, qP, qK, qD⟩ := q; exact ⟨q0, q1, qP, va_K.moved (u := U) (U := U.calling g mk a) (Vm.Alike.refl U.vm) qK, qD⟩, fun U hU hW => ⟨rfl, by rw [hU], by rw [hU]; exact hPc, va_K.moved hW.alike hKc, hDc.weaken (fun _ _ _ _ => trivial)⟩⟩ rfl rfl hl.1 rfl (lv_room (Nat.le_of_ble_eq_true rfl)) dX5_init_20 ⟨(Nat.le_of_ble_eq_true rfl), (Nat.le_of_ble_eq_true rfl)⟩) hS (fun q _ h => hFc q h) hFc (fun u1 t H1 locs ht hvm hw hB hz1 hk1 hS => ?_)
  obtain ⟨hP1, hK1, hD1⟩ := hB
  rw [ht] at hP1
  have hK1 := va_K.moved hvm.symm hK1
  obtain ⟨hP, hD⟩ := va_join (wr := ((h0, .inr (5, [.ref a0, .null, .null, .null, .null])) :: (wdG a0 u0.1 u0.2.1 gM2))) (w1 := (wEX4 a1 u1)) hP hD [7] [0, 1, 2, 3, 4, 5, 6] rfl rfl (by decide) (by decide) hk1 hFc hP1 hD1
  have hK := hK.app hK1
  generalize H1 = H at hP hS ⊢
  have hP : va_P (dC, dI) vwCl ((h0, .inr (5, [.ref a0, .null, .null, .null, .null])) :: ((wdG a0 u0.1 u0.2.1 gM2) ++ (wEX4 a1 u1))) H := hP
  have hD : va_D A ((h0, .inr (5, [.ref a0, .null, .null, .null, .null])) :: ((wdG a0 u0.1 u0.2.1 gM2) ++ (wEX4 a1 u1))) := hD
  have hK : va_K (dC, dI) vwCl ([(u0.2.1, .int)] ++ (tEX4 u1)) s := hK
  clear hP1 hK1 hD1 hPc hDc hKc hFc hk1 hz1 hw
  refine va_putF (D := (dC, dI)) (ci := 5) (v := .ref a1) (ty := .object "PlateauBench$TwoWays") (C := RX5) (T := TX5) (N := 5) hx hb hts hi_X5_init_X5 tyX5 tyX5_ok nmX5 hown hK hP hD hS 0 rfl rfl 1 (by decide) (hts (.fieldLink RX5 19 "PlateauBench" "ways" "LPlateauBench$TwoWays;") (by decide +kernel)) (fun _ h9 => h9) rfl hin rfl (by decide +kernel) rfl rfl (Nat.le_of_ble_eq_true rfl) dX5_init_23 (fun H locs hP hD hS => ?_)
  have hP : va_P (dC, dI) vwCl ((h0, .inr (5, [.ref a0, .ref a1, .null, .null, .null])) :: ((wdG a0 u0.1 u0.2.1 gM2) ++ (wEX4 a1 u1))) H := hP
  have hD : va_D A ((h0, .inr (5, [.ref a0, .ref a1, .null, .null, .null])) :: ((wdG a0 u0.1 u0.2.1 gM2) ++ (wEX4 a1 u1))) := hD
  refine lv_aload_n hx hb dX5_init_26 rfl (lv_at hl 0 rfl) ?_
  refine va_new (ci := 3) (fs := [.null, .int 0, .null, .int 0, .null, .null, .null]) (C := RX3) (T := TX3) (N := 7) hx hb hts hi_X5_init_X3 tyX3 tyX3_ok hown (hts (.classLink RX5 23 RX3) (by decide +kernel)) (hts (.instantiable RX3 7) (by decide +kernel)) (hts (.initialized RX3) (by decide +kernel)) hK hP hD hS hA rfl (fun j hj => by revert j; decide +kernel) (Nat.le_of_ble_eq_true rfl) (Nat.le_of_ble_eq_true rfl) dX5_init_27 (fun a2 H hP hD hS => ?_)
  have hP : va_P (dC, dI) vwCl (((h0, .inr (5, [.ref a0, .ref a1, .null, .null, .null])) :: ((wdG a0 u0.1 u0.2.1 gM2) ++ (wEX4 a1 u1))) ++ [(a2, .inr (3, [.null, .int 0, .null, .int 0, .null, .null, .null]))]) H := hP
  have hD : va_D A (((h0, .inr (5, [.ref a0, .ref a1, .null, .null, .null])) :: ((wdG a0 u0.1 u0.2.1 gM2) ++ (wEX4 a1 u1))) ++ [(a2, .inr (3, [.null, .int 0, .null, .int 0, .null, .null, .null]))]) := hD
  refine lv_dup hx hb dX5_init_30 rfl ?_
  have hPc := hP.sub (ws' := [(a2, .inr (3, [.null, .int 0, .null, .int 0, .null, .null, .null]))]) [10] rfl
  have hDc := hD.sub (ws' := [(a2, .inr (3, [.null, .int 0, .null, .int 0, .null, .null, .null]))]) [10] (by decide) rfl
  have hKc := hK.sub (tys' := []) [] rfl
  have hFc := va_free (wc := [(a2, .inr (3, [.null, .int 0, .null, .int 0, .null, .null, .null]))]) hD hS hA [10] rfl
  refine va_callv (va_runIN (As := []) (rest := [.ref a2, .ref h0]) ⟨hx, hb, hml, hown, hts⟩ (iX3 l dC dI a2 H.size) ⟨va_cnB 0 hts gX5_init_X3_init_n25 rfl rfl rfl hN.2.1 (hts (.initialized RX3) (by decide +kernel)) ⟨by decide, by decide, by decide +kernel⟩ ⟨(Nat.le_of_ble_eq_true rfl), (Nat.le_of_ble_eq_true rfl)⟩, rfl, hts (.instanceMethod yX3_init) (by decide +kernel)⟩ ⟨fun a U g mk q => by obtain ⟨q0, q1, qP, qK, qD⟩ := q; exact ⟨q0, q1, qP, va_K.moved (u := U) (U := U.calling g mk a) (Vm.Alike.refl U.vm) qK, qD⟩, fun U hU hW => ⟨rfl, by rw [hU], by rw [hU]; exact hPc, va_K.moved hW.alike hKc, hDc.weaken (fun _ _ _ _ => trivial)⟩⟩ rfl rfl hl.1 rfl (lv_room (Nat.le_of_ble_eq_true rfl)) dX5_init_31 ⟨(Nat.le_of_ble_eq_true rfl), (Nat.le_of_ble_eq_true rfl)⟩) hS (fun q _ h => hFc q h) hFc (fun u2 t H1 locs ht hvm hw hB hz1 hk1 hS => ?_)
  obtain ⟨hP1, hK1, hD1⟩ := hB
  rw [ht] at hP1
  have hK1 := va_K.moved hvm.symm hK1
  obtain ⟨hP, hD⟩ := va_join (wr := ((h0, .inr (5, [.ref a0, .ref a1, .null, .null, .null])) :: ((wdG a0 u0.1 u0.2.1 gM2) ++ (wEX4 a1 u1)))) (w1 := (wEX3 a2 u2)) hP hD [10] [0, 1, 2, 3, 4, 5, 6, 7, 8, 9] rfl rfl (by decide) (by decide) hk1 hFc hP1 hD1
  have hK := hK.app hK1
  generalize H1 = H at hP hS ⊢
  have hP : va_P (dC, dI) vwCl ((h0, .inr (5, [.ref a0, .ref a1, .null, .null, .null])) :: (((wdG a0 u0.1 u0.2.1 gM2) ++ (wEX4 a1 u1)) ++ (wEX3 a2 u2))) H := hP
  have hD : va_D A ((h0, .inr (5, [.ref a0, .ref a1, .null, .null, .null])) :: (((wdG a0 u0.1 u0.2.1 gM2) ++ (wEX4 a1 u1)) ++ (wEX3 a2 u2))) := hD
  have hK : va_K (dC, dI) vwCl (([(u0.2.1, .int)] ++ (tEX4 u1)) ++ (tEX3 u2)) s := hK
  clear hP1 hK1 hD1 hPc hDc hKc hFc hk1 hz1 hw
  refine va_putF (D := (dC, dI)) (ci := 5) (v := .ref a2) (ty := .object "PlateauBench$Nets") (C := RX5) (T := TX5) (N := 5) hx hb hts hi_X5_init_X5 tyX5 tyX5_ok nmX5 hown hK hP hD hS 0 rfl rfl 2 (by decide) (hts (.fieldLink RX5 26 "PlateauBench" "nets" "LPlateauBench$Nets;") (by decide +kernel)) (fun _ h9 => h9) rfl hin rfl (by decide +kernel) rfl rfl (Nat.le_of_ble_eq_true rfl) dX5_init_34 (fun H locs hP hD hS => ?_)
  have hP : va_P (dC, dI) vwCl ((h0, .inr (5, [.ref a0, .ref a1, .ref a2, .null, .null])) :: (((wdG a0 u0.1 u0.2.1 gM2) ++ (wEX4 a1 u1)) ++ (wEX3 a2 u2))) H := hP
  have hD : va_D A ((h0, .inr (5, [.ref a0, .ref a1, .ref a2, .null, .null])) :: (((wdG a0 u0.1 u0.2.1 gM2) ++ (wEX4 a1 u1)) ++ (wEX3 a2 u2))) := hD
  refine lv_aload_n hx hb dX5_init_37 rfl (lv_at hl 0 rfl) ?_
  refine va_new (ci := 0) (fs := [.null, .null, .null, .null]) (C := RX0) (T := TX0) (N := 4) hx hb hts hi_X5_init_X0 tyX0 tyX0_ok hown (hts (.classLink RX5 30 RX0) (by decide +kernel)) (hts (.instantiable RX0 4) (by decide +kernel)) (hts (.initialized RX0) (by decide +kernel)) hK hP hD hS hA rfl (fun j hj => by revert j; decide +kernel) (Nat.le_of_ble_eq_true rfl) (Nat.le_of_ble_eq_true rfl) dX5_init_38 (fun a3 H hP hD hS => ?_)
  have hP : va_P (dC, dI) vwCl (((h0, .inr (5, [.ref a0, .ref a1, .ref a2, .null, .null])) :: (((wdG a0 u0.1 u0.2.1 gM2) ++ (wEX4 a1 u1)) ++ (wEX3 a2 u2))) ++ [(a3, .inr (0, [.null, .null, .null, .null]))]) H := hP
  have hD : va_D A (((h0, .inr (5, [.ref a0, .ref a1, .ref a2, .null, .null])) :: (((wdG a0 u0.1 u0.2.1 gM2) ++ (wEX4 a1 u1)) ++ (wEX3 a2 u2))) ++ [(a3, .inr (0, [.null, .null, .null, .null]))]) := hD
  refine lv_dup hx hb dX5_init_41 rfl ?_
  have hPc := hP.sub (ws' := [(a3, .inr (0, [.null, .null, .null, .null]))]) [16] rfl
  have hDc := hD.sub (ws' := [(a3, .inr (0, [.null, .null, .null, .null]))]) [16] (by decide) rfl
  have hKc := hK.sub (tys' := []) [] rfl
  have hFc := va_free (wc := [(a3, .inr (0, [.null, .null, .null, .null]))]) hD hS hA [16] rfl
  refine va_callv (va_runIN (As := []) (rest := [.ref a3, .ref h0]) ⟨hx, hb, hml, hown, hts⟩ (iX0 l dC dI a3 H.size) ⟨va_cnB 0 hts gX5_init_X0_init_n32 rfl rfl rfl hN.2.2.1 (hts (.initialized RX0) (by decide +kernel)) ⟨by decide, by decide, by decide +kernel⟩ ⟨(Nat.le_of_ble_eq_true rfl), (Nat.le_of_ble_eq_true rfl)⟩, rfl, hts (.instanceMethod yX0_init) (by decide +kernel)⟩ ⟨fun a U g mk q => by obtain ⟨q0, q1, qP, qK, qD⟩ := q; exact ⟨q0, q1, qP, va_K.moved (u := U) (U := U.calling g mk a) (Vm.Alike.refl U.vm) qK, qD⟩, fun U hU hW => ⟨rfl, by rw [hU], by rw [hU]; exact hPc, va_K.moved hW.alike hKc, hDc.weaken (fun _ _ _ _ => trivial)⟩⟩ rfl rfl hl.1 rfl (lv_room (Nat.le_of_ble_eq_true rfl)) dX5_init_42 ⟨(Nat.le_of_ble_eq_true rfl), (Nat.le_of_ble_eq_true rfl)⟩) hS (fun q _ h => hFc q h) hFc (fun u3 t H1 locs ht hvm hw hB hz1 hk1 hS => ?_)
  obtain ⟨hP1, hK1, hD1⟩ := hB
  rw [ht] at hP1
  have hK1 := va_K.moved hvm.symm hK1
  obtain ⟨hP, hD⟩ := va_join (wr := ((h0, .inr (5, [.ref a0, .ref a1, .ref a2, .null, .null])) :: (((wdG a0 u0.1 u0.2.1 gM2) ++ (wEX4 a1 u1)) ++ (wEX3 a2 u2)))) (w1 := (wEX0 a3 u3)) hP hD [16] [0, 1, 2, 3, 4, 5, 6, 7, 8, 9, 10, 11, 12, 13, 14, 15] rfl rfl (by decide) (by decide) hk1 hFc hP1 hD1
  have hK := hK.app hK1
  generalize H1 = H at hP hS ⊢
  have hP : va_P (dC, dI) vwCl ((h0, .inr (5, [.ref a0, .ref a1, .ref a2, .null, .null])) :: ((((wdG a0 u0.1 u0.2.1 gM2) ++ (wEX4 a1 u1)) ++ (wEX3 a2 u2)) ++ (wEX0 a3 u3))) H := hP
  have hD : va_D A ((h0, .inr (5, [.ref a0, .ref a1, .ref a2, .null, .null])) :: ((((wdG a0 u0.1 u0.2.1 gM2) ++ (wEX4 a1 u1)) ++ (wEX3 a2 u2)) ++ (wEX0 a3 u3))) := hD
  have hK : va_K (dC, dI) vwCl ((([(u0.2.1, .int)] ++ (tEX4 u1)) ++ (tEX3 u2)) ++ (tEX0 u3)) s := hK
  clear hP1 hK1 hD1 hPc hDc hKc hFc hk1 hz1 hw
  refine va_putF (D := (dC, dI)) (ci := 5) (v := .ref a3) (ty := .object "PlateauBench$Films") (C := RX5) (T := TX5) (N := 5) hx hb hts hi_X5_init_X5 tyX5 tyX5_ok nmX5 hown hK hP hD hS 0 rfl rfl 3 (by decide) (hts (.fieldLink RX5 33 "PlateauBench" "films" "LPlateauBench$Films;") (by decide +kernel)) (fun _ h9 => h9) rfl hin rfl (by decide +kernel) rfl rfl (Nat.le_of_ble_eq_true rfl) dX5_init_45 (fun H locs hP hD hS => ?_)
  have hP : va_P (dC, dI) vwCl ((h0, .inr (5, [.ref a0, .ref a1, .ref a2, .ref a3, .null])) :: ((((wdG a0 u0.1 u0.2.1 gM2) ++ (wEX4 a1 u1)) ++ (wEX3 a2 u2)) ++ (wEX0 a3 u3))) H := hP
  have hD : va_D A ((h0, .inr (5, [.ref a0, .ref a1, .ref a2, .ref a3, .null])) :: ((((wdG a0 u0.1 u0.2.1 gM2) ++ (wEX4 a1 u1)) ++ (wEX3 a2 u2)) ++ (wEX0 a3 u3))) := hD
  refine lv_aload_n hx hb dX5_init_48 rfl (lv_at hl 0 rfl) ?_
  refine va_new (ci := 1) (fs := [.null, .null, .null, .null, .null, .int 0, .int 0]) (C := RX1) (T := TX1) (N := 7) hx hb hts hi_X5_init_X1 tyX1 tyX1_ok hown (hts (.classLink RX5 37 RX1) (by decide +kernel)) (hts (.instantiable RX1 7) (by decide +kernel)) (hts (.initialized RX1) (by decide +kernel)) hK hP hD hS hA rfl (fun j hj => by revert j; decide +kernel) (Nat.le_of_ble_eq_true rfl) (Nat.le_of_ble_eq_true rfl) dX5_init_49 (fun a4 H hP hD hS => ?_)
  have hP : va_P (dC, dI) vwCl (((h0, .inr (5, [.ref a0, .ref a1, .ref a2, .ref a3, .null])) :: ((((wdG a0 u0.1 u0.2.1 gM2) ++ (wEX4 a1 u1)) ++ (wEX3 a2 u2)) ++ (wEX0 a3 u3))) ++ [(a4, .inr (1, [.null, .null, .null, .null, .null, .int 0, .int 0]))]) H := hP
  have hD : va_D A (((h0, .inr (5, [.ref a0, .ref a1, .ref a2, .ref a3, .null])) :: ((((wdG a0 u0.1 u0.2.1 gM2) ++ (wEX4 a1 u1)) ++ (wEX3 a2 u2)) ++ (wEX0 a3 u3))) ++ [(a4, .inr (1, [.null, .null, .null, .null, .null, .int 0, .int 0]))]) := hD
  refine lv_dup hx hb dX5_init_52 rfl ?_
  have hPc := hP.sub (ws' := [(a4, .inr (1, [.null, .null, .null, .null, .null, .int 0, .int 0]))]) [21] rfl
  have hDc := hD.sub (ws' := [(a4, .inr (1, [.null, .null, .null, .null, .null, .int 0, .int 0]))]) [21] (by decide) rfl
  have hKc := hK.sub (tys' := []) [] rfl
  have hFc := va_free (wc := [(a4, .inr (1, [.null, .null, .null, .null, .null, .int 0, .int 0]))]) hD hS hA [21] rfl
  refine va_callv (va_runIN (As := []) (rest := [.ref a4, .ref h0]) ⟨hx, hb, hml, hown, hts⟩ (iX1 l dC dI a4 H.size) ⟨va_cnB 0 hts gX5_init_X1_init_n39 rfl rfl rfl hN.2.2.2 (hts (.initialized RX1) (by decide +kernel)) ⟨by decide, by decide, by decide +kernel⟩ ⟨(Nat.le_of_ble_eq_true rfl), (Nat.le_of_ble_eq_true rfl)⟩, rfl, hts (.instanceMethod yX1_init) (by decide +kernel)⟩ ⟨fun a U g mk q => by obtain ⟨q0, q1, qP, qK, qD⟩ := q; exact ⟨q0, q1, qP, va_K.moved (u := U) (U := U.calling g mk a) (Vm.Alike.refl U.vm) qK, qD⟩, fun U hU hW => ⟨rfl, by rw [hU], by rw [hU]; exact hPc, va_K.moved hW.alike hKc, hDc.weaken (fun _ _ _ _ => trivial)⟩⟩ rfl rfl hl.1 rfl (lv_room (Nat.le_of_ble_eq_true rfl)) dX5_init_53 ⟨(Nat.le_of_ble_eq_true rfl), (Nat.le_of_ble_eq_true rfl)⟩) hS (fun q _ h => hFc q h) hFc (fun u4 t H1 locs ht hvm hw hB hz1 hk1 hS => ?_)
  obtain ⟨hP1, hK1, hD1⟩ := hB
  rw [ht] at hP1
  have hK1 := va_K.moved hvm.symm hK1
  obtain ⟨hP, hD⟩ := va_join (wr := ((h0, .inr (5, [.ref a0, .ref a1, .ref a2, .ref a3, .null])) :: ((((wdG a0 u0.1 u0.2.1 gM2) ++ (wEX4 a1 u1)) ++ (wEX3 a2 u2)) ++ (wEX0 a3 u3)))) (w1 := (wEX1 a4 u4)) hP hD [21] [0, 1, 2, 3, 4, 5, 6, 7, 8, 9, 10, 11, 12, 13, 14, 15, 16, 17, 18, 19, 20] rfl rfl (by decide) (by decide) hk1 hFc hP1 hD1
  have hK := hK.app hK1
  generalize H1 = H at hP hS ⊢
  have hP : va_P (dC, dI) vwCl ((h0, .inr (5, [.ref a0, .ref a1, .ref a2, .ref a3, .null])) :: (((((wdG a0 u0.1 u0.2.1 gM2) ++ (wEX4 a1 u1)) ++ (wEX3 a2 u2)) ++ (wEX0 a3 u3)) ++ (wEX1 a4 u4))) H := hP
  have hD : va_D A ((h0, .inr (5, [.ref a0, .ref a1, .ref a2, .ref a3, .null])) :: (((((wdG a0 u0.1 u0.2.1 gM2) ++ (wEX4 a1 u1)) ++ (wEX3 a2 u2)) ++ (wEX0 a3 u3)) ++ (wEX1 a4 u4))) := hD
  have hK : va_K (dC, dI) vwCl (((([(u0.2.1, .int)] ++ (tEX4 u1)) ++ (tEX3 u2)) ++ (tEX0 u3)) ++ (tEX1 u4)) s := hK
  clear hP1 hK1 hD1 hPc hDc hKc hFc hk1 hz1 hw
  refine va_putF (D := (dC, dI)) (ci := 5) (v := .ref a4) (ty := .object "PlateauBench$Foam") (C := RX5) (T := TX5) (N := 5) hx hb hts hi_X5_init_X5 tyX5 tyX5_ok nmX5 hown hK hP hD hS 0 rfl rfl 4 (by decide) (hts (.fieldLink RX5 40 "PlateauBench" "foam" "LPlateauBench$Foam;") (by decide +kernel)) (fun _ h9 => h9) rfl hin rfl (by decide +kernel) rfl rfl (Nat.le_of_ble_eq_true rfl) dX5_init_56 (fun H locs hP hD hS => ?_)
  have hP : va_P (dC, dI) vwCl ((h0, .inr (5, [.ref a0, .ref a1, .ref a2, .ref a3, .ref a4])) :: (((((wdG a0 u0.1 u0.2.1 gM2) ++ (wEX4 a1 u1)) ++ (wEX3 a2 u2)) ++ (wEX0 a3 u3)) ++ (wEX1 a4 u4))) H := hP
  have hD : va_D A ((h0, .inr (5, [.ref a0, .ref a1, .ref a2, .ref a3, .ref a4])) :: (((((wdG a0 u0.1 u0.2.1 gM2) ++ (wEX4 a1 u1)) ++ (wEX3 a2 u2)) ++ (wEX0 a3 u3)) ++ (wEX1 a4 u4))) := hD
  exact W.vret hx hb hr (fun t ht hW => ⟨⟨((fun k => ([a0, a1, a2, a3, a4] : List Nat).getD k 0), (fun k => ([u0, u1, u2, u3, u4] : List ((Nat → Nat) × ClassId × ClassId)).getD k u0)), rfl, trivial, by rw [ht]; exact hP, va_K.moved hW.alike hK, hD⟩, hS.F ht⟩) hS.2.2 dX5_init_59
