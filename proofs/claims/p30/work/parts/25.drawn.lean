/-! the script, and the number that is drawn from it -/
section SROWS
variable {ad : Nat → Nat} {own : String} {cc : ByteArray} {nL : Nat} {Ts : List Cond} {R : Room} {l : Launch} {rt : Option FieldType} {tb : List ExceptionTableEntry → Prop} {scr : Option (Nat × Nat × (Nat → Int32))} {km : Nat} {Post : Option Value → KSt → Prop} {G : KSt → Nat → List (Nat × Value) → List Value → Prop}
variable {S : KSt} {pc : Nat} {lv : List (Nat × Value)} {st : List Value}
theorem bx_sld (cx : CK ad own cc nL Ts R l rt tb scr km Post G) {b L : Nat} {xs : Nat → Int32} {z : Int} (hs : scr = some (b, L, xs)) (hL : L < 2147483648) (hin : inB z L) (d : decode cc pc = .ok (.iaload, 1)) (k : G S (pc + 1) lv (iV (xs z.toNat).toInt :: st)) : G S pc lv (iV z :: .ref b :: st) := by
  obtain ⟨p, e, s, m, args, below, meth, c, D, cI, cZ, A, Q, c0, s0, hx, hb, hml, hown, hts, hK, hA, hsz, hw, htb, hTH, hNC, hscr, hroom, hend, rfl⟩ := cx
  obtain ⟨hX, hbl, hbA⟩ := hscr b L xs hs
  intro H locs ls hP hS hl
  refine va_sld hx hb hX hbl hbA hS (zi_in hin hL) d ?_
  have k := k H locs ls hP hS hl
  rw [zi_cl hin.1 (by have := hin.2; omega)]
  rw [show iV (xs z.toNat).toInt = .int (xs z.toNat) from by rw [iV, zi_asI]] at k
  exact k
theorem bx_slen (cx : CK ad own cc nL Ts R l rt tb scr km Post G) {b L : Nat} {xs : Nat → Int32} (hs : scr = some (b, L, xs)) (d : decode cc pc = .ok (.arraylength, 1)) (k : G S (pc + 1) lv (iV (L : Int) :: st)) : G S pc lv (.ref b :: st) := by
  obtain ⟨p, e, s, m, args, below, meth, c, D, cI, cZ, A, Q, c0, s0, hx, hb, hml, hown, hts, hK, hA, hsz, hw, htb, hTH, hNC, hscr, hroom, hend, rfl⟩ := cx
  obtain ⟨hX, hbl, hbA⟩ := hscr b L xs hs
  intro H locs ls hP hS hl
  refine va_slen hx hb hX hbl hbA hS d ?_
  exact k H locs ls hP hS hl
end SROWS
def pcS (D : va_G) (cI cZ : ClassId) (ad : Nat → Nat) (M : Mem) (b L : Nat) (xs : Nat → Int32) (sz : Nat) : State → Prop := fun U => pcK D cI cZ ad M sz U ∧ va_X b L xs U U.heap ∧ b < sz ∧ ∀ k, k < wC.1 → b ≠ ad k
def HS (l : Launch) (y : MethodName) (ws : List Cond) (rm : Room) (ad : Nat → Nat) (As : List Value) (b L : Nat) (xs : Nat → Int32) (M : Mem) (v : Option Value) : Prop :=
  ∀ (D : va_G) (cI cZ : ClassId) (sz : Nat), Met l y ws rm (va_Pc As (pcS D cI cZ ad M b L xs sz)) (qX v M (fun M2 t => va_P D vwCl (cellsOf wC cI cZ ad M2) t.heap) (fA wC ad sz)) 0 0 (fA wC ad sz)
theorem hs_blind {D : va_G} {cI cZ : ClassId} {ad : Nat → Nat} {M : Mem} {b L : Nat} {xs : Nat → Int32} {sz : Nat} {As : List Value} : FrameBlind (va_Pc As (pcS D cI cZ ad M b L xs sz)) := by
  intro a U g mk h
  obtain ⟨h1, ⟨h2, h3, h4, h5, h8, h9, h10⟩, h11, h12⟩ := h
  have hW : U.WarmedH (U.calling g mk a).vm := State.WarmedH.refl U
  exact ⟨h1, ⟨h2, h3, va_K.moved (u := U) (U := U.calling g mk a) (Vm.Alike.refl U.vm) h4, h5, TH.go (s := U) (U := U.calling g mk a) hW h8 (fun _ h => h) (fun _ _ _ => rfl), va_Nc.moved (u := U) (U := U.calling g mk a) (Vm.Alike.refl U.vm) h9, va_Nc.moved (u := U) (U := U.calling g mk a) (Vm.Alike.refl U.vm) h10⟩, va_X.moved (u := U) (U := U.calling g mk a) (Vm.Alike.refl U.vm) h11, h12⟩
theorem HS.of {l : Launch} {y : MethodName} {ws ws' : List Cond} {rm : Room} {ad : Nat → Nat} {As : List Value} {b L : Nat} {xs : Nat → Int32} {M : Mem} {v : Option Value} {own : String} {cc : ByteArray} {nL : Nat} {rt : Option FieldType} (hy : plainName y.cls = true) (hw : ws = Cond.code y cc nL rt :: ws') (hown : y.cls = own) (hn : (lg_sl As).length ≤ nL)
    (body : ∀ G, CK ad own cc nL ws rm l rt (fun _ => True) (some (b, L, xs)) 0 (fun v2 S => v2 = v ∧ S.2 = M) G → G (0, M) 0 (lv_args 0 As) []) : HS l y ws rm ad As b L xs M v := by
  intro D cI cZ sz
  refine Met.ofW (cc := cc) (maxL := nL) (ret := rt) hy hw ?_
  intro p e s m args below meth c s₁ B hml hv
  obtain ⟨rfl, ⟨hsz, hP, hK, had, hTH, hNC⟩, hX, hbs, hba⟩ := hv
  subst hsz
  rw [lg_entry_eq]
  refine body _ ⟨p, e, s, m, As.toArray, below, meth, c, D, cI, cZ, fA wC ad s.heap.size, MQ below (qX v M (fun M2 t => va_P D vwCl (cellsOf wC cI cZ ad M2) t.heap) (fA wC ad s.heap.size)) As.toArray s 0 (6 * 0) (fA wC ad s.heap.size), 0, 0, B.exec, B.bytes, hml, by rw [← hown]; exact findClass_of_methodNamed B.named, atoms_spec (ws := ws) B.pre, hK, ⟨had.1, fun k hk => Or.inl ⟨k, hk, rfl⟩⟩, fun q h => Or.inr h, wC_ok, trivial, hTH, hNC, ?_, (fun k hk => by show 0 + k ≤ rm.cells ∧ 0 + 6 * k ≤ rm.slots; omega), hk_end B.exec B.bytes B.returns B.notSynchronized, rfl⟩ s.heap [] _ hP va_S.rf (lv_entry As hn)
  intro b1 L1 xs1 e1
  cases e1
  refine ⟨hX, hbs, fun q => ?_⟩
  rcases q with ⟨k, hk, e2⟩ | q
  · exact hba k hk e2
  · exact absurd hbs (Nat.not_lt.mpr q)
section SCALL
variable {ad : Nat → Nat} {own : String} {cc : ByteArray} {nL : Nat} {Ts : List Cond} {R : Room} {l : Launch} {rt : Option FieldType} {tb : List ExceptionTableEntry → Prop} {scr : Option (Nat × Nat × (Nat → Int32))} {km : Nat} {Post : Option Value → KSt → Prop} {G : KSt → Nat → List (Nat × Value) → List Value → Prop}
variable {S : KSt} {pc : Nat} {lv : List (Nat × Value)} {st : List Value}
theorem bx_callD (cx : CK ad own cc nL Ts R l rt tb scr km Post G) {y : MethodName} {ws ws' : List Cond} {rm : Room} {As : List Value} {v : Option Value} {b L : Nat} {xs : Nat → Int32} {index n maxL : Nat} {bytes : ByteArray} {ret : Option FieldType} {stk : List Value} (hs : scr = some (b, L, xs)) (hM : HS l y ws rm ad As b L xs S.2 v) (hk : S.1 ≤ km) (hT : GoodIn Ts (va_wsS own index y ws)) (hw9 : ws = Cond.code y bytes maxL ret :: ws') (hrc : rm.cells = 0 ∧ rm.slots = 0)
    (hd : y.cls ≠ "java/lang/invoke/MethodHandle" ∧ y.cls ≠ "java/lang/invoke/VarHandle" ∧ (parseMethodDescriptor y.desc).map (fun d => d.parameters.length) = some n) (hn : As.length = n) (hR : rm.frames + 1 ≤ R.frames ∧ 8 + (maxL + 11) + rm.locals ≤ R.locals) (hst : stk = As.reverse ++ st) (hcat : (st.map fun v => v.category).sum ≤ 8) (d : decode cc pc = .ok (.invokestatic index, 3)) (k : G S (pc + 3) lv (v.toList ++ st)) : G S pc lv stk := by
  obtain ⟨p, e, s, m, args, below, meth, c, D, cI, cZ, A, Q, c0, s0, hx, hb, hml, hown, hts, hK, hA, hsz, hw, htb, hTH, hNC, hscr, hroom, hend, rfl⟩ := cx
  obtain ⟨hX, hbl, hbA⟩ := hscr b L xs hs
  intro H locs ls hP hS hl
  have hcw := va_cwS (R := R) (s := s) (args := args) (own := own) (index := index) (bytes := bytes) (maxL := maxL) (ret := ret) (rm := rm) (mc := 0) (ms := 0) n hts hT hw9 hrc.1 hrc.2 hd hR
  have hf := fA_le hA hsz hS.1
  have hr := va_runS (e := e) (meth := meth) (below := below) (cells := c0 + S.1) (slots := s0 + 6 * S.1) (locs := locs) (g := F0 m pc ls stk) (As := As) (rest := st) ⟨hx, hb, hml, hown, hts⟩ (hM D cI cZ H.size) hcw ⟨hs_blind, fun U hU hW => ⟨rfl, ⟨by rw [hU], by rw [hU]; exact hP, va_K.moved hW.alike hK, ⟨hA.1, fun _ _ => trivial⟩, TH.go hW hTH (fun q hq => hf q hq) (fun a h1 h2 => by rw [hU]; exact hS.2.1 a h1 h2), va_Nc.moved hW.alike hNC.1, va_Nc.moved hW.alike hNC.2⟩, (va_X.moved hW.alike hX).kept (by rw [hU]; exact hS.2.1 b hbl hbA), Nat.lt_of_lt_of_le hbl hS.1, fun k hk e9 => hbA (by rw [e9]; exact hA.2 k hk)⟩⟩ rfl hn hl.1 hst (lv_room hcat) d (by have := hroom S.1 hk; exact ⟨this.1, this.2⟩)
  intro T hT9 X
  obtain ⟨v1, st₀, t, T', L9, h0, X', hL, e1, e2, ⟨⟨hv, hb9⟩, hz, hk9⟩, g⟩ := hr T hT9 X
  cases hv
  have hS1 : va_S A s.heap T'.heap (locs ++ L9) := by
    refine ⟨Nat.le_trans hS.1 (by rw [e1, ← h0]; exact hz), fun q h1 h2 => ?_, fun z hz => ?_⟩
    · rw [e1, hk9 q (by rw [h0]; exact Nat.lt_of_lt_of_le h1 hS.1) (fun h => h2 (hf q h)), h0]
      exact hS.2.1 q h1 h2
    · rcases List.mem_append.mp hz with h | h
      · exact hS.2.2 z h
      · exact hf _ (hL z h)
  obtain ⟨t2, a1, b1⟩ := k T'.heap (locs ++ L9) ls (by rw [e1]; exact hb9) hS1 hl T' rfl X'
  exact ⟨t2, g t2 a1, b1⟩
end SCALL
def drV (L : Nat) (xs : Nat → Int32) (k : Int) : Int := zand (if k < (L : Int) then (xs k.toNat).toInt else 13927333 * (k + 3) + 17011) 2147483647
theorem drV_bd (L : Nat) (xs : Nat → Int32) (k : Int) : 0 ≤ drV L xs k ∧ drV L xs k < 2147483648 := by
  unfold drV
  generalize (if k < (L : Int) then (xs k.toNat).toInt else 13927333 * (k + 3) + 17011) = x
  have h : Int32.ofInt x &&& Int32.ofInt 2147483647 = nI ((Int32.ofInt x).toBitVec.toNat % 2 ^ 31) := pk_and (Int32.ofInt x) 31 (by decide)
  have h2 : (Int32.ofInt x).toBitVec.toNat % 2 ^ 31 < 2 ^ 31 := Nat.mod_lt _ (by decide)
  unfold zand
  rw [h, nI_toInt h2]
  omega
abbrev rmL_drawn : Room := { frames := 0, cells := 0, slots := 0, locals := 0 }
theorem hc_drawn_80 : Cond.constant RL 80 (13927333) ∈ wsL_drawn := by decide +kernel
theorem hc_drawn_81 : Cond.constant RL 81 (2147483647) ∈ wsL_drawn := by decide +kernel
set_option maxRecDepth 100000 in
set_option maxHeartbeats 4000000 in
theorem kL_drawn (l : Launch) (ad : Nat → Nat) (b L : Nat) (xs : Nat → Int32) (hL : L ≤ 260) (M : Mem) (k : Int) (hk : 0 ≤ k ∧ k < 80) : HS l yL_drawn wsL_drawn rmL_drawn ad [.ref b, iV (k)] b L xs M (some (iV (drV L xs k))) := by
  refine HS.of (cc := cL_drawn) (nL := 2) (rt := (some .int)) (own := RL) (by decide +kernel) rfl rfl (Nat.le_of_ble_eq_true rfl) (fun G cx => ?_)
  show G (0, M) 0 [(0, .ref b), (1, iV (k))] []
  have J : ∀ x : Int, x = (if k < (L : Int) then (xs k.toNat).toInt else 13927333 * (k + 3) + 17011) → G (0, M) 22 [(0, .ref b), (1, iV (k))] [iV x] := by
    intro x hx
    refine bx_ldc (z := 2147483647) cx dL_drawn_22 hc_drawn_81 (by decide) ?_
    refine bx_iand cx dL_drawn_24 ?_
    exact bx_iret cx dL_drawn_25 rfl (Nat.le_of_ble_eq_true rfl) ⟨by rw [hx]; rfl, rfl⟩
  refine bx_iload_n cx 1 dL_drawn_0 rfl rfl ?_
  refine bx_aload_n cx 0 dL_drawn_1 rfl rfl ?_
  refine bx_slen cx rfl dL_drawn_2 ?_
  refine bx_icmp_ge cx 12 dL_drawn_3 (by decide) ⟨by omega, by omega⟩ ⟨by omega, by omega⟩ (fun c => ?_) (fun c => ?_)
  · refine bx_ldc (z := 13927333) cx dL_drawn_12 hc_drawn_80 (by decide) ?_
    refine bx_iload_n cx 1 dL_drawn_14 rfl rfl ?_
    refine bx_iconst cx dL_drawn_15 ?_
    refine bx_iadd cx dL_drawn_16 ?_
    refine bx_imul cx dL_drawn_17 ?_
    refine bx_sipush (z := 17011) cx dL_drawn_18 (by decide) ?_
    refine bx_iadd cx dL_drawn_21 ?_
    exact J _ (by rw [if_neg (by omega)])
  · refine bx_aload_n cx 0 dL_drawn_6 rfl rfl ?_
    refine bx_iload_n cx 1 dL_drawn_7 rfl rfl ?_
    refine bx_sld cx rfl (by omega) ⟨by omega, by omega⟩ dL_drawn_8 ?_
    refine bx_goto cx 22 dL_drawn_9 (by decide) ?_
    exact J _ (by rw [if_pos (by omega)])
