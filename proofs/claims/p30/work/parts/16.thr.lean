/-! methods that throw: what a throw needs of the state, the contract of a call that ends by an exception -/
def BW : List Cond := [.declares (Bundle.initS "java/lang/RuntimeException"), .declares (Bundle.initS "java/lang/Exception"), .declares (Bundle.initS "java/lang/Throwable"), .castable "java/lang/IllegalArgumentException" "java/lang/IllegalArgumentException", .castable "java/lang/IndexOutOfBoundsException" "java/lang/IndexOutOfBoundsException", .castable "java/lang/IllegalStateException" "java/lang/IllegalStateException"]
def SL : List (Nat × String) := [(46, "no such direction"), (51, "a direction costs 1 to 9"), (220, "no such edge"), (68, "what is laid costs 0 to 50"), (217, "no such node"), (94, "a town is there, or there are six"), (224, "no such town"), (121, "two ways need two nodes"), (126, "a node is pinned as 0 to 2"), (145, "a bit is no node"), (226, "no such bubble"), (160, "breaths are 1 to 100"), (184, "of a bubble 0 to 4 is told"), (189, "kinds are 1 to 4"), (207, "of the energy 0 to 4 is told")]
def TH (A : Nat → Prop) (U : State) (H : Heap) : Prop :=
  vx_Zq Bundle.tN "UNASSIGNED_STACK" Bundle.steD A U H ∧ vx_Zq Bundle.tN "SUPPRESSED_SENTINEL" Bundle.listD A U H ∧ (∀ w ∈ BW, va_Nw w U) ∧ ∀ q ∈ SL, ∃ sa, vk_R RX5 q.1 q.2 sa U
theorem va_Nw.warmBW {s U : State} (hW : s.WarmedH U.vm) (h : ∀ w ∈ BW, va_Nw w s) : ∀ w ∈ BW, va_Nw w U := by
  intro w hw
  have h1 := h w hw
  simp only [BW, List.mem_cons, List.not_mem_nil, or_false] at hw
  rcases hw with rfl | rfl | rfl | rfl | rfl | rfl
  · exact va_Nw.warmD hW h1
  · exact va_Nw.warmD hW h1
  · exact va_Nw.warmD hW h1
  · exact va_Nw.warmC hW h1
  · exact va_Nw.warmC hW h1
  · exact va_Nw.warmC hW h1
theorem TH.go {A A' : Nat → Prop} {s U : State} {H0 H1 : Heap} (hW : s.WarmedH U.vm) (h : TH A s H0) (hA : ∀ q, A' q → A q) (hq : ∀ a : Nat, a < H0.size → ¬ A a → H1[a]? = H0[a]?) : TH A' U H1 := by
  obtain ⟨h1, h2, h3, h4⟩ := h
  refine ⟨((vx_Zq.moved hW.alike h1).kept hq).narrow hA, ((vx_Zq.moved hW.alike h2).kept hq).narrow hA, va_Nw.warmBW hW h3, fun q hm => ?_⟩
  obtain ⟨sa, h5⟩ := h4 q hm
  exact ⟨sa, vk_R.warm hW h5⟩
def excN (k : Nat) : String := if k = 1 then "java/lang/IndexOutOfBoundsException" else if k = 2 then "java/lang/IllegalArgumentException" else "java/lang/IllegalStateException"
def XE (w : WD) (D : va_G) (cI cZ : ClassId) (ad : Nat → Nat) (E : String) (M' : Mem) (A : Nat → Prop) : String → State → State → Prop := fun E' st t => E' = E ∧ va_P D vwCl (cellsOf w cI cZ ad M') t.heap ∧ va_F A st t
def pcT (w : WD) (D : va_G) (cI cZ : ClassId) (ad : Nat → Nat) (M : Mem) (sz : Nat) : State → Prop := fun U => U.heap.size = sz ∧ va_P D vwCl (cellsOf w cI cZ ad M) U.heap ∧ va_K D vwCl [(cI, .int), (cZ, .boolean)] U ∧ va_D (fun _ => True) (cellsOf w cI cZ ad M) ∧ TH (fA w ad sz) U U.heap
def MT (l : Launch) (y : MethodName) (ws : List Cond) (rm : Room) (w : WD) (ad : Nat → Nat) (As : List Value) (M : Mem) (E : String) (M' : Mem) : Prop :=
  ∀ (D : va_G) (cI cZ : ClassId) (sz : Nat), vx_Met l y ws rm (va_Pc As (pcT w D cI cZ ad M sz)) (fun _ _ _ _ => False) (XE w D cI cZ ad E M' (fA w ad sz)) 1 6 (fA w ad sz)
theorem mt_blind {w : WD} {ad : Nat → Nat} {D : va_G} {cI cZ : ClassId} {sz : Nat} {As : List Value} {M : Mem} : FrameBlind (va_Pc As (pcT w D cI cZ ad M sz)) := by
  intro a U g mk h
  obtain ⟨h1, h2, h3, h4, h5, h6⟩ := h
  have hW : U.WarmedH (U.calling g mk a).vm := State.WarmedH.refl U
  exact ⟨h1, h2, h3, va_K.moved (u := U) (U := U.calling g mk a) (Vm.Alike.refl U.vm) h4, h5, TH.go (s := U) (U := U.calling g mk a) hW h6 (fun _ h => h) (fun _ _ _ => rfl)⟩
def Cy (w : WD) (ad : Nat → Nat) (own : String) (cc : ByteArray) (nL : Nat) (Ts : List Cond) (R : Room) (l : Launch) (rt : Option FieldType) (Thr : String → Mem → Prop) (G : Mem → Nat → List (Nat × Value) → List Value → Prop) : Prop :=
  l.stackTraces = false ∧ 1 ≤ R.cells ∧ 6 ≤ R.slots ∧ ∃ (p : Program) (e : Env) (s : State) (m : MethodId) (args : Array Value) (below : List Frame) (meth : Method) (c : Code) (D : va_G) (cI cZ : ClassId) (A : Nat → Prop) (XC : String → State → State → Prop),
    p.tables.exec = Jvm.exec ∧ c.code = cc ∧ c.maxLocals = nL ∧ s.vm.findClass own = some m.cls ∧ (∀ w ∈ Ts, w.before args s = true) ∧ va_K D vwCl [(cI, .int), (cZ, .boolean)] s ∧ adOK w ad A ∧ (∀ q, s.heap.size ≤ q → A q) ∧ wOK w ∧
    (∀ x ∈ c.exceptionTable.toList, False) ∧ meth.locks = false ∧ TH A s s.heap ∧ (∀ (E : String) (M : Mem) (t : State), Thr E M → va_P D vwCl (cellsOf w cI cZ ad M) t.heap → va_F A s t → XC E s t) ∧
    G = fun M pc lv st => ∀ (H : Heap) (locs : List Loc) (ls : Array Slot), va_P D vwCl (cellsOf w cI cZ ad M) H → va_S A s.heap H locs → lv_has ls nL lv → W p l e R s m args below meth c H locs 0 0 (vx_MQ below (fun _ _ _ _ => False) XC args s 1 6 A) (F0 m pc ls st)
theorem Cy.cx {w : WD} {ad : Nat → Nat} {own : String} {cc : ByteArray} {nL : Nat} {Ts : List Cond} {R : Room} {l : Launch} {rt : Option FieldType} {Thr : String → Mem → Prop} {G : Mem → Nat → List (Nat × Value) → List Value → Prop} (cy : Cy w ad own cc nL Ts R l rt Thr G) : Cx w ad own cc nL Ts R l rt (fun _ _ => False) G := by
  obtain ⟨-, -, -, p, e, s, m, args, below, meth, c, D, cI, cZ, A, XC, hx, hb, hml, hown, hts, hK, hA, hsz, hw, -, -, -, -, hG⟩ := cy
  exact ⟨p, e, s, m, args, below, meth, c, D, cI, cZ, A, _, hx, hb, hml, hown, hts, hK, hA, hsz, hw, fun _ _ _ _ _ _ _ _ hp _ => hp.elim, hG⟩
theorem MT.of {l : Launch} {y : MethodName} {ws ws' : List Cond} {rm : Room} {w : WD} {ad : Nat → Nat} {As : List Value} {M M' : Mem} {E : String} {own : String} {cc : ByteArray} {nL : Nat} {rt : Option FieldType} (hy : plainName y.cls = true) (hw : ws = Cond.code y cc nL rt :: ws') (hown : y.cls = own) (hn : (lg_sl As).length ≤ nL) (hwok : wOK w) (hl : l.stackTraces = false) (hrm : 1 ≤ rm.cells ∧ 6 ≤ rm.slots)
    (body : ∀ G, Cy w ad own cc nL ws rm l rt (fun E2 M2 => E2 = E ∧ M2 = M') G → G M 0 (lv_args 0 As) []) : MT l y ws rm w ad As M E M' := by
  intro D cI cZ sz
  refine vx_ofW (cc := cc) (maxL := nL) (ret := rt) hy hw ?_
  intro p e s m args below meth c s₁ B hml htab hv
  obtain ⟨rfl, hsz, hP, hK, hD0, hT⟩ := hv
  subst hsz
  have had := adOK.of hD0
  rw [lg_entry_eq]
  exact body _ ⟨hl, hrm.1, hrm.2, p, e, s, m, As.toArray, below, meth, c, D, cI, cZ, fA w ad s.heap.size, XE w D cI cZ ad E M' (fA w ad s.heap.size), B.exec, B.bytes, hml, by rw [← hown]; exact findClass_of_methodNamed B.named, atoms_spec (ws := ws) B.pre, hK, ⟨had.1, fun k hk => Or.inl ⟨k, hk, rfl⟩⟩, fun q h => Or.inr h, hwok, htab, B.notSynchronized, hT, fun E2 M2 t h2 hP2 hF => ⟨h2.1, by rw [← h2.2]; exact hP2, hF⟩, rfl⟩ s.heap [] _ hP va_S.rf (lv_entry As hn)
section THROWS
variable {w : WD} {ad : Nat → Nat} {own : String} {cc : ByteArray} {nL : Nat} {Ts : List Cond} {R : Room} {l : Launch} {rt : Option FieldType} {Thr : String → Mem → Prop} {G : Mem → Nat → List (Nat × Value) → List Value → Prop}
variable {M : Mem} {pc : Nat} {lv : List (Nat × Value)} {st : List Value}
theorem ay_throw (cy : Cy w ad own cc nL Ts R l rt Thr G) {cls text : String} {ik is ic : Nat} (hown9 : own = RX5) (hcls : Bundle.fit cls = true) (hk : Cond.classLink own ik cls ∈ Ts) (hini : Cond.initialized cls ∈ Ts) (hat : ∀ w ∈ (vx_atS own ic cls ["java/lang/RuntimeException", "java/lang/Exception"]).filter goodWord, w ∈ Ts) (hbad : ∀ w ∈ (vx_atS own ic cls ["java/lang/RuntimeException", "java/lang/Exception"]).filter (fun w => !goodWord w), w ∈ BW)
    (hgood : ∀ w ∈ Cond.classLink own ik cls :: Cond.initialized cls :: vx_atS own ic cls ["java/lang/RuntimeException", "java/lang/Exception"], vx_ot w = true) (hSL : (is, text) ∈ SL) (hBW : ∀ w ∈ BW, w.onTables = true)
    (d0 : decode cc pc = .ok (.new ik, 3)) (d3 : decode cc (pc + 3) = .ok (.dup, 1)) (d4 : decode cc (pc + 4) = .ok (.ldc is, 2)) (d6 : decode cc (pc + 6) = .ok (.invokespecial ic, 3)) (d9 : decode cc (pc + 9) = .ok (.athrow, 1)) (hfr : 5 < R.frames) (hlo : (st.map fun v => v.category).sum + 82 ≤ R.locals) (hT : Thr cls M) : G M pc lv st := by
  obtain ⟨hl, hc1, hs6, p, e, s, m, args, below, meth, c, D, cI, cZ, A, XC, hx, hb, hml, hown, hts, hK, hA, hsz, hw, htab, hlocks, hTH, hXC, rfl⟩ := cy
  obtain ⟨hU, hN, hB, hstr⟩ := hTH
  obtain ⟨sa, hsa⟩ := hstr _ hSL
  intro H locs ls hP hS hl9
  subst hown9
  refine vx_throwS hx hb hl hown hcls (names := ["java/lang/RuntimeException", "java/lang/Exception"]) (by decide +kernel) (hts _ hk) (hts _ hini) hsa (vx_hat (B := BW) (fun w hw => hts _ (hat w hw)) hbad (fun w hw => va_Nw.use (hBW w hw) (hB w hw))) hgood hU hN hS (hl9.1.trans hml.symm) d0 d3 d4 d6 d9 (fun x hx => (htab x hx).elim) hfr hlo (by omega) (by omega) hlocks (fun t hal hsz9 hq => ?_) hS.2.2 (Nat.le_refl _) (Nat.le_refl _)
  refine hXC _ M t hT (hP.kept fun k q hk => hq _ (hP k q hk).lt) ⟨Nat.le_trans hS.1 hsz9, fun q h1 h2 => ?_⟩
  rw [hq q (Nat.lt_of_lt_of_le h1 hS.1)]
  exact hS.2.1 q h1 h2
theorem ay_call {p : Program} {e : Env} {s : State} {m : MethodId} {args : Array Value} {below : List Frame} {meth : Method} {c : Code} {D : va_G} {cI cZ : ClassId} {A : Nat → Prop} {XC : String → State → State → Prop} {H : Heap} {locs : List Loc} {ls : Array Slot} {stk : List Value} {M' : Mem} {E : String} (hA : adOK w ad A) (hsz : ∀ q, s.heap.size ≤ q → A q) (hS : va_S A s.heap H locs)
    (htab : ∀ x ∈ c.exceptionTable.toList, False) (hlocks : meth.locks = false) (hXC : ∀ (E : String) (M : Mem) (t : State), Thr E M → va_P D vwCl (cellsOf w cI cZ ad M) t.heap → va_F A s t → XC E s t) (hT : Thr E M')
    (hr : vx_Run p l e R s m args below meth c H locs 0 0 1 6 (F0 m pc ls stk) st (fun _ _ _ => False) (XE w D cI cZ ad E M' (fA w ad H.size)) (fA w ad H.size)) : W p l e R s m args below meth c H locs 0 0 (vx_MQ below (fun _ _ _ _ => False) XC args s 1 6 A) (F0 m pc ls stk) := by
  have hf := fA_le hA hsz hS.1
  intro T hT9 X
  rcases hr T hT9 X with ⟨v, st₀, t, T', L, h0, X', hL, e1, e2, hq, g⟩ | ⟨q, st₀, t, T', L, E2, ce, h0, X', hL, e1, e2, ⟨hE, hP2, hz, hk⟩, hce, hcv, hcl, g⟩
  · exact hq.elim
  · subst hE
    have hF : va_F A s T' := by
      refine ⟨Nat.le_trans hS.1 (by rw [e1, ← h0]; exact hz), fun q h1 h2 => ?_⟩
      have h3 : ¬ fA w ad H.size q := fun h => h2 (hf q h)
      rw [e1, hk q (by rw [h0]; exact Nat.lt_of_lt_of_le h1 hS.1) h3, h0]
      exact hS.2.1 q h1 h2
    have hlocs : ∀ z ∈ locs ++ L, A z.base := fun z hz => by
      rcases List.mem_append.mp hz with h | h
      · exact hS.2.2 z h
      · exact hf _ (hL z h)
    obtain ⟨t2, a1, b1⟩ := vx_out (p := p) (l := l) (e := e) (R := R) (s := s) (m := m) (args := args) (below := below) (meth := meth) (c := c) (H := T'.heap) (locs := locs ++ L) (cells := 1) (slots := 6) (ls := ls) (rest := st) (Qc := fun _ _ _ _ => False) (XC := XC) (pc := pc) (E := E2) (ce := ce) (q := q) (mc := 1) (ms := 6) (free := A) (fun x hx => (htab x hx).elim) hlocks (by rw [e1]; exact hce) hcv hcl (fun t9 h9 _ => hXC _ M' t9 hT (by rw [h9, e1]; exact hP2) ⟨by rw [h9]; exact hF.1, fun q h1 h2 => by rw [h9]; exact hF.2 q h1 h2⟩) hlocs (Nat.le_refl _) (Nat.le_refl _) T' rfl X'
    exact ⟨t2, g.trans a1, b1⟩
theorem ay_callS (cy : Cy w ad own cc nL Ts R l rt Thr G) {y : MethodName} {ws ws' : List Cond} {rm : Room} {As : List Value} {M' : Mem} {E : String} {index n maxL : Nat} {bytes : ByteArray} {ret : Option FieldType} {stk : List Value} (hM : MT l y ws rm w ad As M E M') (hT9 : Thr E M') (hT : GoodIn Ts (va_wsS own index y ws)) (hw9 : ws = Cond.code y bytes maxL ret :: ws') (hrc : rm.cells = 1 ∧ rm.slots = 6)
    (hd : y.cls ≠ "java/lang/invoke/MethodHandle" ∧ y.cls ≠ "java/lang/invoke/VarHandle" ∧ (parseMethodDescriptor y.desc).map (fun d => d.parameters.length) = some n) (hn : As.length = n) (hR : rm.frames + 1 ≤ R.frames ∧ 8 + (maxL + 11) + rm.locals ≤ R.locals) (hst : stk = As.reverse ++ st) (hcat : (st.map fun v => v.category).sum ≤ 8) (d : decode cc pc = .ok (.invokestatic index, 3)) : G M pc lv stk := by
  obtain ⟨hl, hc1, hs6, p, e, s, m, args, below, meth, c, D, cI, cZ, A, XC, hx, hb, hml, hown, hts, hK, hA, hsz, hw, htab, hlocks, hTH, hXC, rfl⟩ := cy
  intro H locs ls hP hS hl9
  have hcw := va_cwS (R := R) (s := s) (args := args) (own := own) (index := index) (bytes := bytes) (maxL := maxL) (ret := ret) (rm := rm) (mc := 1) (ms := 6) n hts hT hw9 hrc.1 hrc.2 hd hR
  exact ay_call (st := st) hA hsz hS htab hlocks hXC hT9 (vx_runS (As := As) (rest := st) ⟨hx, hb, hml, hown, hts⟩ (hM D cI cZ H.size) hcw ⟨mt_blind, fun U hU hW => ⟨rfl, by rw [hU], by rw [hU]; exact hP, va_K.moved hW.alike hK, (hA.D M).weaken (fun _ _ _ _ => trivial), TH.go hW hTH (fun q hq => fA_le hA hsz hS.1 q hq) (fun a h1 h2 => by rw [hU]; exact hS.2.1 a h1 h2)⟩⟩ rfl hn hl9.1 hst (lv_room hcat) d ⟨by omega, by omega⟩)
theorem ay_callV (cy : Cy w ad own cc nL Ts R l rt Thr G) {y : MethodName} {ws ws' : List Cond} {rm : Room} {As : List Value} {M' : Mem} {E : String} {q ci index n maxL N : Nat} {C : String} {T : u_T} {fs : List Value} {bytes : ByteArray} {ret : Option FieldType} {stk : List Value} (hM : MT l y ws rm w ad (.ref (ad q) :: As) M E M') (hT9 : Thr E M') (hT : GoodIn Ts (wsV own index C y ws)) (hw9 : ws = Cond.code y bytes maxL ret :: ws') (hq : w.2.1 ≤ q ∧ q < w.1) (ho : w.2.2.2.2 ad M q = (ci, fs)) (hc : vwCl[ci]? = some (C, T, N)) (hrc : rm.cells = 1 ∧ rm.slots = 6)
    (hd : y.cls = C ∧ y.cls ≠ "java/lang/invoke/MethodHandle" ∧ y.cls ≠ "java/lang/invoke/VarHandle" ∧ (parseMethodDescriptor y.desc).map (fun d => d.parameters.length) = some n) (hn : As.length = n) (hR : rm.frames + 1 ≤ R.frames ∧ 8 + (maxL + 11) + rm.locals ≤ R.locals) (hst : stk = As.reverse ++ .ref (ad q) :: st) (hcat : (st.map fun v => v.category).sum ≤ 8) (d : decode cc pc = .ok (.invokevirtual index, 3)) : G M pc lv stk := by
  obtain ⟨hl, hc1, hs6, p, e, s, m, args, below, meth, c, D, cI, cZ, A, XC, hx, hb, hml, hown, hts, hK, hA, hsz, hw, htab, hlocks, hTH, hXC, rfl⟩ := cy
  intro H locs ls hP hS hl9
  have hcw := cwV (R := R) (s := s) (args := args) (own := own) (C := C) (index := index) (bytes := bytes) (maxL := maxL) (ret := ret) (rm := rm) (mc := 1) (ms := 6) n hts hT hw9 hrc.1 hrc.2 hd hR
  exact ay_call (st := st) hA hsz hS htab hlocks hXC hT9 (vx_runV (As := As) (rest := st) (b := ad q) ⟨hx, hb, hml, hown, hts⟩ (hM D cI cZ H.size) hcw ⟨mt_blind, va_recv hK hP hc (q0 := q) (by rw [cells_get hq.2, wcell_obj hq.1, ho]), fun U hU hW => ⟨rfl, by rw [hU], by rw [hU]; exact hP, va_K.moved hW.alike hK, (hA.D M).weaken (fun _ _ _ _ => trivial), TH.go hW hTH (fun q hq => fA_le hA hsz hS.1 q hq) (fun a h1 h2 => by rw [hU]; exact hS.2.1 a h1 h2)⟩⟩ rfl hn hl9.1 hst (lv_room hcat) d ⟨by omega, by omega⟩)
end THROWS
theorem BW_tab : ∀ w ∈ BW, w.onTables = true := by decide +kernel
