/-! the law's methods: the judgement over the world of one run (the class's cells, the law's two rows), with the exceptions made so far counted -/
abbrev KSt : Type := Nat × Mem
def NCs (U : State) : Prop := va_Nc "java/lang/IllegalArgumentException" "java/lang/IndexOutOfBoundsException" U ∧ va_Nc "java/lang/IllegalStateException" "java/lang/IndexOutOfBoundsException" U
def CK (ad : Nat → Nat) (own : String) (cc : ByteArray) (nL : Nat) (Ts : List Cond) (R : Room) (l : Launch) (rt : Option FieldType) (tb : List ExceptionTableEntry → Prop) (scr : Option (Nat × Nat × (Nat → Int32))) (km : Nat) (Post : Option Value → KSt → Prop) (G : KSt → Nat → List (Nat × Value) → List Value → Prop) : Prop :=
  ∃ (p : Program) (e : Env) (s : State) (m : MethodId) (args : Array Value) (below : List Frame) (meth : Method) (c : Code) (D : va_G) (cI cZ : ClassId) (A : Nat → Prop) (Q : State → Prop) (c0 s0 : Nat),
    p.tables.exec = Jvm.exec ∧ c.code = cc ∧ c.maxLocals = nL ∧ s.vm.findClass own = some m.cls ∧ (∀ w ∈ Ts, w.before args s = true) ∧ va_K D vwCl [(cI, .int), (cZ, .boolean)] s ∧ adOK wC ad A ∧ (∀ q, s.heap.size ≤ q → A q) ∧ wOK wC ∧ tb c.exceptionTable.toList ∧ TH A s s.heap ∧ NCs s ∧
    (∀ b L xs, scr = some (b, L, xs) → va_X b L xs s s.heap ∧ b < s.heap.size ∧ ¬ A b) ∧ (∀ k, k ≤ km → c0 + k ≤ R.cells ∧ s0 + 6 * k ≤ R.slots) ∧
    (∀ (S : KSt) (v : Option Value) (H : Heap) (locs : List Loc) (ls : Array Slot) (pc : Nat), S.1 ≤ km → va_P D vwCl (cellsOf wC cI cZ ad S.2) H → va_S A s.heap H locs → Post v S → retOK cc pc rt v → W p l e R s m args below meth c H locs (c0 + S.1) (s0 + 6 * S.1) Q (F0 m pc ls v.toList)) ∧
    G = fun S pc lv st => ∀ (H : Heap) (locs : List Loc) (ls : Array Slot), va_P D vwCl (cellsOf wC cI cZ ad S.2) H → va_S A s.heap H locs → lv_has ls nL lv → W p l e R s m args below meth c H locs (c0 + S.1) (s0 + 6 * S.1) Q (F0 m pc ls st)
/-! a law's method: with these arguments, from the memory M, it returns v, and the memory is M'; at most kk exceptions are made -/
def pcK (D : va_G) (cI cZ : ClassId) (ad : Nat → Nat) (M : Mem) (sz : Nat) : State → Prop := fun U => U.heap.size = sz ∧ va_P D vwCl (cellsOf wC cI cZ ad M) U.heap ∧ va_K D vwCl [(cI, .int), (cZ, .boolean)] U ∧ adOK wC ad (fun _ => True) ∧ TH (fA wC ad sz) U U.heap ∧ NCs U
def HK (l : Launch) (y : MethodName) (ws : List Cond) (rm : Room) (ad : Nat → Nat) (As : List Value) (kk : Nat) (M : Mem) (v : Option Value) (M' : Mem) : Prop :=
  ∀ (D : va_G) (cI cZ : ClassId) (sz : Nat), Met l y ws rm (va_Pc As (pcK D cI cZ ad M sz)) (qX v M' (fun M2 t => va_P D vwCl (cellsOf wC cI cZ ad M2) t.heap) (fA wC ad sz)) kk (6 * kk) (fA wC ad sz)
theorem hk_blind {D : va_G} {cI cZ : ClassId} {ad : Nat → Nat} {M : Mem} {sz : Nat} {As : List Value} : FrameBlind (va_Pc As (pcK D cI cZ ad M sz)) := by
  intro a U g mk h
  obtain ⟨h1, h2, h3, h4, h5, h8, h9, h10⟩ := h
  have hW : U.WarmedH (U.calling g mk a).vm := State.WarmedH.refl U
  exact ⟨h1, h2, h3, va_K.moved (u := U) (U := U.calling g mk a) (Vm.Alike.refl U.vm) h4, h5, TH.go (s := U) (U := U.calling g mk a) hW h8 (fun _ h => h) (fun _ _ _ => rfl), va_Nc.moved (u := U) (U := U.calling g mk a) (Vm.Alike.refl U.vm) h9, va_Nc.moved (u := U) (U := U.calling g mk a) (Vm.Alike.refl U.vm) h10⟩
theorem hk_end {p : Program} {e : Env} {s : State} {m : MethodId} {As : List Value} {below : List Frame} {meth : Method} {c : Code} {cc : ByteArray} {l : Launch} {R : Room} {D : va_G} {cI cZ : ClassId} {ad : Nat → Nat} {M' : Mem} {v : Option Value} {rt : Option FieldType} {kk : Nat} (hx : p.tables.exec = Jvm.exec) (hb : c.code = cc) (hr : meth.sig.returnType = rt) (hlocks : meth.locks = false) :
    ∀ (S : KSt) (v2 : Option Value) (H : Heap) (locs : List Loc) (ls : Array Slot) (pc : Nat), S.1 ≤ kk → va_P D vwCl (cellsOf wC cI cZ ad S.2) H → va_S (fA wC ad s.heap.size) s.heap H locs → (v2 = v ∧ S.2 = M') → retOK cc pc rt v2 → W p l e R s m As.toArray below meth c H locs (0 + S.1) (0 + 6 * S.1) (MQ below (qX v M' (fun M2 t => va_P D vwCl (cellsOf wC cI cZ ad M2) t.heap) (fA wC ad s.heap.size)) As.toArray s kk (6 * kk) (fA wC ad s.heap.size)) (F0 m pc ls v2.toList) := by
  intro S v2 H locs ls pc hk hP2 hS hp hret
  obtain ⟨rfl, rfl⟩ := hp
  refine W.widen (k := kk) (n := 6 * kk) (by omega) (by omega) ?_
  rcases hret with ⟨d, ty, x, h1, rfl, h3⟩ | ⟨d, rfl, h2⟩ | ⟨d, x, rfl, h2⟩
  · exact W.zret (ty := ty) hx hb (hr.trans h1) h3 (hlocks := hlocks) (fun t ht hW => ⟨⟨rfl, by show va_P _ _ _ t.heap; rw [ht]; exact hP2⟩, hS.F ht⟩) hS.2.2 d
  · exact W.vret hx hb (hr.trans h2) (hlocks := hlocks) (fun t ht hW => ⟨⟨rfl, by show va_P _ _ _ t.heap; rw [ht]; exact hP2⟩, hS.F ht⟩) hS.2.2 d
  · exact W.lret hx hb (hr.trans h2) (hlocks := hlocks) (fun t ht hW => ⟨⟨rfl, by show va_P _ _ _ t.heap; rw [ht]; exact hP2⟩, hS.F ht⟩) hS.2.2 d
theorem HK.ofW {l : Launch} {y : MethodName} {ws ws' : List Cond} {rm : Room} {ad : Nat → Nat} {As : List Value} {kk : Nat} {M M' : Mem} {v : Option Value} {own : String} {cc : ByteArray} {nL : Nat} {rt : Option FieldType} {hh : List (Nat × Nat × Nat × Nat)} (hy : plainName y.cls = true) (hw : ws = Cond.codeWith y cc nL rt hh :: ws') (hown : y.cls = own) (hn : (lg_sl As).length ≤ nL) (hrm : kk ≤ rm.cells ∧ 6 * kk ≤ rm.slots)
    (body : ∀ G, CK ad own cc nL ws rm l rt (fun t => t = tableOf hh) none kk (fun v2 S => v2 = v ∧ S.2 = M') G → G (0, M) 0 (lv_args 0 As) []) : HK l y ws rm ad As kk M v M' := by
  intro D cI cZ sz
  refine va_MetW (cc := cc) (maxL := nL) (ret := rt) (hh := hh) hy hw ?_
  intro p e s m args below meth c s₁ B hml hv
  obtain ⟨rfl, hsz, hP, hK, had, hTH, hNC⟩ := hv
  subst hsz
  rw [lg_entry_eq]
  have htab : c.exceptionTable.toList = tableOf hh := vx_table (x := y) B (atoms_spec (ws := ws) B.pre _ (by rw [hw]; exact List.mem_cons_self))
  exact body _ ⟨p, e, s, m, As.toArray, below, meth, c, D, cI, cZ, fA wC ad s.heap.size, MQ below (qX v M' (fun M2 t => va_P D vwCl (cellsOf wC cI cZ ad M2) t.heap) (fA wC ad s.heap.size)) As.toArray s kk (6 * kk) (fA wC ad s.heap.size), 0, 0, B.exec, B.bytes, hml, by rw [← hown]; exact findClass_of_methodNamed B.named, atoms_spec (ws := ws) B.pre, hK, ⟨had.1, fun k hk => Or.inl ⟨k, hk, rfl⟩⟩, fun q h => Or.inr h, wC_ok, htab, hTH, hNC, (fun b L xs h => by cases h), (fun k hk => by have h1 := hrm.1; have h2 := hrm.2; show 0 + k ≤ rm.cells ∧ 0 + 6 * k ≤ rm.slots; omega), hk_end B.exec B.bytes B.returns B.notSynchronized, rfl⟩ s.heap [] _ hP va_S.rf (lv_entry As hn)
theorem HK.of {l : Launch} {y : MethodName} {ws ws' : List Cond} {rm : Room} {ad : Nat → Nat} {As : List Value} {kk : Nat} {M M' : Mem} {v : Option Value} {own : String} {cc : ByteArray} {nL : Nat} {rt : Option FieldType} (hy : plainName y.cls = true) (hw : ws = Cond.code y cc nL rt :: ws') (hown : y.cls = own) (hn : (lg_sl As).length ≤ nL) (hrm : kk ≤ rm.cells ∧ 6 * kk ≤ rm.slots)
    (body : ∀ G, CK ad own cc nL ws rm l rt (fun _ => True) none kk (fun v2 S => v2 = v ∧ S.2 = M') G → G (0, M) 0 (lv_args 0 As) []) : HK l y ws rm ad As kk M v M' := by
  intro D cI cZ sz
  refine Met.ofW (cc := cc) (maxL := nL) (ret := rt) hy hw ?_
  intro p e s m args below meth c s₁ B hml hv
  obtain ⟨rfl, hsz, hP, hK, had, hTH, hNC⟩ := hv
  subst hsz
  rw [lg_entry_eq]
  exact body _ ⟨p, e, s, m, As.toArray, below, meth, c, D, cI, cZ, fA wC ad s.heap.size, MQ below (qX v M' (fun M2 t => va_P D vwCl (cellsOf wC cI cZ ad M2) t.heap) (fA wC ad s.heap.size)) As.toArray s kk (6 * kk) (fA wC ad s.heap.size), 0, 0, B.exec, B.bytes, hml, by rw [← hown]; exact findClass_of_methodNamed B.named, atoms_spec (ws := ws) B.pre, hK, ⟨had.1, fun k hk => Or.inl ⟨k, hk, rfl⟩⟩, fun q h => Or.inr h, wC_ok, trivial, hTH, hNC, (fun b L xs h => by cases h), (fun k hk => by have h1 := hrm.1; have h2 := hrm.2; show 0 + k ≤ rm.cells ∧ 0 + 6 * k ≤ rm.slots; omega), hk_end B.exec B.bytes B.returns B.notSynchronized, rfl⟩ s.heap [] _ hP va_S.rf (lv_entry As hn)
section LROWS
variable {ad : Nat → Nat} {own : String} {cc : ByteArray} {nL : Nat} {Ts : List Cond} {R : Room} {l : Launch} {rt : Option FieldType} {tb : List ExceptionTableEntry → Prop} {scr : Option (Nat × Nat × (Nat → Int32))} {km : Nat} {Post : Option Value → KSt → Prop} {G : KSt → Nat → List (Nat × Value) → List Value → Prop}
variable {S : KSt} {pc : Nat} {lv : List (Nat × Value)} {st : List Value}
theorem bx_iconst (cx : CK ad own cc nL Ts R l rt tb scr km Post G) {n : Int} (d : decode cc pc = .ok (.iconst n, 1)) (k : G S (pc + 1) lv (iV n :: st)) : G S pc lv st := by
  obtain ⟨p, e, s, m, args, below, meth, c, D, cI, cZ, A, Q, c0, s0, hx, hb, hml, hown, hts, hK, hA, hsz, hw, htb, hTH, hNC, hscr, hroom, hend, rfl⟩ := cx
  exact fun H locs ls hP hS hl => lv_iconst hx hb d rfl (k H locs ls hP hS hl)
theorem bx_bipush (cx : CK ad own cc nL Ts R l rt tb scr km Post G) {n z : Int} (d : decode cc pc = .ok (.bipush n, 2)) (hz : (Int8.ofInt n).toInt32 = Int32.ofInt z) (k : G S (pc + 2) lv (iV z :: st)) : G S pc lv st := by
  obtain ⟨p, e, s, m, args, below, meth, c, D, cI, cZ, A, Q, c0, s0, hx, hb, hml, hown, hts, hK, hA, hsz, hw, htb, hTH, hNC, hscr, hroom, hend, rfl⟩ := cx
  exact fun H locs ls hP hS hl => lv_bipush hx hb d hz (k H locs ls hP hS hl)
theorem bx_sipush (cx : CK ad own cc nL Ts R l rt tb scr km Post G) {n z : Int} (d : decode cc pc = .ok (.sipush n, 3)) (hz : (Int16.ofInt n).toInt32 = Int32.ofInt z) (k : G S (pc + 3) lv (iV z :: st)) : G S pc lv st := by
  obtain ⟨p, e, s, m, args, below, meth, c, D, cI, cZ, A, Q, c0, s0, hx, hb, hml, hown, hts, hK, hA, hsz, hw, htb, hTH, hNC, hscr, hroom, hend, rfl⟩ := cx
  exact fun H locs ls hP hS hl => lv_sipush hx hb d hz (k H locs ls hP hS hl)
theorem bx_ldc (cx : CK ad own cc nL Ts R l rt tb scr km Post G) {i : Nat} {v : Int32} {z : Int} (d : decode cc pc = .ok (.ldc i, 2)) (hc : Cond.constant own i v ∈ Ts) (hz : v = Int32.ofInt z) (k : G S (pc + 2) lv (iV z :: st)) : G S pc lv st := by
  obtain ⟨p, e, s, m, args, below, meth, c, D, cI, cZ, A, Q, c0, s0, hx, hb, hml, hown, hts, hK, hA, hsz, hw, htb, hTH, hNC, hscr, hroom, hend, rfl⟩ := cx
  subst hz
  exact fun H locs ls hP hS hl => lv_ldc hx hb hown (hts _ hc) d (k H locs ls hP hS hl)
theorem bx_ldc_w (cx : CK ad own cc nL Ts R l rt tb scr km Post G) {i : Nat} {v : Int32} {z : Int} (d : decode cc pc = .ok (.ldc_w i, 3)) (hc : Cond.constant own i v ∈ Ts) (hz : v = Int32.ofInt z) (k : G S (pc + 3) lv (iV z :: st)) : G S pc lv st := by
  obtain ⟨p, e, s, m, args, below, meth, c, D, cI, cZ, A, Q, c0, s0, hx, hb, hml, hown, hts, hK, hA, hsz, hw, htb, hTH, hNC, hscr, hroom, hend, rfl⟩ := cx
  subst hz
  exact fun H locs ls hP hS hl => lv_ldcw hx hb hown (hts _ hc) d (k H locs ls hP hS hl)
theorem bx_iload_n (cx : CK ad own cc nL Ts R l rt tb scr km Post G) {q : Fin 4} {i : Nat} {x : Int} (j : Nat) (d : decode cc pc = .ok (.iload_n q, 1)) (hi : (q : Nat) = i) (hj : lv[j]? = some (i, iV x)) (k : G S (pc + 1) lv (iV x :: st)) : G S pc lv st := by
  obtain ⟨p, e, s, m, args, below, meth, c, D, cI, cZ, A, Q, c0, s0, hx, hb, hml, hown, hts, hK, hA, hsz, hw, htb, hTH, hNC, hscr, hroom, hend, rfl⟩ := cx
  exact fun H locs ls hP hS hl => lv_iload_n hx hb d hi (lv_at hl j hj) (k H locs ls hP hS hl)
theorem bx_iload (cx : CK ad own cc nL Ts R l rt tb scr km Post G) {i : Nat} {x : Int} (j : Nat) (d : decode cc pc = .ok (.iload i, 2)) (hj : lv[j]? = some (i, iV x)) (k : G S (pc + 2) lv (iV x :: st)) : G S pc lv st := by
  obtain ⟨p, e, s, m, args, below, meth, c, D, cI, cZ, A, Q, c0, s0, hx, hb, hml, hown, hts, hK, hA, hsz, hw, htb, hTH, hNC, hscr, hroom, hend, rfl⟩ := cx
  exact fun H locs ls hP hS hl => lv_iload hx hb d (lv_at hl j hj) (k H locs ls hP hS hl)
theorem bx_aload_n (cx : CK ad own cc nL Ts R l rt tb scr km Post G) {q : Fin 4} {i x : Nat} (j : Nat) (d : decode cc pc = .ok (.aload_n q, 1)) (hi : (q : Nat) = i) (hj : lv[j]? = some (i, .ref x)) (k : G S (pc + 1) lv (.ref x :: st)) : G S pc lv st := by
  obtain ⟨p, e, s, m, args, below, meth, c, D, cI, cZ, A, Q, c0, s0, hx, hb, hml, hown, hts, hK, hA, hsz, hw, htb, hTH, hNC, hscr, hroom, hend, rfl⟩ := cx
  exact fun H locs ls hP hS hl => lv_aload_n hx hb d hi (lv_at hl j hj) (k H locs ls hP hS hl)
theorem bx_aload (cx : CK ad own cc nL Ts R l rt tb scr km Post G) {i x : Nat} (j : Nat) (d : decode cc pc = .ok (.aload i, 2)) (hj : lv[j]? = some (i, .ref x)) (k : G S (pc + 2) lv (.ref x :: st)) : G S pc lv st := by
  obtain ⟨p, e, s, m, args, below, meth, c, D, cI, cZ, A, Q, c0, s0, hx, hb, hml, hown, hts, hK, hA, hsz, hw, htb, hTH, hNC, hscr, hroom, hend, rfl⟩ := cx
  exact fun H locs ls hP hS hl => lv_aload hx hb d (lv_at hl j hj) (k H locs ls hP hS hl)
theorem bx_lload_n (cx : CK ad own cc nL Ts R l rt tb scr km Post G) {q : Fin 4} {i : Nat} {x : Int64} (j : Nat) (d : decode cc pc = .ok (.lload_n q, 1)) (hi : (q : Nat) = i) (hj : lv[j]? = some (i, .long x)) (k : G S (pc + 1) lv (.long x :: st)) : G S pc lv st := by
  obtain ⟨p, e, s, m, args, below, meth, c, D, cI, cZ, A, Q, c0, s0, hx, hb, hml, hown, hts, hK, hA, hsz, hw, htb, hTH, hNC, hscr, hroom, hend, rfl⟩ := cx
  exact fun H locs ls hP hS hl => lv_lload_n hx hb d hi (lv_at hl j hj) (k H locs ls hP hS hl)
theorem bx_istore_n (cx : CK ad own cc nL Ts R l rt tb scr km Post G) {q : Fin 4} {i : Nat} {x : Int} {lv' : List (Nat × Value)} (d : decode cc pc = .ok (.istore_n q, 1)) (hi : (q : Nat) = i) (hn : i < nL) (hl' : (i, iV x) :: lv.filter (fun q => !(q.1 == i) && !(q.1 + 1 == i && q.2.category == 2)) = lv') (k : G S (pc + 1) lv' st) : G S pc lv (iV x :: st) := by
  obtain ⟨p, e, s, m, args, below, meth, c, D, cI, cZ, A, Q, c0, s0, hx, hb, hml, hown, hts, hK, hA, hsz, hw, htb, hTH, hNC, hscr, hroom, hend, rfl⟩ := cx
  exact fun H locs ls hP hS hl => lv_istore_n hx hb d hi hl hn hl' (fun ls' h' => k H locs ls' hP hS h')
theorem bx_istore (cx : CK ad own cc nL Ts R l rt tb scr km Post G) {i : Nat} {x : Int} {lv' : List (Nat × Value)} (d : decode cc pc = .ok (.istore i, 2)) (hn : i < nL) (hl' : (i, iV x) :: lv.filter (fun q => !(q.1 == i) && !(q.1 + 1 == i && q.2.category == 2)) = lv') (k : G S (pc + 2) lv' st) : G S pc lv (iV x :: st) := by
  obtain ⟨p, e, s, m, args, below, meth, c, D, cI, cZ, A, Q, c0, s0, hx, hb, hml, hown, hts, hK, hA, hsz, hw, htb, hTH, hNC, hscr, hroom, hend, rfl⟩ := cx
  exact fun H locs ls hP hS hl => lv_istore hx hb d hl hn hl' (fun ls' h' => k H locs ls' hP hS h')
theorem bx_lstore_n (cx : CK ad own cc nL Ts R l rt tb scr km Post G) {q : Fin 4} {i : Nat} {x : Int64} {lv' : List (Nat × Value)} (d : decode cc pc = .ok (.lstore_n q, 1)) (hi : (q : Nat) = i) (hn : i + 1 < nL) (hl' : (i, Value.long x) :: lv.filter (fun q => !(q.1 == i) && (!(q.1 == i + 1) && !(q.1 + 1 == i && q.2.category == 2))) = lv') (k : G S (pc + 1) lv' st) : G S pc lv (.long x :: st) := by
  obtain ⟨p, e, s, m, args, below, meth, c, D, cI, cZ, A, Q, c0, s0, hx, hb, hml, hown, hts, hK, hA, hsz, hw, htb, hTH, hNC, hscr, hroom, hend, rfl⟩ := cx
  exact fun H locs ls hP hS hl => lv_lstore_n hx hb d hi hl hn hl' (fun ls' h' => k H locs ls' hP hS h')
theorem bx_iinc (cx : CK ad own cc nL Ts R l rt tb scr km Post G) {i : Nat} {n x : Int} {lv' : List (Nat × Value)} (j : Nat) (d : decode cc pc = .ok (.iinc i n, 3)) (hj : lv[j]? = some (i, iV x)) (hn : i < nL) (hl' : (i, iV (x + n)) :: lv.filter (fun q => !(q.1 == i) && !(q.1 + 1 == i && q.2.category == 2)) = lv') (k : G S (pc + 3) lv' st) : G S pc lv st := by
  obtain ⟨p, e, s, m, args, below, meth, c, D, cI, cZ, A, Q, c0, s0, hx, hb, hml, hown, hts, hK, hA, hsz, hw, htb, hTH, hNC, hscr, hroom, hend, rfl⟩ := cx
  exact fun H locs ls hP hS hl => lv_iinc hx hb d hl hj (zi_add x n) hn hl' (fun ls' h' => k H locs ls' hP hS h')
theorem bx_iadd (cx : CK ad own cc nL Ts R l rt tb scr km Post G) {x y : Int} (d : decode cc pc = .ok (.iadd, 1)) (k : G S (pc + 1) lv (iV (x + y) :: st)) : G S pc lv (iV y :: iV x :: st) := by
  obtain ⟨p, e, s, m, args, below, meth, c, D, cI, cZ, A, Q, c0, s0, hx, hb, hml, hown, hts, hK, hA, hsz, hw, htb, hTH, hNC, hscr, hroom, hend, rfl⟩ := cx
  intro H locs ls hP hS hl
  have k := k H locs ls hP hS hl
  rw [show iV (x + y) = .int (Int32.ofInt x + Int32.ofInt y) from by rw [zi_add]] at k
  exact lv_iadd hx hb d k
theorem bx_isub (cx : CK ad own cc nL Ts R l rt tb scr km Post G) {x y : Int} (d : decode cc pc = .ok (.isub, 1)) (k : G S (pc + 1) lv (iV (x - y) :: st)) : G S pc lv (iV y :: iV x :: st) := by
  obtain ⟨p, e, s, m, args, below, meth, c, D, cI, cZ, A, Q, c0, s0, hx, hb, hml, hown, hts, hK, hA, hsz, hw, htb, hTH, hNC, hscr, hroom, hend, rfl⟩ := cx
  intro H locs ls hP hS hl
  have k := k H locs ls hP hS hl
  rw [show iV (x - y) = .int (Int32.ofInt x - Int32.ofInt y) from by rw [zi_sub]] at k
  exact lv_isub hx hb d k
theorem bx_imul (cx : CK ad own cc nL Ts R l rt tb scr km Post G) {x y : Int} (d : decode cc pc = .ok (.imul, 1)) (k : G S (pc + 1) lv (iV (x * y) :: st)) : G S pc lv (iV y :: iV x :: st) := by
  obtain ⟨p, e, s, m, args, below, meth, c, D, cI, cZ, A, Q, c0, s0, hx, hb, hml, hown, hts, hK, hA, hsz, hw, htb, hTH, hNC, hscr, hroom, hend, rfl⟩ := cx
  intro H locs ls hP hS hl
  have k := k H locs ls hP hS hl
  rw [show iV (x * y) = .int (Int32.ofInt x * Int32.ofInt y) from by rw [zi_mul]] at k
  exact lv_imul hx hb d k
theorem bx_ineg (cx : CK ad own cc nL Ts R l rt tb scr km Post G) {x : Int} (d : decode cc pc = .ok (.ineg, 1)) (k : G S (pc + 1) lv (iV (-x) :: st)) : G S pc lv (iV x :: st) := by
  obtain ⟨p, e, s, m, args, below, meth, c, D, cI, cZ, A, Q, c0, s0, hx, hb, hml, hown, hts, hK, hA, hsz, hw, htb, hTH, hNC, hscr, hroom, hend, rfl⟩ := cx
  intro H locs ls hP hS hl
  have k := k H locs ls hP hS hl
  rw [show iV (-x) = .int (-Int32.ofInt x) from by rw [zi_neg]] at k
  exact lv_ineg hx hb d k
theorem bx_iand (cx : CK ad own cc nL Ts R l rt tb scr km Post G) {x y : Int} (d : decode cc pc = .ok (.iand, 1)) (k : G S (pc + 1) lv (iV (zand x y) :: st)) : G S pc lv (iV y :: iV x :: st) := by
  obtain ⟨p, e, s, m, args, below, meth, c, D, cI, cZ, A, Q, c0, s0, hx, hb, hml, hown, hts, hK, hA, hsz, hw, htb, hTH, hNC, hscr, hroom, hend, rfl⟩ := cx
  intro H locs ls hP hS hl
  have k := k H locs ls hP hS hl
  rw [show iV (zand x y) = .int (Int32.ofInt x &&& Int32.ofInt y) from by rw [iV, zand, zi_asI]] at k
  exact lv_iand hx hb d k
theorem bx_ior (cx : CK ad own cc nL Ts R l rt tb scr km Post G) {x y : Int} (d : decode cc pc = .ok (.ior, 1)) (k : G S (pc + 1) lv (iV (zor x y) :: st)) : G S pc lv (iV y :: iV x :: st) := by
  obtain ⟨p, e, s, m, args, below, meth, c, D, cI, cZ, A, Q, c0, s0, hx, hb, hml, hown, hts, hK, hA, hsz, hw, htb, hTH, hNC, hscr, hroom, hend, rfl⟩ := cx
  intro H locs ls hP hS hl
  have k := k H locs ls hP hS hl
  rw [show iV (zor x y) = .int (Int32.ofInt x ||| Int32.ofInt y) from by rw [iV, zor, zi_asI]] at k
  exact lv_ior hx hb d k
theorem bx_ixor (cx : CK ad own cc nL Ts R l rt tb scr km Post G) {x y : Int} (d : decode cc pc = .ok (.ixor, 1)) (k : G S (pc + 1) lv (iV (zxor x y) :: st)) : G S pc lv (iV y :: iV x :: st) := by
  obtain ⟨p, e, s, m, args, below, meth, c, D, cI, cZ, A, Q, c0, s0, hx, hb, hml, hown, hts, hK, hA, hsz, hw, htb, hTH, hNC, hscr, hroom, hend, rfl⟩ := cx
  intro H locs ls hP hS hl
  have k := k H locs ls hP hS hl
  rw [show iV (zxor x y) = .int (Int32.ofInt x ^^^ Int32.ofInt y) from by rw [iV, zxor, zi_asI]] at k
  exact lv_ixor hx hb d k
theorem bx_ishl (cx : CK ad own cc nL Ts R l rt tb scr km Post G) {x y : Int} (d : decode cc pc = .ok (.ishl, 1)) (k : G S (pc + 1) lv (iV (zshl x y) :: st)) : G S pc lv (iV y :: iV x :: st) := by
  obtain ⟨p, e, s, m, args, below, meth, c, D, cI, cZ, A, Q, c0, s0, hx, hb, hml, hown, hts, hK, hA, hsz, hw, htb, hTH, hNC, hscr, hroom, hend, rfl⟩ := cx
  intro H locs ls hP hS hl
  have k := k H locs ls hP hS hl
  rw [show iV (zshl x y) = .int (Int32.ofInt x <<< (Int32.ofInt y &&& 31)) from by rw [iV, zshl, zi_asI]] at k
  exact lv_ishl hx hb d k
theorem bx_ishr (cx : CK ad own cc nL Ts R l rt tb scr km Post G) {x y : Int} (d : decode cc pc = .ok (.ishr, 1)) (k : G S (pc + 1) lv (iV (zshr x y) :: st)) : G S pc lv (iV y :: iV x :: st) := by
  obtain ⟨p, e, s, m, args, below, meth, c, D, cI, cZ, A, Q, c0, s0, hx, hb, hml, hown, hts, hK, hA, hsz, hw, htb, hTH, hNC, hscr, hroom, hend, rfl⟩ := cx
  intro H locs ls hP hS hl
  have k := k H locs ls hP hS hl
  rw [show iV (zshr x y) = .int (Int32.ofInt x >>> (Int32.ofInt y &&& 31)) from by rw [iV, zshr, zi_asI]] at k
  exact lv_ishr hx hb d k
theorem bx_iushr (cx : CK ad own cc nL Ts R l rt tb scr km Post G) {x y : Int} (d : decode cc pc = .ok (.iushr, 1)) (k : G S (pc + 1) lv (iV (zushr x y) :: st)) : G S pc lv (iV y :: iV x :: st) := by
  obtain ⟨p, e, s, m, args, below, meth, c, D, cI, cZ, A, Q, c0, s0, hx, hb, hml, hown, hts, hK, hA, hsz, hw, htb, hTH, hNC, hscr, hroom, hend, rfl⟩ := cx
  intro H locs ls hP hS hl
  exact lv_iushr hx hb d (by rw [zushr, zi_asI]) (k H locs ls hP hS hl)
theorem bx_idiv (cx : CK ad own cc nL Ts R l rt tb scr km Post G) {x y : Int} (d : decode cc pc = .ok (.idiv, 1)) (g : (0 ≤ x ∧ x < 2147483648) ∧ 0 < y ∧ y < 2147483648) (k : G S (pc + 1) lv (iV (x / y) :: st)) : G S pc lv (iV y :: iV x :: st) := by
  obtain ⟨p, e, s, m, args, below, meth, c, D, cI, cZ, A, Q, c0, s0, hx, hb, hml, hown, hts, hK, hA, hsz, hw, htb, hTH, hNC, hscr, hroom, hend, rfl⟩ := cx
  intro H locs ls hP hS hl
  have k := k H locs ls hP hS hl
  rw [show iV (x / y) = .int (Int32.ofInt x / Int32.ofInt y) from by rw [iV, zi_div g.1 g.2]] at k
  exact lv_idiv hx hb d (zi_ne0 g.2) k
theorem bx_irem (cx : CK ad own cc nL Ts R l rt tb scr km Post G) {x y : Int} (d : decode cc pc = .ok (.irem, 1)) (g : (0 ≤ x ∧ x < 2147483648) ∧ 0 < y ∧ y < 2147483648) (k : G S (pc + 1) lv (iV (x % y) :: st)) : G S pc lv (iV y :: iV x :: st) := by
  obtain ⟨p, e, s, m, args, below, meth, c, D, cI, cZ, A, Q, c0, s0, hx, hb, hml, hown, hts, hK, hA, hsz, hw, htb, hTH, hNC, hscr, hroom, hend, rfl⟩ := cx
  intro H locs ls hP hS hl
  have k := k H locs ls hP hS hl
  rw [show iV (x % y) = .int (Int32.ofInt x - Int32.ofInt x / Int32.ofInt y * Int32.ofInt y) from by rw [iV, zi_rem g.1 g.2]] at k
  exact lv_irem hx hb d (zi_ne0 g.2) k
theorem bx_i2l (cx : CK ad own cc nL Ts R l rt tb scr km Post G) {x : Int} (d : decode cc pc = .ok (.i2l, 1)) (k : G S (pc + 1) lv (.long (Int32.ofInt x).toInt64 :: st)) : G S pc lv (iV x :: st) := by
  obtain ⟨p, e, s, m, args, below, meth, c, D, cI, cZ, A, Q, c0, s0, hx, hb, hml, hown, hts, hK, hA, hsz, hw, htb, hTH, hNC, hscr, hroom, hend, rfl⟩ := cx
  exact fun H locs ls hP hS hl => lv_i2l hx hb d rfl (k H locs ls hP hS hl)
theorem bx_lconst (cx : CK ad own cc nL Ts R l rt tb scr km Post G) {n : Fin 2} {v : Int64} (d : decode cc pc = .ok (.lconst n, 1)) (hv : Int64.ofNat (n : Nat) = v) (k : G S (pc + 1) lv (.long v :: st)) : G S pc lv st := by
  obtain ⟨p, e, s, m, args, below, meth, c, D, cI, cZ, A, Q, c0, s0, hx, hb, hml, hown, hts, hK, hA, hsz, hw, htb, hTH, hNC, hscr, hroom, hend, rfl⟩ := cx
  exact fun H locs ls hP hS hl => lv_lconst hx hb d hv (k H locs ls hP hS hl)
theorem bx_ldc2 (cx : CK ad own cc nL Ts R l rt tb scr km Post G) {i : Nat} {v : Int64} (d : decode cc pc = .ok (.ldc2_w i, 3)) (hc : Cond.constantLong own i v ∈ Ts) (k : G S (pc + 3) lv (.long v :: st)) : G S pc lv st := by
  obtain ⟨p, e, s, m, args, below, meth, c, D, cI, cZ, A, Q, c0, s0, hx, hb, hml, hown, hts, hK, hA, hsz, hw, htb, hTH, hNC, hscr, hroom, hend, rfl⟩ := cx
  exact fun H locs ls hP hS hl => lv_ldc2 hx hb hown (hts _ hc) d (k H locs ls hP hS hl)
theorem bx_lshl (cx : CK ad own cc nL Ts R l rt tb scr km Post G) {x : Int64} {y : Int} (d : decode cc pc = .ok (.lshl, 1)) (k : G S (pc + 1) lv (.long (llshl x y) :: st)) : G S pc lv (iV y :: .long x :: st) := by
  obtain ⟨p, e, s, m, args, below, meth, c, D, cI, cZ, A, Q, c0, s0, hx, hb, hml, hown, hts, hK, hA, hsz, hw, htb, hTH, hNC, hscr, hroom, hend, rfl⟩ := cx
  exact fun H locs ls hP hS hl => lv_lshl hx hb d rfl (k H locs ls hP hS hl)
theorem bx_lshr (cx : CK ad own cc nL Ts R l rt tb scr km Post G) {x : Int64} {y : Int} (d : decode cc pc = .ok (.lshr, 1)) (k : G S (pc + 1) lv (.long (llshr x y) :: st)) : G S pc lv (iV y :: .long x :: st) := by
  obtain ⟨p, e, s, m, args, below, meth, c, D, cI, cZ, A, Q, c0, s0, hx, hb, hml, hown, hts, hK, hA, hsz, hw, htb, hTH, hNC, hscr, hroom, hend, rfl⟩ := cx
  exact fun H locs ls hP hS hl => lv_lshr hx hb d rfl (k H locs ls hP hS hl)
theorem bx_lushr (cx : CK ad own cc nL Ts R l rt tb scr km Post G) {x : Int64} {y : Int} (d : decode cc pc = .ok (.lushr, 1)) (k : G S (pc + 1) lv (.long (llushr x y) :: st)) : G S pc lv (iV y :: .long x :: st) := by
  obtain ⟨p, e, s, m, args, below, meth, c, D, cI, cZ, A, Q, c0, s0, hx, hb, hml, hown, hts, hK, hA, hsz, hw, htb, hTH, hNC, hscr, hroom, hend, rfl⟩ := cx
  exact fun H locs ls hP hS hl => lv_lushr hx hb d rfl (k H locs ls hP hS hl)
theorem bx_land (cx : CK ad own cc nL Ts R l rt tb scr km Post G) {x y : Int64} (d : decode cc pc = .ok (.land, 1)) (k : G S (pc + 1) lv (.long (x &&& y) :: st)) : G S pc lv (.long y :: .long x :: st) := by
  obtain ⟨p, e, s, m, args, below, meth, c, D, cI, cZ, A, Q, c0, s0, hx, hb, hml, hown, hts, hK, hA, hsz, hw, htb, hTH, hNC, hscr, hroom, hend, rfl⟩ := cx
  exact fun H locs ls hP hS hl => lv_land hx hb d (k H locs ls hP hS hl)
theorem bx_lor (cx : CK ad own cc nL Ts R l rt tb scr km Post G) {x y : Int64} (d : decode cc pc = .ok (.lor, 1)) (k : G S (pc + 1) lv (.long (x ||| y) :: st)) : G S pc lv (.long y :: .long x :: st) := by
  obtain ⟨p, e, s, m, args, below, meth, c, D, cI, cZ, A, Q, c0, s0, hx, hb, hml, hown, hts, hK, hA, hsz, hw, htb, hTH, hNC, hscr, hroom, hend, rfl⟩ := cx
  exact fun H locs ls hP hS hl => lv_lor hx hb d (k H locs ls hP hS hl)
theorem bx_lxor (cx : CK ad own cc nL Ts R l rt tb scr km Post G) {x y : Int64} (d : decode cc pc = .ok (.lxor, 1)) (k : G S (pc + 1) lv (.long (x ^^^ y) :: st)) : G S pc lv (.long y :: .long x :: st) := by
  obtain ⟨p, e, s, m, args, below, meth, c, D, cI, cZ, A, Q, c0, s0, hx, hb, hml, hown, hts, hK, hA, hsz, hw, htb, hTH, hNC, hscr, hroom, hend, rfl⟩ := cx
  exact fun H locs ls hP hS hl => lv_lxor hx hb d (k H locs ls hP hS hl)
theorem bx_lcmp (cx : CK ad own cc nL Ts R l rt tb scr km Post G) {x y : Int64} (d : decode cc pc = .ok (.lcmp, 1)) (k : G S (pc + 1) lv (iV (zlcmp x y) :: st)) : G S pc lv (.long y :: .long x :: st) := by
  obtain ⟨p, e, s, m, args, below, meth, c, D, cI, cZ, A, Q, c0, s0, hx, hb, hml, hown, hts, hK, hA, hsz, hw, htb, hTH, hNC, hscr, hroom, hend, rfl⟩ := cx
  intro H locs ls hP hS hl
  have k := k H locs ls hP hS hl
  rw [show iV (zlcmp x y) = .int (lg_cmp x y) from by rw [iV, zlcmp, zi_asI]] at k
  exact W.lcmp hx hb d k
theorem bx_pop (cx : CK ad own cc nL Ts R l rt tb scr km Post G) {v : Value} (d : decode cc pc = .ok (.pop, 1)) (hv : v.category = 1) (k : G S (pc + 1) lv st) : G S pc lv (v :: st) := by
  obtain ⟨p, e, s, m, args, below, meth, c, D, cI, cZ, A, Q, c0, s0, hx, hb, hml, hown, hts, hK, hA, hsz, hw, htb, hTH, hNC, hscr, hroom, hend, rfl⟩ := cx
  exact fun H locs ls hP hS hl => lv_pop hx hb d hv (k H locs ls hP hS hl)
theorem bx_dup (cx : CK ad own cc nL Ts R l rt tb scr km Post G) {v : Value} (d : decode cc pc = .ok (.dup, 1)) (hv : v.category = 1) (k : G S (pc + 1) lv (v :: v :: st)) : G S pc lv (v :: st) := by
  obtain ⟨p, e, s, m, args, below, meth, c, D, cI, cZ, A, Q, c0, s0, hx, hb, hml, hown, hts, hK, hA, hsz, hw, htb, hTH, hNC, hscr, hroom, hend, rfl⟩ := cx
  exact fun H locs ls hP hS hl => lv_dup hx hb d hv (k H locs ls hP hS hl)
theorem bx_dup2 (cx : CK ad own cc nL Ts R l rt tb scr km Post G) {v u : Value} (d : decode cc pc = .ok (.dup2, 1)) (hv : v.category = 1) (hu : u.category = 1) (k : G S (pc + 1) lv (v :: u :: v :: u :: st)) : G S pc lv (v :: u :: st) := by
  obtain ⟨p, e, s, m, args, below, meth, c, D, cI, cZ, A, Q, c0, s0, hx, hb, hml, hown, hts, hK, hA, hsz, hw, htb, hTH, hNC, hscr, hroom, hend, rfl⟩ := cx
  exact fun H locs ls hP hS hl => lv_dup2_11 hx hb d hv hu (k H locs ls hP hS hl)
theorem bx_goto (cx : CK ad own cc nL Ts R l rt tb scr km Post G) {off : Int} (tgt : Nat) (d : decode cc pc = .ok (.goto off, 3)) (ht : (pc : Int) + off = (tgt : Int)) (k : G S tgt lv st) : G S pc lv st := by
  obtain ⟨p, e, s, m, args, below, meth, c, D, cI, cZ, A, Q, c0, s0, hx, hb, hml, hown, hts, hK, hA, hsz, hw, htb, hTH, hNC, hscr, hroom, hend, rfl⟩ := cx
  exact fun H locs ls hP hS hl => lv_goto hx hb d ht (k H locs ls hP hS hl)
theorem bx_icmp_eq (cx : CK ad own cc nL Ts R l rt tb scr km Post G) {x y off : Int} (tgt : Nat) (d : decode cc pc = .ok (.if_icmp .eq off, 3)) (ht : (pc : Int) + off = (tgt : Int)) (gx : inR x) (gy : inR y) (kt : x = y → G S tgt lv st) (kf : ¬ (x = y) → G S (pc + 3) lv st) : G S pc lv (iV y :: iV x :: st) := by
  obtain ⟨p, e, s, m, args, below, meth, c, D, cI, cZ, A, Q, c0, s0, hx, hb, hml, hown, hts, hK, hA, hsz, hw, htb, hTH, hNC, hscr, hroom, hend, rfl⟩ := cx
  intro H locs ls hP hS hl
  have hc := zi_eq gx gy
  exact lv_icmp_eq hx hb d ht (fun h => kt (hc.mp h) H locs ls hP hS hl) (fun h => kf (fun h2 => h (hc.mpr h2)) H locs ls hP hS hl)
theorem bx_icmp_ne (cx : CK ad own cc nL Ts R l rt tb scr km Post G) {x y off : Int} (tgt : Nat) (d : decode cc pc = .ok (.if_icmp .ne off, 3)) (ht : (pc : Int) + off = (tgt : Int)) (gx : inR x) (gy : inR y) (kf : x = y → G S (pc + 3) lv st) (kt : ¬ x = y → G S tgt lv st) : G S pc lv (iV y :: iV x :: st) := by
  obtain ⟨p, e, s, m, args, below, meth, c, D, cI, cZ, A, Q, c0, s0, hx, hb, hml, hown, hts, hK, hA, hsz, hw, htb, hTH, hNC, hscr, hroom, hend, rfl⟩ := cx
  intro H locs ls hP hS hl
  have hc := zi_eq gx gy
  exact lv_icmp_ne hx hb d ht (fun h => kt (fun h2 => h (hc.mpr h2)) H locs ls hP hS hl) (fun h => kf (hc.mp h) H locs ls hP hS hl)
theorem bx_icmp_lt (cx : CK ad own cc nL Ts R l rt tb scr km Post G) {x y off : Int} (tgt : Nat) (d : decode cc pc = .ok (.if_icmp .lt off, 3)) (ht : (pc : Int) + off = (tgt : Int)) (gx : inR x) (gy : inR y) (kt : x < y → G S tgt lv st) (kf : ¬ (x < y) → G S (pc + 3) lv st) : G S pc lv (iV y :: iV x :: st) := by
  obtain ⟨p, e, s, m, args, below, meth, c, D, cI, cZ, A, Q, c0, s0, hx, hb, hml, hown, hts, hK, hA, hsz, hw, htb, hTH, hNC, hscr, hroom, hend, rfl⟩ := cx
  intro H locs ls hP hS hl
  have hc := zi_lt gx gy
  exact lv_icmp_lt hx hb d ht (fun h => kt (hc.mp h) H locs ls hP hS hl) (fun h => kf (fun h2 => h (hc.mpr h2)) H locs ls hP hS hl)
theorem bx_icmp_ge (cx : CK ad own cc nL Ts R l rt tb scr km Post G) {x y off : Int} (tgt : Nat) (d : decode cc pc = .ok (.if_icmp .ge off, 3)) (ht : (pc : Int) + off = (tgt : Int)) (gx : inR x) (gy : inR y) (kt : y ≤ x → G S tgt lv st) (kf : ¬ (y ≤ x) → G S (pc + 3) lv st) : G S pc lv (iV y :: iV x :: st) := by
  obtain ⟨p, e, s, m, args, below, meth, c, D, cI, cZ, A, Q, c0, s0, hx, hb, hml, hown, hts, hK, hA, hsz, hw, htb, hTH, hNC, hscr, hroom, hend, rfl⟩ := cx
  intro H locs ls hP hS hl
  have hc := zi_le gy gx
  exact lv_icmp_ge hx hb d ht (fun h => kt (hc.mp h) H locs ls hP hS hl) (fun h => kf (fun h2 => h (hc.mpr h2)) H locs ls hP hS hl)
theorem bx_icmp_gt (cx : CK ad own cc nL Ts R l rt tb scr km Post G) {x y off : Int} (tgt : Nat) (d : decode cc pc = .ok (.if_icmp .gt off, 3)) (ht : (pc : Int) + off = (tgt : Int)) (gx : inR x) (gy : inR y) (kt : y < x → G S tgt lv st) (kf : ¬ (y < x) → G S (pc + 3) lv st) : G S pc lv (iV y :: iV x :: st) := by
  obtain ⟨p, e, s, m, args, below, meth, c, D, cI, cZ, A, Q, c0, s0, hx, hb, hml, hown, hts, hK, hA, hsz, hw, htb, hTH, hNC, hscr, hroom, hend, rfl⟩ := cx
  intro H locs ls hP hS hl
  have hc := zi_lt gy gx
  exact lv_icmp_gt hx hb d ht (fun h => kt (hc.mp h) H locs ls hP hS hl) (fun h => kf (fun h2 => h (hc.mpr h2)) H locs ls hP hS hl)
theorem bx_icmp_le (cx : CK ad own cc nL Ts R l rt tb scr km Post G) {x y off : Int} (tgt : Nat) (d : decode cc pc = .ok (.if_icmp .le off, 3)) (ht : (pc : Int) + off = (tgt : Int)) (gx : inR x) (gy : inR y) (kt : x ≤ y → G S tgt lv st) (kf : ¬ (x ≤ y) → G S (pc + 3) lv st) : G S pc lv (iV y :: iV x :: st) := by
  obtain ⟨p, e, s, m, args, below, meth, c, D, cI, cZ, A, Q, c0, s0, hx, hb, hml, hown, hts, hK, hA, hsz, hw, htb, hTH, hNC, hscr, hroom, hend, rfl⟩ := cx
  intro H locs ls hP hS hl
  have hc := zi_le gx gy
  exact lv_icmp_le hx hb d ht (fun h => kt (hc.mp h) H locs ls hP hS hl) (fun h => kf (fun h2 => h (hc.mpr h2)) H locs ls hP hS hl)
theorem bx_if_eq (cx : CK ad own cc nL Ts R l rt tb scr km Post G) {x off : Int} (tgt : Nat) (d : decode cc pc = .ok (.ifCond .eq off, 3)) (ht : (pc : Int) + off = (tgt : Int)) (gx : inR x) (kt : x = 0 → G S tgt lv st) (kf : ¬ (x = 0) → G S (pc + 3) lv st) : G S pc lv (iV x :: st) := by
  obtain ⟨p, e, s, m, args, below, meth, c, D, cI, cZ, A, Q, c0, s0, hx, hb, hml, hown, hts, hK, hA, hsz, hw, htb, hTH, hNC, hscr, hroom, hend, rfl⟩ := cx
  intro H locs ls hP hS hl
  have z0 : inR 0 := ⟨by decide, by decide⟩
  have hc := zi_eq gx z0
  exact lv_if_eq hx hb d ht (fun h => kt (hc.mp h) H locs ls hP hS hl) (fun h => kf (fun h2 => h (hc.mpr h2)) H locs ls hP hS hl)
theorem bx_if_ne (cx : CK ad own cc nL Ts R l rt tb scr km Post G) {x off : Int} (tgt : Nat) (d : decode cc pc = .ok (.ifCond .ne off, 3)) (ht : (pc : Int) + off = (tgt : Int)) (gx : inR x) (kf : x = 0 → G S (pc + 3) lv st) (kt : ¬ x = 0 → G S tgt lv st) : G S pc lv (iV x :: st) := by
  obtain ⟨p, e, s, m, args, below, meth, c, D, cI, cZ, A, Q, c0, s0, hx, hb, hml, hown, hts, hK, hA, hsz, hw, htb, hTH, hNC, hscr, hroom, hend, rfl⟩ := cx
  intro H locs ls hP hS hl
  have z0 : inR 0 := ⟨by decide, by decide⟩
  have hc := zi_eq gx z0
  exact lv_if_ne hx hb d ht (fun h => kt (fun h2 => h (hc.mpr h2)) H locs ls hP hS hl) (fun h => kf (hc.mp h) H locs ls hP hS hl)
theorem bx_if_lt (cx : CK ad own cc nL Ts R l rt tb scr km Post G) {x off : Int} (tgt : Nat) (d : decode cc pc = .ok (.ifCond .lt off, 3)) (ht : (pc : Int) + off = (tgt : Int)) (gx : inR x) (kt : x < 0 → G S tgt lv st) (kf : ¬ (x < 0) → G S (pc + 3) lv st) : G S pc lv (iV x :: st) := by
  obtain ⟨p, e, s, m, args, below, meth, c, D, cI, cZ, A, Q, c0, s0, hx, hb, hml, hown, hts, hK, hA, hsz, hw, htb, hTH, hNC, hscr, hroom, hend, rfl⟩ := cx
  intro H locs ls hP hS hl
  have z0 : inR 0 := ⟨by decide, by decide⟩
  have hc := zi_lt gx z0
  exact lv_if_lt hx hb d ht (fun h => kt (hc.mp h) H locs ls hP hS hl) (fun h => kf (fun h2 => h (hc.mpr h2)) H locs ls hP hS hl)
theorem bx_if_ge (cx : CK ad own cc nL Ts R l rt tb scr km Post G) {x off : Int} (tgt : Nat) (d : decode cc pc = .ok (.ifCond .ge off, 3)) (ht : (pc : Int) + off = (tgt : Int)) (gx : inR x) (kt : 0 ≤ x → G S tgt lv st) (kf : ¬ (0 ≤ x) → G S (pc + 3) lv st) : G S pc lv (iV x :: st) := by
  obtain ⟨p, e, s, m, args, below, meth, c, D, cI, cZ, A, Q, c0, s0, hx, hb, hml, hown, hts, hK, hA, hsz, hw, htb, hTH, hNC, hscr, hroom, hend, rfl⟩ := cx
  intro H locs ls hP hS hl
  have z0 : inR 0 := ⟨by decide, by decide⟩
  have hc := zi_le z0 gx
  exact lv_if_ge hx hb d ht (fun h => kt (hc.mp h) H locs ls hP hS hl) (fun h => kf (fun h2 => h (hc.mpr h2)) H locs ls hP hS hl)
theorem bx_if_gt (cx : CK ad own cc nL Ts R l rt tb scr km Post G) {x off : Int} (tgt : Nat) (d : decode cc pc = .ok (.ifCond .gt off, 3)) (ht : (pc : Int) + off = (tgt : Int)) (gx : inR x) (kt : 0 < x → G S tgt lv st) (kf : ¬ (0 < x) → G S (pc + 3) lv st) : G S pc lv (iV x :: st) := by
  obtain ⟨p, e, s, m, args, below, meth, c, D, cI, cZ, A, Q, c0, s0, hx, hb, hml, hown, hts, hK, hA, hsz, hw, htb, hTH, hNC, hscr, hroom, hend, rfl⟩ := cx
  intro H locs ls hP hS hl
  have z0 : inR 0 := ⟨by decide, by decide⟩
  have hc := zi_lt z0 gx
  exact lv_if_gt hx hb d ht (fun h => kt (hc.mp h) H locs ls hP hS hl) (fun h => kf (fun h2 => h (hc.mpr h2)) H locs ls hP hS hl)
theorem bx_if_le (cx : CK ad own cc nL Ts R l rt tb scr km Post G) {x off : Int} (tgt : Nat) (d : decode cc pc = .ok (.ifCond .le off, 3)) (ht : (pc : Int) + off = (tgt : Int)) (gx : inR x) (kt : x ≤ 0 → G S tgt lv st) (kf : ¬ (x ≤ 0) → G S (pc + 3) lv st) : G S pc lv (iV x :: st) := by
  obtain ⟨p, e, s, m, args, below, meth, c, D, cI, cZ, A, Q, c0, s0, hx, hb, hml, hown, hts, hK, hA, hsz, hw, htb, hTH, hNC, hscr, hroom, hend, rfl⟩ := cx
  intro H locs ls hP hS hl
  have z0 : inR 0 := ⟨by decide, by decide⟩
  have hc := zi_le gx z0
  exact lv_if_le hx hb d ht (fun h => kt (hc.mp h) H locs ls hP hS hl) (fun h => kf (fun h2 => h (hc.mpr h2)) H locs ls hP hS hl)
theorem bx_tableIn (cx : CK ad own cc nL Ts R l rt tb scr km Post G) {dflt lo hi : Int} {offs : Array Int} {len : Nat} {x off : Int} (tgt : Nat) (d : decode cc pc = .ok (.tableswitch dflt lo hi offs, len)) (gx : inR x) (h1 : ¬ x < lo) (h2 : ¬ hi < x) (ho : offs[(x - lo).toNat]? = some off) (ht : (pc : Int) + off = (tgt : Int)) (k : G S tgt lv st) : G S pc lv (iV x :: st) := by
  obtain ⟨p, e, s, m, args, below, meth, c, D, cI, cZ, A, Q, c0, s0, hx, hb, hml, hown, hts, hK, hA, hsz, hw, htb, hTH, hNC, hscr, hroom, hend, rfl⟩ := cx
  exact fun H locs ls hP hS hl => lv_tableIn hx hb d (by rw [zi_toInt gx]; exact h1) (by rw [zi_toInt gx]; exact h2) (by rw [zi_toInt gx]; exact ho) ht (k H locs ls hP hS hl)
theorem bx_tableOut (cx : CK ad own cc nL Ts R l rt tb scr km Post G) {dflt lo hi : Int} {offs : Array Int} {len : Nat} {x : Int} (tgt : Nat) (d : decode cc pc = .ok (.tableswitch dflt lo hi offs, len)) (gx : inR x) (h : x < lo ∨ hi < x) (ht : (pc : Int) + dflt = (tgt : Int)) (k : G S tgt lv st) : G S pc lv (iV x :: st) := by
  obtain ⟨p, e, s, m, args, below, meth, c, D, cI, cZ, A, Q, c0, s0, hx, hb, hml, hown, hts, hK, hA, hsz, hw, htb, hTH, hNC, hscr, hroom, hend, rfl⟩ := cx
  exact fun H locs ls hP hS hl => lv_tableOut hx hb d (by rw [zi_toInt gx]; exact h) ht (k H locs ls hP hS hl)
theorem bx_iald (cx : CK ad own cc nL Ts R l rt tb scr km Post G) {a n : Nat} {z : Int} (ha : a < wC.2.1) (hz : wC.2.2.2.1 a = false) (hn : wC.2.2.1 a = n) (hin : inB z n) (d : decode cc pc = .ok (.iaload, 1)) (k : G S (pc + 1) lv (iV (S.2 a z.toNat) :: st)) : G S pc lv (iV z :: .ref (ad a) :: st) := by
  obtain ⟨p, e, s, m, args, below, meth, c, D, cI, cZ, A, Q, c0, s0, hx, hb, hml, hown, hts, hK, hA, hsz, hw, htb, hTH, hNC, hscr, hroom, hend, rfl⟩ := cx
  subst hn
  intro H locs ls hP hS hl
  have hlt := hw.2.2.1 a
  have k := k H locs ls hP hS hl
  refine va_iald hx hb hK hP a 0 (cA := cI) (n := wC.2.2.1 a) (f := fun j => Int32.ofInt (S.2 a j)) (by rw [cells_get (Nat.lt_of_lt_of_le ha hw.1), wcell_arr ha, hz]; rfl) rfl (zi_in hin hlt) d ?_
  rw [zi_cl hin.1 (by have := hin.2; omega)]
  exact k
theorem bx_iast (cx : CK ad own cc nL Ts R l rt tb scr km Post G) {a n : Nat} {z v : Int} (ha : a < wC.2.1) (hz : wC.2.2.2.1 a = false) (hn : wC.2.2.1 a = n) (hin : inB z n) (d : decode cc pc = .ok (.iastore, 1)) (k : G (S.1, wr S.2 a z.toNat v) (pc + 1) lv st) : G S pc lv (iV v :: iV z :: .ref (ad a) :: st) := by
  obtain ⟨p, e, s, m, args, below, meth, c, D, cI, cZ, A, Q, c0, s0, hx, hb, hml, hown, hts, hK, hA, hsz, hw, htb, hTH, hNC, hscr, hroom, hend, rfl⟩ := cx
  subst hn
  intro H locs ls hP hS hl
  have hlt := hw.2.2.1 a
  refine va_iast hx hb hK hP (hA.D S.2) hS a 0 (cA := cI) (n := wC.2.2.1 a) (f := fun j => Int32.ofInt (S.2 a j)) (by rw [cells_get (Nat.lt_of_lt_of_le ha hw.1), wcell_arr ha, hz]; rfl) rfl (zi_in hin hlt) d (fun H1 locs1 hP1 _ hS1 => k H1 locs1 ls ?_ hS1 hl)
  rw [zi_cl hin.1 (by have := hin.2; omega), cells_store hw ha v (by rw [hz]; rfl)] at hP1
  exact hP1
theorem bx_iret (cx : CK ad own cc nL Ts R l rt tb scr km Post G) {z : Int} (d : decode cc pc = .ok (.ireturn, 1)) (hr : rt = some .int) (hk : S.1 ≤ km) (hp : Post (some (iV z)) S) : G S pc lv [iV z] := by
  obtain ⟨p, e, s, m, args, below, meth, c, D, cI, cZ, A, Q, c0, s0, hx, hb, hml, hown, hts, hK, hA, hsz, hw, htb, hTH, hNC, hscr, hroom, hend, rfl⟩ := cx
  exact fun H locs ls hP hS hl => hend S (some (iV z)) H locs ls pc hk hP hS hp (Or.inl ⟨d, .int, _, hr, rfl, rfl⟩)
theorem bx_zret (cx : CK ad own cc nL Ts R l rt tb scr km Post G) {z : Int} (d : decode cc pc = .ok (.ireturn, 1)) (hr : rt = some .boolean) (hz : z = 0 ∨ z = 1) (hk : S.1 ≤ km) (hp : Post (some (iV z)) S) : G S pc lv [iV z] := by
  obtain ⟨p, e, s, m, args, below, meth, c, D, cI, cZ, A, Q, c0, s0, hx, hb, hml, hown, hts, hK, hA, hsz, hw, htb, hTH, hNC, hscr, hroom, hend, rfl⟩ := cx
  exact fun H locs ls hP hS hl => hend S (some (iV z)) H locs ls pc hk hP hS hp (Or.inl ⟨d, .boolean, _, hr, rfl, by rcases hz with rfl | rfl <;> rfl⟩)
theorem bx_vret (cx : CK ad own cc nL Ts R l rt tb scr km Post G) (d : decode cc pc = .ok (.return_, 1)) (hr : rt = none) (hk : S.1 ≤ km) (hp : Post none S) : G S pc lv [] := by
  obtain ⟨p, e, s, m, args, below, meth, c, D, cI, cZ, A, Q, c0, s0, hx, hb, hml, hown, hts, hK, hA, hsz, hw, htb, hTH, hNC, hscr, hroom, hend, rfl⟩ := cx
  exact fun H locs ls hP hS hl => hend S none H locs ls pc hk hP hS hp (Or.inr (Or.inl ⟨d, rfl, hr⟩))
theorem bx_lret (cx : CK ad own cc nL Ts R l rt tb scr km Post G) {x : Int64} (d : decode cc pc = .ok (.lreturn, 1)) (hr : rt = some .long) (hk : S.1 ≤ km) (hp : Post (some (.long x)) S) : G S pc lv [.long x] := by
  obtain ⟨p, e, s, m, args, below, meth, c, D, cI, cZ, A, Q, c0, s0, hx, hb, hml, hown, hts, hK, hA, hsz, hw, htb, hTH, hNC, hscr, hroom, hend, rfl⟩ := cx
  exact fun H locs ls hP hS hl => hend S (some (.long x)) H locs ls pc hk hP hS hp (Or.inr (Or.inr ⟨d, x, rfl, hr⟩))
theorem bx_lv (cx : CK ad own cc nL Ts R l rt tb scr km Post G) {lv' : List (Nat × Value)} (is : List Nat) (hl' : lv_pick lv is = lv') (k : G S pc lv' st) : G S pc lv st := by
  obtain ⟨p, e, s, m, args, below, meth, c, D, cI, cZ, A, Q, c0, s0, hx, hb, hml, hown, hts, hK, hA, hsz, hw, htb, hTH, hNC, hscr, hroom, hend, rfl⟩ := cx
  exact fun H locs ls hP hS hl => k H locs ls hP hS (lv_sub hl is hl')
theorem bx_lload (cx : CK ad own cc nL Ts R l rt tb scr km Post G) {i : Nat} {x : Int64} (j : Nat) (d : decode cc pc = .ok (.lload i, 2)) (hj : lv[j]? = some (i, .long x)) (k : G S (pc + 2) lv (.long x :: st)) : G S pc lv st := by
  obtain ⟨p, e, s, m, args, below, meth, c, D, cI, cZ, A, Q, c0, s0, hx, hb, hml, hown, hts, hK, hA, hsz, hw, htb, hTH, hNC, hscr, hroom, hend, rfl⟩ := cx
  exact fun H locs ls hP hS hl => lv_lload hx hb d (lv_at hl j hj) (k H locs ls hP hS hl)
theorem bx_lstore (cx : CK ad own cc nL Ts R l rt tb scr km Post G) {i : Nat} {x : Int64} {lv' : List (Nat × Value)} (d : decode cc pc = .ok (.lstore i, 2)) (hn : i + 1 < nL) (hl' : (i, Value.long x) :: lv.filter (fun q => !(q.1 == i) && (!(q.1 == i + 1) && !(q.1 + 1 == i && q.2.category == 2))) = lv') (k : G S (pc + 2) lv' st) : G S pc lv (.long x :: st) := by
  obtain ⟨p, e, s, m, args, below, meth, c, D, cI, cZ, A, Q, c0, s0, hx, hb, hml, hown, hts, hK, hA, hsz, hw, htb, hTH, hNC, hscr, hroom, hend, rfl⟩ := cx
  exact fun H locs ls hP hS hl => lv_lstore hx hb d hl hn hl' (fun ls' h' => k H locs ls' hP hS h')
theorem bx_ladd (cx : CK ad own cc nL Ts R l rt tb scr km Post G) {x y : Int64} (d : decode cc pc = .ok (.ladd, 1)) (k : G S (pc + 1) lv (.long (x + y) :: st)) : G S pc lv (.long y :: .long x :: st) := by
  obtain ⟨p, e, s, m, args, below, meth, c, D, cI, cZ, A, Q, c0, s0, hx, hb, hml, hown, hts, hK, hA, hsz, hw, htb, hTH, hNC, hscr, hroom, hend, rfl⟩ := cx
  exact fun H locs ls hP hS hl => lv_ladd hx hb d (k H locs ls hP hS hl)
theorem bx_lsub (cx : CK ad own cc nL Ts R l rt tb scr km Post G) {x y : Int64} (d : decode cc pc = .ok (.lsub, 1)) (k : G S (pc + 1) lv (.long (x - y) :: st)) : G S pc lv (.long y :: .long x :: st) := by
  obtain ⟨p, e, s, m, args, below, meth, c, D, cI, cZ, A, Q, c0, s0, hx, hb, hml, hown, hts, hK, hA, hsz, hw, htb, hTH, hNC, hscr, hroom, hend, rfl⟩ := cx
  exact fun H locs ls hP hS hl => lv_lsub hx hb d (k H locs ls hP hS hl)
theorem bx_lmul (cx : CK ad own cc nL Ts R l rt tb scr km Post G) {x y : Int64} (d : decode cc pc = .ok (.lmul, 1)) (k : G S (pc + 1) lv (.long (x * y) :: st)) : G S pc lv (.long y :: .long x :: st) := by
  obtain ⟨p, e, s, m, args, below, meth, c, D, cI, cZ, A, Q, c0, s0, hx, hb, hml, hown, hts, hK, hA, hsz, hw, htb, hTH, hNC, hscr, hroom, hend, rfl⟩ := cx
  exact fun H locs ls hP hS hl => lv_lmul hx hb d (k H locs ls hP hS hl)
theorem bx_astore_n (cx : CK ad own cc nL Ts R l rt tb scr km Post G) {q : Fin 4} {i x : Nat} {lv' : List (Nat × Value)} (d : decode cc pc = .ok (.astore_n q, 1)) (hi : (q : Nat) = i) (hn : i < nL) (hl' : (i, Value.ref x) :: lv.filter (fun q => !(q.1 == i) && !(q.1 + 1 == i && q.2.category == 2)) = lv') (k : G S (pc + 1) lv' st) : G S pc lv (.ref x :: st) := by
  obtain ⟨p, e, s, m, args, below, meth, c, D, cI, cZ, A, Q, c0, s0, hx, hb, hml, hown, hts, hK, hA, hsz, hw, htb, hTH, hNC, hscr, hroom, hend, rfl⟩ := cx
  exact fun H locs ls hP hS hl => lv_astore_n hx hb d hi hl hn hl' (fun ls' h' => k H locs ls' hP hS h')
theorem bx_astore (cx : CK ad own cc nL Ts R l rt tb scr km Post G) {i x : Nat} {lv' : List (Nat × Value)} (d : decode cc pc = .ok (.astore i, 2)) (hn : i < nL) (hl' : (i, Value.ref x) :: lv.filter (fun q => !(q.1 == i) && !(q.1 + 1 == i && q.2.category == 2)) = lv') (k : G S (pc + 2) lv' st) : G S pc lv (.ref x :: st) := by
  obtain ⟨p, e, s, m, args, below, meth, c, D, cI, cZ, A, Q, c0, s0, hx, hb, hml, hown, hts, hK, hA, hsz, hw, htb, hTH, hNC, hscr, hroom, hend, rfl⟩ := cx
  exact fun H locs ls hP hS hl => lv_astore hx hb d hl hn hl' (fun ls' h' => k H locs ls' hP hS h')
theorem bx_widen (cx : CK ad own cc nL Ts R l rt tb scr km Post G) (j : Nat) (hj : S.1 ≤ j) (k : G (j, S.2) pc lv st) : G S pc lv st := by
  obtain ⟨p, e, s, m, args, below, meth, c, D, cI, cZ, A, Q, c0, s0, hx, hb, hml, hown, hts, hK, hA, hsz, hw, htb, hTH, hNC, hscr, hroom, hend, rfl⟩ := cx
  exact fun H locs ls hP hS hl => W.widen (k := c0 + j) (n := s0 + 6 * j) (by omega) (by omega) (k H locs ls hP hS hl)
theorem bx_callH (cx : CK ad own cc nL Ts R l rt tb scr km Post G) {y : MethodName} {ws ws' : List Cond} {rm : Room} {As : List Value} {v : Option Value} {M' : Mem} {kk index n maxL : Nat} {bytes : ByteArray} {ret : Option FieldType} {stk : List Value} (hM : HK l y ws rm ad As kk S.2 v M') (hk : S.1 + kk ≤ km) (hT : GoodIn Ts (va_wsS own index y ws)) (hw9 : ws = Cond.code y bytes maxL ret :: ws') (hrc : rm.cells = kk ∧ rm.slots = 6 * kk)
    (hd : y.cls ≠ "java/lang/invoke/MethodHandle" ∧ y.cls ≠ "java/lang/invoke/VarHandle" ∧ (parseMethodDescriptor y.desc).map (fun d => d.parameters.length) = some n) (hn : As.length = n) (hR : rm.frames + 1 ≤ R.frames ∧ 8 + (maxL + 11) + rm.locals ≤ R.locals) (hst : stk = As.reverse ++ st) (hcat : (st.map fun v => v.category).sum ≤ 8) (d : decode cc pc = .ok (.invokestatic index, 3)) (k : G (S.1 + kk, M') (pc + 3) lv (v.toList ++ st)) : G S pc lv stk := by
  obtain ⟨p, e, s, m, args, below, meth, c, D, cI, cZ, A, Q, c0, s0, hx, hb, hml, hown, hts, hK, hA, hsz, hw, htb, hTH, hNC, hscr, hroom, hend, rfl⟩ := cx
  intro H locs ls hP hS hl
  have hcw := va_cwS (R := R) (s := s) (args := args) (own := own) (index := index) (bytes := bytes) (maxL := maxL) (ret := ret) (rm := rm) (mc := kk) (ms := 6 * kk) n hts hT hw9 hrc.1 hrc.2 hd hR
  have hf := fA_le hA hsz hS.1
  have hr := va_runS (e := e) (meth := meth) (below := below) (cells := c0 + S.1) (slots := s0 + 6 * S.1) (locs := locs) (g := F0 m pc ls stk) (As := As) (rest := st) ⟨hx, hb, hml, hown, hts⟩ (hM D cI cZ H.size) hcw ⟨hk_blind, fun U hU hW => ⟨rfl, by rw [hU], by rw [hU]; exact hP, va_K.moved hW.alike hK, ⟨hA.1, fun _ _ => trivial⟩, TH.go hW hTH (fun q hq => hf q hq) (fun a h1 h2 => by rw [hU]; exact hS.2.1 a h1 h2), va_Nc.moved hW.alike hNC.1, va_Nc.moved hW.alike hNC.2⟩⟩ rfl hn hl.1 hst (lv_room hcat) d (by have := hroom (S.1 + kk) hk; exact ⟨by omega, by omega⟩)
  intro T hT9 X
  obtain ⟨v1, st₀, t, T', L, h0, X', hL, e1, e2, ⟨⟨hv, hb9⟩, hz, hk9⟩, g⟩ := hr T hT9 X
  cases hv
  have hS1 : va_S A s.heap T'.heap (locs ++ L) := by
    refine ⟨Nat.le_trans hS.1 (by rw [e1, ← h0]; exact hz), fun q h1 h2 => ?_, fun z hz => ?_⟩
    · rw [e1, hk9 q (by rw [h0]; exact Nat.lt_of_lt_of_le h1 hS.1) (fun h => h2 (hf q h)), h0]
      exact hS.2.1 q h1 h2
    · rcases List.mem_append.mp hz with h | h
      · exact hS.2.2 z h
      · exact hf _ (hL z h)
  have kq := k T'.heap (locs ++ L) ls (by rw [e1]; exact hb9) hS1 hl
  have ea : c0 + (S.1 + kk) = c0 + S.1 + kk := by omega
  have eb : s0 + 6 * (S.1 + kk) = s0 + 6 * S.1 + 6 * kk := by omega
  rw [show ((S.1 + kk, M') : KSt).1 = S.1 + kk from rfl, ea, eb] at kq
  obtain ⟨t2, a1, b1⟩ := kq T' rfl X'
  exact ⟨t2, g t2 a1, b1⟩
theorem bx_callHW (cx : CK ad own cc nL Ts R l rt tb scr km Post G) {y : MethodName} {ws ws' : List Cond} {rm : Room} {As : List Value} {v : Option Value} {M' : Mem} {kk index n maxL : Nat} {bytes : ByteArray} {ret : Option FieldType} {hh : List (Nat × Nat × Nat × Nat)} {stk : List Value} (hM : HK l y ws rm ad As kk S.2 v M') (hk : S.1 + kk ≤ km) (hT : GoodIn Ts (va_wsS own index y ws)) (hw9 : ws = Cond.codeWith y bytes maxL ret hh :: ws') (hrc : rm.cells = kk ∧ rm.slots = 6 * kk)
    (hd : y.cls ≠ "java/lang/invoke/MethodHandle" ∧ y.cls ≠ "java/lang/invoke/VarHandle" ∧ (parseMethodDescriptor y.desc).map (fun d => d.parameters.length) = some n) (hn : As.length = n) (hR : rm.frames + 1 ≤ R.frames ∧ 8 + (maxL + 11) + rm.locals ≤ R.locals) (hst : stk = As.reverse ++ st) (hcat : (st.map fun v => v.category).sum ≤ 8) (d : decode cc pc = .ok (.invokestatic index, 3)) (k : G (S.1 + kk, M') (pc + 3) lv (v.toList ++ st)) : G S pc lv stk := by
  obtain ⟨p, e, s, m, args, below, meth, c, D, cI, cZ, A, Q, c0, s0, hx, hb, hml, hown, hts, hK, hA, hsz, hw, htb, hTH, hNC, hscr, hroom, hend, rfl⟩ := cx
  intro H locs ls hP hS hl
  have hcw := vx_cwSW (R := R) (s := s) (args := args) (own := own) (index := index) (bytes := bytes) (maxL := maxL) (ret := ret) (hh := hh) (rm := rm) (mc := kk) (ms := 6 * kk) n hts hT hw9 hrc.1 hrc.2 hd hR
  have hf := fA_le hA hsz hS.1
  have hr := vx_runSW (e := e) (meth := meth) (below := below) (cells := c0 + S.1) (slots := s0 + 6 * S.1) (locs := locs) (g := F0 m pc ls stk) (As := As) (rest := st) ⟨hx, hb, hml, hown, hts⟩ (hM D cI cZ H.size) hcw ⟨hk_blind, fun U hU hW => ⟨rfl, by rw [hU], by rw [hU]; exact hP, va_K.moved hW.alike hK, ⟨hA.1, fun _ _ => trivial⟩, TH.go hW hTH (fun q hq => hf q hq) (fun a h1 h2 => by rw [hU]; exact hS.2.1 a h1 h2), va_Nc.moved hW.alike hNC.1, va_Nc.moved hW.alike hNC.2⟩⟩ rfl hn hl.1 hst (lv_room hcat) d (by have := hroom (S.1 + kk) hk; exact ⟨by omega, by omega⟩)
  intro T hT9 X
  obtain ⟨v1, st₀, t, T', L, h0, X', hL, e1, e2, ⟨⟨hv, hb9⟩, hz, hk9⟩, g⟩ := hr T hT9 X
  cases hv
  have hS1 : va_S A s.heap T'.heap (locs ++ L) := by
    refine ⟨Nat.le_trans hS.1 (by rw [e1, ← h0]; exact hz), fun q h1 h2 => ?_, fun z hz => ?_⟩
    · rw [e1, hk9 q (by rw [h0]; exact Nat.lt_of_lt_of_le h1 hS.1) (fun h => h2 (hf q h)), h0]
      exact hS.2.1 q h1 h2
    · rcases List.mem_append.mp hz with h | h
      · exact hS.2.2 z h
      · exact hf _ (hL z h)
  have kq := k T'.heap (locs ++ L) ls (by rw [e1]; exact hb9) hS1 hl
  have ea : c0 + (S.1 + kk) = c0 + S.1 + kk := by omega
  have eb : s0 + 6 * (S.1 + kk) = s0 + 6 * S.1 + 6 * kk := by omega
  rw [show ((S.1 + kk, M') : KSt).1 = S.1 + kk from rfl, ea, eb] at kq
  obtain ⟨t2, a1, b1⟩ := kq T' rfl X'
  exact ⟨t2, g t2 a1, b1⟩
theorem bx_callC (cx : CK ad own cc nL Ts R l rt tb scr km Post G) {y : MethodName} {ws ws' : List Cond} {rm : Room} {As : List Value} {M' : Mem} {v : Option Value} {index n maxL : Nat} {bytes : ByteArray} {ret : Option FieldType} {stk : List Value} (hM : MX l y ws rm wC ad (.ref (ad 28) :: As) S.2 v M') (hk : S.1 ≤ km) (hT : GoodIn Ts (wsV own index RX5 y ws)) (hw9 : ws = Cond.code y bytes maxL ret :: ws') (hrc : rm.cells = 0 ∧ rm.slots = 0)
    (hd : y.cls = RX5 ∧ y.cls ≠ "java/lang/invoke/MethodHandle" ∧ y.cls ≠ "java/lang/invoke/VarHandle" ∧ (parseMethodDescriptor y.desc).map (fun d => d.parameters.length) = some n) (hn : As.length = n) (hR : rm.frames + 1 ≤ R.frames ∧ 8 + (maxL + 11) + rm.locals ≤ R.locals) (hst : stk = As.reverse ++ .ref (ad 28) :: st) (hcat : (st.map fun v => v.category).sum ≤ 8) (d : decode cc pc = .ok (.invokevirtual index, 3)) (k : G (S.1, M') (pc + 3) lv (v.toList ++ st)) : G S pc lv stk := by
  obtain ⟨p, e, s, m, args, below, meth, c, D, cI, cZ, A, Q, c0, s0, hx, hb, hml, hown, hts, hK, hA, hsz, hw, htb, hTH, hNC, hscr, hroom, hend, rfl⟩ := cx
  intro H locs ls hP hS hl
  have hcw := cwV (R := R) (s := s) (args := args) (own := own) (C := RX5) (index := index) (bytes := bytes) (maxL := maxL) (ret := ret) (rm := rm) (mc := 0) (ms := 0) n hts hT hw9 hrc.1 hrc.2 hd hR
  have hr := va_runV (e := e) (meth := meth) (below := below) (cells := c0 + S.1) (slots := s0 + 6 * S.1) (locs := locs) (g := F0 m pc ls stk) (As := As) (rest := st) (b := ad 28) ⟨hx, hb, hml, hown, hts⟩ (hM D cI cZ H.size) hcw ⟨mx_blind, va_recv (hK.sub (tys' := []) [] rfl) hP (ci := 5) (q := (RX5, TX5, 5)) (fs := (objC ad S.2 28).2) rfl (q0 := 28) (by rw [cells_get (by decide), wcell_obj (by decide)]; rfl), fun U hU hW => ⟨rfl, by rw [hU], by rw [hU]; exact hP, va_K.moved hW.alike hK, (hA.D S.2).weaken (fun _ _ _ _ => trivial)⟩⟩ rfl hn hl.1 hst (lv_room hcat) d (by have := hroom S.1 hk; exact ⟨this.1, this.2⟩)
  have hf := fA_le hA hsz hS.1
  intro T hT9 X
  obtain ⟨v1, st₀, t, T', L, h0, X', hL, e1, e2, ⟨⟨hv, hb9⟩, hz, hk9⟩, g⟩ := hr T hT9 X
  cases hv
  have hS1 : va_S A s.heap T'.heap (locs ++ L) := by
    refine ⟨Nat.le_trans hS.1 (by rw [e1, ← h0]; exact hz), fun q h1 h2 => ?_, fun z hz => ?_⟩
    · rw [e1, hk9 q (by rw [h0]; exact Nat.lt_of_lt_of_le h1 hS.1) (fun h => h2 (hf q h)), h0]
      exact hS.2.1 q h1 h2
    · rcases List.mem_append.mp hz with h | h
      · exact hS.2.2 z h
      · exact hf _ (hL z h)
  obtain ⟨t2, a1, b1⟩ := k T'.heap (locs ++ L) ls (by rw [e1]; exact hb9) hS1 hl T' rfl X'
  exact ⟨t2, g t2 a1, b1⟩
/-- a call of the class that throws E, which is caught here, at the handler hp -/
theorem bx_callX (cx : CK ad own cc nL Ts R l rt tb scr km Post G) {y : MethodName} {ws ws' : List Cond} {rm : Room} {As : List Value} {M' : Mem} {E : String} {index n maxL hp ct : Nat} {bytes : ByteArray} {ret : Option FieldType} {stk : List Value} {tl : List ExceptionTableEntry} (hM : MT l y ws rm wC ad (.ref (ad 28) :: As) S.2 E M') (hk : S.1 + 1 ≤ km) (hT : GoodIn Ts (wsV own index RX5 y ws)) (hw9 : ws = Cond.code y bytes maxL ret :: ws') (hrc : rm.cells = 1 ∧ rm.slots = 6)
    (hd : y.cls = RX5 ∧ y.cls ≠ "java/lang/invoke/MethodHandle" ∧ y.cls ≠ "java/lang/invoke/VarHandle" ∧ (parseMethodDescriptor y.desc).map (fun d => d.parameters.length) = some n) (hn : As.length = n) (hR : rm.frames + 1 ≤ R.frames ∧ 8 + (maxL + 11) + rm.locals ≤ R.locals) (hst : stk = As.reverse ++ .ref (ad 28) :: st) (hcat : (st.map fun v => v.category).sum ≤ 8) (d : decode cc pc = .ok (.invokevirtual index, 3))
    (pre : List ExceptionTableEntry) (x : ExceptionTableEntry) (suf : List ExceptionTableEntry) (htl : ∀ t, tb t → t = tl) (hsp : tl = pre ++ x :: suf) (hpre : ∀ z ∈ pre, z.catchType = ct ∧ ct ≠ 0) (hct : pre ≠ [] → Cond.classLink own ct "java/lang/IndexOutOfBoundsException" ∈ Ts ∧ (E = "java/lang/IllegalArgumentException" ∨ E = "java/lang/IllegalStateException")) (hxc : covers x pc = true) (hx0 : x.catchType ≠ 0) (hxl : Cond.classLink own x.catchType E ∈ Ts) (hcast : Cond.castable E E ∈ BW) (hhp : x.handlerPc = hp)
    (k : ∀ q : Nat, G (S.1 + 1, M') hp lv [.ref q]) : G S pc lv stk := by
  obtain ⟨p, e, s, m, args, below, meth, c, D, cI, cZ, A, Q, c0, s0, hx, hb, hml, hown, hts, hK, hA, hsz, hw, htb, hTH, hNC, hscr, hroom, hend, rfl⟩ := cx
  intro H locs ls hP hS hl
  have hcw := cwV (R := R) (s := s) (args := args) (own := own) (C := RX5) (index := index) (bytes := bytes) (maxL := maxL) (ret := ret) (rm := rm) (mc := 1) (ms := 6) n hts hT hw9 hrc.1 hrc.2 hd hR
  have hf := fA_le hA hsz hS.1
  have hr := vx_runV (e := e) (meth := meth) (below := below) (cells := c0 + S.1) (slots := s0 + 6 * S.1) (locs := locs) (g := F0 m pc ls stk) (As := As) (rest := st) (b := ad 28) ⟨hx, hb, hml, hown, hts⟩ (hM D cI cZ H.size) hcw ⟨mt_blind, va_recv (hK.sub (tys' := []) [] rfl) hP (ci := 5) (q := (RX5, TX5, 5)) (fs := (objC ad S.2 28).2) rfl (q0 := 28) (by rw [cells_get (by decide), wcell_obj (by decide)]; rfl), fun U hU hW => ⟨rfl, by rw [hU], by rw [hU]; exact hP, va_K.moved hW.alike hK, (hA.D S.2).weaken (fun _ _ _ _ => trivial), TH.go hW hTH (fun q hq => hf q hq) (fun a h1 h2 => by rw [hU]; exact hS.2.1 a h1 h2)⟩⟩ rfl hn hl.1 hst (lv_room hcat) d (by have := hroom (S.1 + 1) hk; exact ⟨by omega, by omega⟩)
  intro T hT9 X
  rcases hr T hT9 X with ⟨v, st₀, t, T', L, h0, X', hL, e1, e2, hq, g⟩ | ⟨q, st₀, t, T', L, E2, ce, h0, X', hL, e1, e2, ⟨hE, hP2, hz, hk9⟩, hce, hcv, hcl, g⟩
  · exact hq.elim
  subst hE
  have hS1 : va_S A s.heap T'.heap (locs ++ L) := by
    refine ⟨Nat.le_trans hS.1 (by rw [e1, ← h0]; exact hz), fun q h1 h2 => ?_, fun z hz => ?_⟩
    · rw [e1, hk9 q (by rw [h0]; exact Nat.lt_of_lt_of_le h1 hS.1) (fun h => h2 (hf q h)), h0]
      exact hS.2.1 q h1 h2
    · rcases List.mem_append.mp hz with h | h
      · exact hS.2.2 z h
      · exact hf _ (hL z h)
  have kq := k q T'.heap (locs ++ L) ls (by rw [e1]; exact hP2) hS1 hl
  have kx : vx_W p l e R s m args below meth c T'.heap (locs ++ L) (c0 + S.1 + 1) (s0 + 6 * S.1 + 6) Q (F0 m pc ls st) q := by
    refine vx_catch (name := E2) (E := E2) (ce := ce) hown pre x suf ((htl _ htb).trans hsp) (fun z hz9 => Or.inr ?_) hxc hx0 (hts _ hxl) (va_Nw.use (BW_tab _ hcast) (hTH.2.2.1 _ hcast)) (by rw [e1]; exact hce) hcv hcl (by rw [hhp]; exact kq)
    obtain ⟨c1, c2⟩ := hpre z hz9
    obtain ⟨c3, c4⟩ := hct (fun h => by rw [h] at hz9; cases hz9)
    refine ⟨by rw [c1]; exact c2, "java/lang/IndexOutOfBoundsException", by rw [c1]; exact hts _ c3, ?_⟩
    rcases c4 with rfl | rfl
    · exact hNC.1
    · exact hNC.2
  obtain ⟨t2, a1, b1⟩ := kx T' rfl X'
  exact ⟨t2, g.trans a1, b1⟩
end LROWS
