/-! the law's own world: the class's cells, the reference's cells, the long that the answers go through; the judgement over it -/
abbrev LSt : Type := Nat × Mem × Mem × (Nat → Int64)
def outW (cL : ClassId) (ao : Nat) (o : Nat → Int64) : va_W := [(ao, .inl (cL, 1, .inr (.inl o)))]
def LWP (D : va_G) (cI cZ cL : ClassId) (adC adM : Nat → Nat) (ao : Nat) (S : LSt) (H : Heap) : Prop :=
  va_P D vwCl (cellsOf wC cI cZ adC S.2.1) H ∧ va_P D vwCl (cellsOf wM cI cZ adM S.2.2.1) H ∧ va_P D vwCl (outW cL ao S.2.2.2) H
def ladj (adC adM : Nat → Nat) (ao : Nat) : Prop := (∀ i j, i < wC.1 → j < wM.1 → adC i ≠ adM j) ∧ (∀ i, i < wC.1 → adC i ≠ ao) ∧ ∀ j, j < wM.1 → adM j ≠ ao
def NCs (U : State) : Prop := va_Nc "java/lang/IllegalArgumentException" "java/lang/IndexOutOfBoundsException" U ∧ va_Nc "java/lang/IllegalStateException" "java/lang/IndexOutOfBoundsException" U
def fL (adC adM : Nat → Nat) (ao sz : Nat) : Nat → Prop := fun q => (∃ k, k < wC.1 ∧ q = adC k) ∨ (∃ k, k < wM.1 ∧ q = adM k) ∨ q = ao ∨ sz ≤ q
def CL (adC adM : Nat → Nat) (ao : Nat) (own : String) (cc : ByteArray) (nL : Nat) (Ts : List Cond) (R : Room) (l : Launch) (tb : List ExceptionTableEntry → Prop) (scr : Option (Nat × Nat × (Nat → Int32))) (km : Nat) (Post : Int → LSt → Prop) (G : LSt → Nat → List (Nat × Value) → List Value → Prop) : Prop :=
  ∃ (p : Program) (e : Env) (s : State) (m : MethodId) (args : Array Value) (below : List Frame) (meth : Method) (c : Code) (D : va_G) (cI cZ cL : ClassId) (A : Nat → Prop) (Q : State → Prop) (c0 s0 : Nat),
    p.tables.exec = Jvm.exec ∧ c.code = cc ∧ c.maxLocals = nL ∧ s.vm.findClass own = some m.cls ∧ (∀ w ∈ Ts, w.before args s = true) ∧ va_K D vwCl [(cI, .int), (cZ, .boolean), (cL, .long)] s ∧ adOK wC adC A ∧ adOK wM adM A ∧ A ao ∧ ladj adC adM ao ∧ (∀ q, s.heap.size ≤ q → A q) ∧ tb c.exceptionTable.toList ∧ TH A s s.heap ∧ NCs s ∧
    (∀ b L xs, scr = some (b, L, xs) → va_X b L xs s s.heap ∧ b < s.heap.size ∧ ¬ A b) ∧ (∀ k, k ≤ km → c0 + k ≤ R.cells ∧ s0 + 6 * k ≤ R.slots) ∧
    (∀ (S : LSt) (z : Int) (H : Heap) (locs : List Loc) (ls : Array Slot) (pc : Nat), S.1 ≤ km → LWP D cI cZ cL adC adM ao S H → va_S A s.heap H locs → Post z S → decode cc pc = .ok (.ireturn, 1) → W p l e R s m args below meth c H locs (c0 + S.1) (s0 + 6 * S.1) Q (F0 m pc ls [iV z])) ∧
    G = fun S pc lv st => ∀ (H : Heap) (locs : List Loc) (ls : Array Slot), LWP D cI cZ cL adC adM ao S H → va_S A s.heap H locs → lv_has ls nL lv → W p l e R s m args below meth c H locs (c0 + S.1) (s0 + 6 * S.1) Q (F0 m pc ls st)
theorem fA_fLC {adC adM : Nat → Nat} {ao sz : Nat} : ∀ q, fA wC adC sz q → fL adC adM ao sz q := fun _ h => h.elim Or.inl (fun h => Or.inr (Or.inr (Or.inr h)))
theorem fL_le {adC adM : Nat → Nat} {ao s H : Nat} {A : Nat → Prop} (hAC : adOK wC adC A) (hAM : adOK wM adM A) (hao : A ao) (h : ∀ q, s ≤ q → A q) (hs : s ≤ H) : ∀ q, fL adC adM ao H q → A q := fun q hq => by
  rcases hq with ⟨k, hk, rfl⟩ | ⟨k, hk, rfl⟩ | rfl | hq
  · exact hAC.2 k hk
  · exact hAM.2 k hk
  · exact hao
  · exact h q (Nat.le_trans hs hq)
/-- the world of one of the two is left alone by a call into the other -/
theorem lw_keptM {D : va_G} {cI cZ cL : ClassId} {adC adM : Nat → Nat} {ao : Nat} {S : LSt} {H H1 : Heap} (hdj : ladj adC adM ao) (hP : LWP D cI cZ cL adC adM ao S H) (hk : ∀ q : Nat, q < H.size → ¬ fA wC adC H.size q → H1[q]? = H[q]?) : va_P D vwCl (cellsOf wM cI cZ adM S.2.2.1) H1 ∧ va_P D vwCl (outW cL ao S.2.2.2) H1 := by
  obtain ⟨h1, h2, h3⟩ := hP
  refine ⟨h2.kept fun k q hq => ?_, h3.kept fun k q hq => ?_⟩
  · have hl := (h2 k q hq).lt
    obtain ⟨e1, e2⟩ := cells_ad hq
    refine hk _ hl fun h => ?_
    rcases h with ⟨i, hi, e3⟩ | h
    · exact hdj.1 i k hi e1 (by rw [← e3, e2])
    · exact absurd hl (Nat.not_lt.mpr h)
  · have hl := (h3 k q hq).lt
    have e2 : q.1 = ao := by
      match k, hq with
      | 0, hq => cases hq; rfl
      | k + 1, hq => simp [outW] at hq
    refine hk _ hl fun h => ?_
    rcases h with ⟨i, hi, e3⟩ | h
    · exact hdj.2.1 i hi (by rw [← e3, e2])
    · exact absurd hl (Nat.not_lt.mpr h)
theorem lw_keptC {D : va_G} {cI cZ cL : ClassId} {adC adM : Nat → Nat} {ao : Nat} {S : LSt} {H H1 : Heap} (hdj : ladj adC adM ao) (hP : LWP D cI cZ cL adC adM ao S H) (hk : ∀ q : Nat, q < H.size → ¬ fA wM adM H.size q → H1[q]? = H[q]?) : va_P D vwCl (cellsOf wC cI cZ adC S.2.1) H1 ∧ va_P D vwCl (outW cL ao S.2.2.2) H1 := by
  obtain ⟨h1, h2, h3⟩ := hP
  refine ⟨h1.kept fun k q hq => ?_, h3.kept fun k q hq => ?_⟩
  · have hl := (h1 k q hq).lt
    obtain ⟨e1, e2⟩ := cells_ad hq
    refine hk _ hl fun h => ?_
    rcases h with ⟨i, hi, e3⟩ | h
    · exact hdj.1 k i e1 hi (by rw [← e3, e2])
    · exact absurd hl (Nat.not_lt.mpr h)
  · have hl := (h3 k q hq).lt
    have e2 : q.1 = ao := by
      match k, hq with
      | 0, hq => cases hq; rfl
      | k + 1, hq => simp [outW] at hq
    refine hk _ hl fun h => ?_
    rcases h with ⟨i, hi, e3⟩ | h
    · exact hdj.2.2 i hi (by rw [← e3, e2])
    · exact absurd hl (Nat.not_lt.mpr h)
theorem lw_keptO {D : va_G} {cI cZ cL : ClassId} {adC adM : Nat → Nat} {ao : Nat} {S : LSt} {H H1 : Heap} (hdj : ladj adC adM ao) (hP : LWP D cI cZ cL adC adM ao S H) (hk : ∀ q : Nat, q ≠ ao → H1[q]? = H[q]?) : va_P D vwCl (cellsOf wC cI cZ adC S.2.1) H1 ∧ va_P D vwCl (cellsOf wM cI cZ adM S.2.2.1) H1 := by
  obtain ⟨h1, h2, h3⟩ := hP
  refine ⟨h1.kept fun k q hq => ?_, h2.kept fun k q hq => ?_⟩
  · obtain ⟨e1, e2⟩ := cells_ad hq
    exact hk _ (by rw [e2]; exact hdj.2.1 k e1)
  · obtain ⟨e1, e2⟩ := cells_ad hq
    exact hk _ (by rw [e2]; exact hdj.2.2 k e1)
section LROWS
variable {adC adM : Nat → Nat} {ao : Nat} {own : String} {cc : ByteArray} {nL : Nat} {Ts : List Cond} {R : Room} {l : Launch} {tb : List ExceptionTableEntry → Prop} {scr : Option (Nat × Nat × (Nat → Int32))} {km : Nat} {Post : Int → LSt → Prop} {G : LSt → Nat → List (Nat × Value) → List Value → Prop}
variable {S : LSt} {pc : Nat} {lv : List (Nat × Value)} {st : List Value}
theorem lx_iconst (cx : CL adC adM ao own cc nL Ts R l tb scr km Post G) {n : Int} (d : decode cc pc = .ok (.iconst n, 1)) (k : G S (pc + 1) lv (iV n :: st)) : G S pc lv st := by
  obtain ⟨p, e, s, m, args, below, meth, c, D, cI, cZ, cL, A, Q, c0, s0, hx, hb, hml, hown, hts, hK, hAC, hAM, hao, hdj, hsz, htb, hTH, hNC, hscr, hroom, hend, rfl⟩ := cx
  exact fun H locs ls hP hS hl => lv_iconst hx hb d rfl (k H locs ls hP hS hl)
theorem lx_bipush (cx : CL adC adM ao own cc nL Ts R l tb scr km Post G) {n z : Int} (d : decode cc pc = .ok (.bipush n, 2)) (hz : (Int8.ofInt n).toInt32 = Int32.ofInt z) (k : G S (pc + 2) lv (iV z :: st)) : G S pc lv st := by
  obtain ⟨p, e, s, m, args, below, meth, c, D, cI, cZ, cL, A, Q, c0, s0, hx, hb, hml, hown, hts, hK, hAC, hAM, hao, hdj, hsz, htb, hTH, hNC, hscr, hroom, hend, rfl⟩ := cx
  exact fun H locs ls hP hS hl => lv_bipush hx hb d hz (k H locs ls hP hS hl)
theorem lx_sipush (cx : CL adC adM ao own cc nL Ts R l tb scr km Post G) {n z : Int} (d : decode cc pc = .ok (.sipush n, 3)) (hz : (Int16.ofInt n).toInt32 = Int32.ofInt z) (k : G S (pc + 3) lv (iV z :: st)) : G S pc lv st := by
  obtain ⟨p, e, s, m, args, below, meth, c, D, cI, cZ, cL, A, Q, c0, s0, hx, hb, hml, hown, hts, hK, hAC, hAM, hao, hdj, hsz, htb, hTH, hNC, hscr, hroom, hend, rfl⟩ := cx
  exact fun H locs ls hP hS hl => lv_sipush hx hb d hz (k H locs ls hP hS hl)
theorem lx_ldc (cx : CL adC adM ao own cc nL Ts R l tb scr km Post G) {i : Nat} {v : Int32} {z : Int} (d : decode cc pc = .ok (.ldc i, 2)) (hc : Cond.constant own i v ∈ Ts) (hz : v = Int32.ofInt z) (k : G S (pc + 2) lv (iV z :: st)) : G S pc lv st := by
  obtain ⟨p, e, s, m, args, below, meth, c, D, cI, cZ, cL, A, Q, c0, s0, hx, hb, hml, hown, hts, hK, hAC, hAM, hao, hdj, hsz, htb, hTH, hNC, hscr, hroom, hend, rfl⟩ := cx
  subst hz
  exact fun H locs ls hP hS hl => lv_ldc hx hb hown (hts _ hc) d (k H locs ls hP hS hl)
theorem lx_ldc_w (cx : CL adC adM ao own cc nL Ts R l tb scr km Post G) {i : Nat} {v : Int32} {z : Int} (d : decode cc pc = .ok (.ldc_w i, 3)) (hc : Cond.constant own i v ∈ Ts) (hz : v = Int32.ofInt z) (k : G S (pc + 3) lv (iV z :: st)) : G S pc lv st := by
  obtain ⟨p, e, s, m, args, below, meth, c, D, cI, cZ, cL, A, Q, c0, s0, hx, hb, hml, hown, hts, hK, hAC, hAM, hao, hdj, hsz, htb, hTH, hNC, hscr, hroom, hend, rfl⟩ := cx
  subst hz
  exact fun H locs ls hP hS hl => lv_ldcw hx hb hown (hts _ hc) d (k H locs ls hP hS hl)
theorem lx_iload_n (cx : CL adC adM ao own cc nL Ts R l tb scr km Post G) {q : Fin 4} {i : Nat} {x : Int} (j : Nat) (d : decode cc pc = .ok (.iload_n q, 1)) (hi : (q : Nat) = i) (hj : lv[j]? = some (i, iV x)) (k : G S (pc + 1) lv (iV x :: st)) : G S pc lv st := by
  obtain ⟨p, e, s, m, args, below, meth, c, D, cI, cZ, cL, A, Q, c0, s0, hx, hb, hml, hown, hts, hK, hAC, hAM, hao, hdj, hsz, htb, hTH, hNC, hscr, hroom, hend, rfl⟩ := cx
  exact fun H locs ls hP hS hl => lv_iload_n hx hb d hi (lv_at hl j hj) (k H locs ls hP hS hl)
theorem lx_iload (cx : CL adC adM ao own cc nL Ts R l tb scr km Post G) {i : Nat} {x : Int} (j : Nat) (d : decode cc pc = .ok (.iload i, 2)) (hj : lv[j]? = some (i, iV x)) (k : G S (pc + 2) lv (iV x :: st)) : G S pc lv st := by
  obtain ⟨p, e, s, m, args, below, meth, c, D, cI, cZ, cL, A, Q, c0, s0, hx, hb, hml, hown, hts, hK, hAC, hAM, hao, hdj, hsz, htb, hTH, hNC, hscr, hroom, hend, rfl⟩ := cx
  exact fun H locs ls hP hS hl => lv_iload hx hb d (lv_at hl j hj) (k H locs ls hP hS hl)
theorem lx_aload_n (cx : CL adC adM ao own cc nL Ts R l tb scr km Post G) {q : Fin 4} {i x : Nat} (j : Nat) (d : decode cc pc = .ok (.aload_n q, 1)) (hi : (q : Nat) = i) (hj : lv[j]? = some (i, .ref x)) (k : G S (pc + 1) lv (.ref x :: st)) : G S pc lv st := by
  obtain ⟨p, e, s, m, args, below, meth, c, D, cI, cZ, cL, A, Q, c0, s0, hx, hb, hml, hown, hts, hK, hAC, hAM, hao, hdj, hsz, htb, hTH, hNC, hscr, hroom, hend, rfl⟩ := cx
  exact fun H locs ls hP hS hl => lv_aload_n hx hb d hi (lv_at hl j hj) (k H locs ls hP hS hl)
theorem lx_aload (cx : CL adC adM ao own cc nL Ts R l tb scr km Post G) {i x : Nat} (j : Nat) (d : decode cc pc = .ok (.aload i, 2)) (hj : lv[j]? = some (i, .ref x)) (k : G S (pc + 2) lv (.ref x :: st)) : G S pc lv st := by
  obtain ⟨p, e, s, m, args, below, meth, c, D, cI, cZ, cL, A, Q, c0, s0, hx, hb, hml, hown, hts, hK, hAC, hAM, hao, hdj, hsz, htb, hTH, hNC, hscr, hroom, hend, rfl⟩ := cx
  exact fun H locs ls hP hS hl => lv_aload hx hb d (lv_at hl j hj) (k H locs ls hP hS hl)
theorem lx_lload_n (cx : CL adC adM ao own cc nL Ts R l tb scr km Post G) {q : Fin 4} {i : Nat} {x : Int64} (j : Nat) (d : decode cc pc = .ok (.lload_n q, 1)) (hi : (q : Nat) = i) (hj : lv[j]? = some (i, .long x)) (k : G S (pc + 1) lv (.long x :: st)) : G S pc lv st := by
  obtain ⟨p, e, s, m, args, below, meth, c, D, cI, cZ, cL, A, Q, c0, s0, hx, hb, hml, hown, hts, hK, hAC, hAM, hao, hdj, hsz, htb, hTH, hNC, hscr, hroom, hend, rfl⟩ := cx
  exact fun H locs ls hP hS hl => lv_lload_n hx hb d hi (lv_at hl j hj) (k H locs ls hP hS hl)
theorem lx_istore_n (cx : CL adC adM ao own cc nL Ts R l tb scr km Post G) {q : Fin 4} {i : Nat} {x : Int} {lv' : List (Nat × Value)} (d : decode cc pc = .ok (.istore_n q, 1)) (hi : (q : Nat) = i) (hn : i < nL) (hl' : (i, iV x) :: lv.filter (fun q => !(q.1 == i) && !(q.1 + 1 == i && q.2.category == 2)) = lv') (k : G S (pc + 1) lv' st) : G S pc lv (iV x :: st) := by
  obtain ⟨p, e, s, m, args, below, meth, c, D, cI, cZ, cL, A, Q, c0, s0, hx, hb, hml, hown, hts, hK, hAC, hAM, hao, hdj, hsz, htb, hTH, hNC, hscr, hroom, hend, rfl⟩ := cx
  exact fun H locs ls hP hS hl => lv_istore_n hx hb d hi hl hn hl' (fun ls' h' => k H locs ls' hP hS h')
theorem lx_istore (cx : CL adC adM ao own cc nL Ts R l tb scr km Post G) {i : Nat} {x : Int} {lv' : List (Nat × Value)} (d : decode cc pc = .ok (.istore i, 2)) (hn : i < nL) (hl' : (i, iV x) :: lv.filter (fun q => !(q.1 == i) && !(q.1 + 1 == i && q.2.category == 2)) = lv') (k : G S (pc + 2) lv' st) : G S pc lv (iV x :: st) := by
  obtain ⟨p, e, s, m, args, below, meth, c, D, cI, cZ, cL, A, Q, c0, s0, hx, hb, hml, hown, hts, hK, hAC, hAM, hao, hdj, hsz, htb, hTH, hNC, hscr, hroom, hend, rfl⟩ := cx
  exact fun H locs ls hP hS hl => lv_istore hx hb d hl hn hl' (fun ls' h' => k H locs ls' hP hS h')
theorem lx_lstore_n (cx : CL adC adM ao own cc nL Ts R l tb scr km Post G) {q : Fin 4} {i : Nat} {x : Int64} {lv' : List (Nat × Value)} (d : decode cc pc = .ok (.lstore_n q, 1)) (hi : (q : Nat) = i) (hn : i + 1 < nL) (hl' : (i, Value.long x) :: lv.filter (fun q => !(q.1 == i) && (!(q.1 == i + 1) && !(q.1 + 1 == i && q.2.category == 2))) = lv') (k : G S (pc + 1) lv' st) : G S pc lv (.long x :: st) := by
  obtain ⟨p, e, s, m, args, below, meth, c, D, cI, cZ, cL, A, Q, c0, s0, hx, hb, hml, hown, hts, hK, hAC, hAM, hao, hdj, hsz, htb, hTH, hNC, hscr, hroom, hend, rfl⟩ := cx
  exact fun H locs ls hP hS hl => lv_lstore_n hx hb d hi hl hn hl' (fun ls' h' => k H locs ls' hP hS h')
theorem lx_iinc (cx : CL adC adM ao own cc nL Ts R l tb scr km Post G) {i : Nat} {n x : Int} {lv' : List (Nat × Value)} (j : Nat) (d : decode cc pc = .ok (.iinc i n, 3)) (hj : lv[j]? = some (i, iV x)) (hn : i < nL) (hl' : (i, iV (x + n)) :: lv.filter (fun q => !(q.1 == i) && !(q.1 + 1 == i && q.2.category == 2)) = lv') (k : G S (pc + 3) lv' st) : G S pc lv st := by
  obtain ⟨p, e, s, m, args, below, meth, c, D, cI, cZ, cL, A, Q, c0, s0, hx, hb, hml, hown, hts, hK, hAC, hAM, hao, hdj, hsz, htb, hTH, hNC, hscr, hroom, hend, rfl⟩ := cx
  exact fun H locs ls hP hS hl => lv_iinc hx hb d hl hj (zi_add x n) hn hl' (fun ls' h' => k H locs ls' hP hS h')
theorem lx_iadd (cx : CL adC adM ao own cc nL Ts R l tb scr km Post G) {x y : Int} (d : decode cc pc = .ok (.iadd, 1)) (k : G S (pc + 1) lv (iV (x + y) :: st)) : G S pc lv (iV y :: iV x :: st) := by
  obtain ⟨p, e, s, m, args, below, meth, c, D, cI, cZ, cL, A, Q, c0, s0, hx, hb, hml, hown, hts, hK, hAC, hAM, hao, hdj, hsz, htb, hTH, hNC, hscr, hroom, hend, rfl⟩ := cx
  intro H locs ls hP hS hl
  have k := k H locs ls hP hS hl
  rw [show iV (x + y) = .int (Int32.ofInt x + Int32.ofInt y) from by rw [zi_add]] at k
  exact lv_iadd hx hb d k
theorem lx_isub (cx : CL adC adM ao own cc nL Ts R l tb scr km Post G) {x y : Int} (d : decode cc pc = .ok (.isub, 1)) (k : G S (pc + 1) lv (iV (x - y) :: st)) : G S pc lv (iV y :: iV x :: st) := by
  obtain ⟨p, e, s, m, args, below, meth, c, D, cI, cZ, cL, A, Q, c0, s0, hx, hb, hml, hown, hts, hK, hAC, hAM, hao, hdj, hsz, htb, hTH, hNC, hscr, hroom, hend, rfl⟩ := cx
  intro H locs ls hP hS hl
  have k := k H locs ls hP hS hl
  rw [show iV (x - y) = .int (Int32.ofInt x - Int32.ofInt y) from by rw [zi_sub]] at k
  exact lv_isub hx hb d k
theorem lx_imul (cx : CL adC adM ao own cc nL Ts R l tb scr km Post G) {x y : Int} (d : decode cc pc = .ok (.imul, 1)) (k : G S (pc + 1) lv (iV (x * y) :: st)) : G S pc lv (iV y :: iV x :: st) := by
  obtain ⟨p, e, s, m, args, below, meth, c, D, cI, cZ, cL, A, Q, c0, s0, hx, hb, hml, hown, hts, hK, hAC, hAM, hao, hdj, hsz, htb, hTH, hNC, hscr, hroom, hend, rfl⟩ := cx
  intro H locs ls hP hS hl
  have k := k H locs ls hP hS hl
  rw [show iV (x * y) = .int (Int32.ofInt x * Int32.ofInt y) from by rw [zi_mul]] at k
  exact lv_imul hx hb d k
theorem lx_ineg (cx : CL adC adM ao own cc nL Ts R l tb scr km Post G) {x : Int} (d : decode cc pc = .ok (.ineg, 1)) (k : G S (pc + 1) lv (iV (-x) :: st)) : G S pc lv (iV x :: st) := by
  obtain ⟨p, e, s, m, args, below, meth, c, D, cI, cZ, cL, A, Q, c0, s0, hx, hb, hml, hown, hts, hK, hAC, hAM, hao, hdj, hsz, htb, hTH, hNC, hscr, hroom, hend, rfl⟩ := cx
  intro H locs ls hP hS hl
  have k := k H locs ls hP hS hl
  rw [show iV (-x) = .int (-Int32.ofInt x) from by rw [zi_neg]] at k
  exact lv_ineg hx hb d k
theorem lx_iand (cx : CL adC adM ao own cc nL Ts R l tb scr km Post G) {x y : Int} (d : decode cc pc = .ok (.iand, 1)) (k : G S (pc + 1) lv (iV (zand x y) :: st)) : G S pc lv (iV y :: iV x :: st) := by
  obtain ⟨p, e, s, m, args, below, meth, c, D, cI, cZ, cL, A, Q, c0, s0, hx, hb, hml, hown, hts, hK, hAC, hAM, hao, hdj, hsz, htb, hTH, hNC, hscr, hroom, hend, rfl⟩ := cx
  intro H locs ls hP hS hl
  have k := k H locs ls hP hS hl
  rw [show iV (zand x y) = .int (Int32.ofInt x &&& Int32.ofInt y) from by rw [iV, zand, zi_asI]] at k
  exact lv_iand hx hb d k
theorem lx_ior (cx : CL adC adM ao own cc nL Ts R l tb scr km Post G) {x y : Int} (d : decode cc pc = .ok (.ior, 1)) (k : G S (pc + 1) lv (iV (zor x y) :: st)) : G S pc lv (iV y :: iV x :: st) := by
  obtain ⟨p, e, s, m, args, below, meth, c, D, cI, cZ, cL, A, Q, c0, s0, hx, hb, hml, hown, hts, hK, hAC, hAM, hao, hdj, hsz, htb, hTH, hNC, hscr, hroom, hend, rfl⟩ := cx
  intro H locs ls hP hS hl
  have k := k H locs ls hP hS hl
  rw [show iV (zor x y) = .int (Int32.ofInt x ||| Int32.ofInt y) from by rw [iV, zor, zi_asI]] at k
  exact lv_ior hx hb d k
theorem lx_ixor (cx : CL adC adM ao own cc nL Ts R l tb scr km Post G) {x y : Int} (d : decode cc pc = .ok (.ixor, 1)) (k : G S (pc + 1) lv (iV (zxor x y) :: st)) : G S pc lv (iV y :: iV x :: st) := by
  obtain ⟨p, e, s, m, args, below, meth, c, D, cI, cZ, cL, A, Q, c0, s0, hx, hb, hml, hown, hts, hK, hAC, hAM, hao, hdj, hsz, htb, hTH, hNC, hscr, hroom, hend, rfl⟩ := cx
  intro H locs ls hP hS hl
  have k := k H locs ls hP hS hl
  rw [show iV (zxor x y) = .int (Int32.ofInt x ^^^ Int32.ofInt y) from by rw [iV, zxor, zi_asI]] at k
  exact lv_ixor hx hb d k
theorem lx_ishl (cx : CL adC adM ao own cc nL Ts R l tb scr km Post G) {x y : Int} (d : decode cc pc = .ok (.ishl, 1)) (k : G S (pc + 1) lv (iV (zshl x y) :: st)) : G S pc lv (iV y :: iV x :: st) := by
  obtain ⟨p, e, s, m, args, below, meth, c, D, cI, cZ, cL, A, Q, c0, s0, hx, hb, hml, hown, hts, hK, hAC, hAM, hao, hdj, hsz, htb, hTH, hNC, hscr, hroom, hend, rfl⟩ := cx
  intro H locs ls hP hS hl
  have k := k H locs ls hP hS hl
  rw [show iV (zshl x y) = .int (Int32.ofInt x <<< (Int32.ofInt y &&& 31)) from by rw [iV, zshl, zi_asI]] at k
  exact lv_ishl hx hb d k
theorem lx_ishr (cx : CL adC adM ao own cc nL Ts R l tb scr km Post G) {x y : Int} (d : decode cc pc = .ok (.ishr, 1)) (k : G S (pc + 1) lv (iV (zshr x y) :: st)) : G S pc lv (iV y :: iV x :: st) := by
  obtain ⟨p, e, s, m, args, below, meth, c, D, cI, cZ, cL, A, Q, c0, s0, hx, hb, hml, hown, hts, hK, hAC, hAM, hao, hdj, hsz, htb, hTH, hNC, hscr, hroom, hend, rfl⟩ := cx
  intro H locs ls hP hS hl
  have k := k H locs ls hP hS hl
  rw [show iV (zshr x y) = .int (Int32.ofInt x >>> (Int32.ofInt y &&& 31)) from by rw [iV, zshr, zi_asI]] at k
  exact lv_ishr hx hb d k
theorem lx_iushr (cx : CL adC adM ao own cc nL Ts R l tb scr km Post G) {x y : Int} (d : decode cc pc = .ok (.iushr, 1)) (k : G S (pc + 1) lv (iV (zushr x y) :: st)) : G S pc lv (iV y :: iV x :: st) := by
  obtain ⟨p, e, s, m, args, below, meth, c, D, cI, cZ, cL, A, Q, c0, s0, hx, hb, hml, hown, hts, hK, hAC, hAM, hao, hdj, hsz, htb, hTH, hNC, hscr, hroom, hend, rfl⟩ := cx
  intro H locs ls hP hS hl
  exact lv_iushr hx hb d (by rw [zushr, zi_asI]) (k H locs ls hP hS hl)
theorem lx_idiv (cx : CL adC adM ao own cc nL Ts R l tb scr km Post G) {x y : Int} (d : decode cc pc = .ok (.idiv, 1)) (g : (0 ≤ x ∧ x < 2147483648) ∧ 0 < y ∧ y < 2147483648) (k : G S (pc + 1) lv (iV (x / y) :: st)) : G S pc lv (iV y :: iV x :: st) := by
  obtain ⟨p, e, s, m, args, below, meth, c, D, cI, cZ, cL, A, Q, c0, s0, hx, hb, hml, hown, hts, hK, hAC, hAM, hao, hdj, hsz, htb, hTH, hNC, hscr, hroom, hend, rfl⟩ := cx
  intro H locs ls hP hS hl
  have k := k H locs ls hP hS hl
  rw [show iV (x / y) = .int (Int32.ofInt x / Int32.ofInt y) from by rw [iV, zi_div g.1 g.2]] at k
  exact lv_idiv hx hb d (zi_ne0 g.2) k
theorem lx_irem (cx : CL adC adM ao own cc nL Ts R l tb scr km Post G) {x y : Int} (d : decode cc pc = .ok (.irem, 1)) (g : (0 ≤ x ∧ x < 2147483648) ∧ 0 < y ∧ y < 2147483648) (k : G S (pc + 1) lv (iV (x % y) :: st)) : G S pc lv (iV y :: iV x :: st) := by
  obtain ⟨p, e, s, m, args, below, meth, c, D, cI, cZ, cL, A, Q, c0, s0, hx, hb, hml, hown, hts, hK, hAC, hAM, hao, hdj, hsz, htb, hTH, hNC, hscr, hroom, hend, rfl⟩ := cx
  intro H locs ls hP hS hl
  have k := k H locs ls hP hS hl
  rw [show iV (x % y) = .int (Int32.ofInt x - Int32.ofInt x / Int32.ofInt y * Int32.ofInt y) from by rw [iV, zi_rem g.1 g.2]] at k
  exact lv_irem hx hb d (zi_ne0 g.2) k
theorem lx_i2l (cx : CL adC adM ao own cc nL Ts R l tb scr km Post G) {x : Int} (d : decode cc pc = .ok (.i2l, 1)) (k : G S (pc + 1) lv (.long (Int32.ofInt x).toInt64 :: st)) : G S pc lv (iV x :: st) := by
  obtain ⟨p, e, s, m, args, below, meth, c, D, cI, cZ, cL, A, Q, c0, s0, hx, hb, hml, hown, hts, hK, hAC, hAM, hao, hdj, hsz, htb, hTH, hNC, hscr, hroom, hend, rfl⟩ := cx
  exact fun H locs ls hP hS hl => lv_i2l hx hb d rfl (k H locs ls hP hS hl)
theorem lx_lconst (cx : CL adC adM ao own cc nL Ts R l tb scr km Post G) {n : Fin 2} {v : Int64} (d : decode cc pc = .ok (.lconst n, 1)) (hv : Int64.ofNat (n : Nat) = v) (k : G S (pc + 1) lv (.long v :: st)) : G S pc lv st := by
  obtain ⟨p, e, s, m, args, below, meth, c, D, cI, cZ, cL, A, Q, c0, s0, hx, hb, hml, hown, hts, hK, hAC, hAM, hao, hdj, hsz, htb, hTH, hNC, hscr, hroom, hend, rfl⟩ := cx
  exact fun H locs ls hP hS hl => lv_lconst hx hb d hv (k H locs ls hP hS hl)
theorem lx_ldc2 (cx : CL adC adM ao own cc nL Ts R l tb scr km Post G) {i : Nat} {v : Int64} (d : decode cc pc = .ok (.ldc2_w i, 3)) (hc : Cond.constantLong own i v ∈ Ts) (k : G S (pc + 3) lv (.long v :: st)) : G S pc lv st := by
  obtain ⟨p, e, s, m, args, below, meth, c, D, cI, cZ, cL, A, Q, c0, s0, hx, hb, hml, hown, hts, hK, hAC, hAM, hao, hdj, hsz, htb, hTH, hNC, hscr, hroom, hend, rfl⟩ := cx
  exact fun H locs ls hP hS hl => lv_ldc2 hx hb hown (hts _ hc) d (k H locs ls hP hS hl)
theorem lx_lshl (cx : CL adC adM ao own cc nL Ts R l tb scr km Post G) {x : Int64} {y : Int} (d : decode cc pc = .ok (.lshl, 1)) (k : G S (pc + 1) lv (.long (llshl x y) :: st)) : G S pc lv (iV y :: .long x :: st) := by
  obtain ⟨p, e, s, m, args, below, meth, c, D, cI, cZ, cL, A, Q, c0, s0, hx, hb, hml, hown, hts, hK, hAC, hAM, hao, hdj, hsz, htb, hTH, hNC, hscr, hroom, hend, rfl⟩ := cx
  exact fun H locs ls hP hS hl => lv_lshl hx hb d rfl (k H locs ls hP hS hl)
theorem lx_lshr (cx : CL adC adM ao own cc nL Ts R l tb scr km Post G) {x : Int64} {y : Int} (d : decode cc pc = .ok (.lshr, 1)) (k : G S (pc + 1) lv (.long (llshr x y) :: st)) : G S pc lv (iV y :: .long x :: st) := by
  obtain ⟨p, e, s, m, args, below, meth, c, D, cI, cZ, cL, A, Q, c0, s0, hx, hb, hml, hown, hts, hK, hAC, hAM, hao, hdj, hsz, htb, hTH, hNC, hscr, hroom, hend, rfl⟩ := cx
  exact fun H locs ls hP hS hl => lv_lshr hx hb d rfl (k H locs ls hP hS hl)
theorem lx_lushr (cx : CL adC adM ao own cc nL Ts R l tb scr km Post G) {x : Int64} {y : Int} (d : decode cc pc = .ok (.lushr, 1)) (k : G S (pc + 1) lv (.long (llushr x y) :: st)) : G S pc lv (iV y :: .long x :: st) := by
  obtain ⟨p, e, s, m, args, below, meth, c, D, cI, cZ, cL, A, Q, c0, s0, hx, hb, hml, hown, hts, hK, hAC, hAM, hao, hdj, hsz, htb, hTH, hNC, hscr, hroom, hend, rfl⟩ := cx
  exact fun H locs ls hP hS hl => lv_lushr hx hb d rfl (k H locs ls hP hS hl)
theorem lx_land (cx : CL adC adM ao own cc nL Ts R l tb scr km Post G) {x y : Int64} (d : decode cc pc = .ok (.land, 1)) (k : G S (pc + 1) lv (.long (x &&& y) :: st)) : G S pc lv (.long y :: .long x :: st) := by
  obtain ⟨p, e, s, m, args, below, meth, c, D, cI, cZ, cL, A, Q, c0, s0, hx, hb, hml, hown, hts, hK, hAC, hAM, hao, hdj, hsz, htb, hTH, hNC, hscr, hroom, hend, rfl⟩ := cx
  exact fun H locs ls hP hS hl => lv_land hx hb d (k H locs ls hP hS hl)
theorem lx_lor (cx : CL adC adM ao own cc nL Ts R l tb scr km Post G) {x y : Int64} (d : decode cc pc = .ok (.lor, 1)) (k : G S (pc + 1) lv (.long (x ||| y) :: st)) : G S pc lv (.long y :: .long x :: st) := by
  obtain ⟨p, e, s, m, args, below, meth, c, D, cI, cZ, cL, A, Q, c0, s0, hx, hb, hml, hown, hts, hK, hAC, hAM, hao, hdj, hsz, htb, hTH, hNC, hscr, hroom, hend, rfl⟩ := cx
  exact fun H locs ls hP hS hl => lv_lor hx hb d (k H locs ls hP hS hl)
theorem lx_lxor (cx : CL adC adM ao own cc nL Ts R l tb scr km Post G) {x y : Int64} (d : decode cc pc = .ok (.lxor, 1)) (k : G S (pc + 1) lv (.long (x ^^^ y) :: st)) : G S pc lv (.long y :: .long x :: st) := by
  obtain ⟨p, e, s, m, args, below, meth, c, D, cI, cZ, cL, A, Q, c0, s0, hx, hb, hml, hown, hts, hK, hAC, hAM, hao, hdj, hsz, htb, hTH, hNC, hscr, hroom, hend, rfl⟩ := cx
  exact fun H locs ls hP hS hl => lv_lxor hx hb d (k H locs ls hP hS hl)
theorem lx_lcmp (cx : CL adC adM ao own cc nL Ts R l tb scr km Post G) {x y : Int64} (d : decode cc pc = .ok (.lcmp, 1)) (k : G S (pc + 1) lv (iV (zlcmp x y) :: st)) : G S pc lv (.long y :: .long x :: st) := by
  obtain ⟨p, e, s, m, args, below, meth, c, D, cI, cZ, cL, A, Q, c0, s0, hx, hb, hml, hown, hts, hK, hAC, hAM, hao, hdj, hsz, htb, hTH, hNC, hscr, hroom, hend, rfl⟩ := cx
  intro H locs ls hP hS hl
  have k := k H locs ls hP hS hl
  rw [show iV (zlcmp x y) = .int (lg_cmp x y) from by rw [iV, zlcmp, zi_asI]] at k
  exact W.lcmp hx hb d k
theorem lx_pop (cx : CL adC adM ao own cc nL Ts R l tb scr km Post G) {v : Value} (d : decode cc pc = .ok (.pop, 1)) (hv : v.category = 1) (k : G S (pc + 1) lv st) : G S pc lv (v :: st) := by
  obtain ⟨p, e, s, m, args, below, meth, c, D, cI, cZ, cL, A, Q, c0, s0, hx, hb, hml, hown, hts, hK, hAC, hAM, hao, hdj, hsz, htb, hTH, hNC, hscr, hroom, hend, rfl⟩ := cx
  exact fun H locs ls hP hS hl => lv_pop hx hb d hv (k H locs ls hP hS hl)
theorem lx_dup (cx : CL adC adM ao own cc nL Ts R l tb scr km Post G) {v : Value} (d : decode cc pc = .ok (.dup, 1)) (hv : v.category = 1) (k : G S (pc + 1) lv (v :: v :: st)) : G S pc lv (v :: st) := by
  obtain ⟨p, e, s, m, args, below, meth, c, D, cI, cZ, cL, A, Q, c0, s0, hx, hb, hml, hown, hts, hK, hAC, hAM, hao, hdj, hsz, htb, hTH, hNC, hscr, hroom, hend, rfl⟩ := cx
  exact fun H locs ls hP hS hl => lv_dup hx hb d hv (k H locs ls hP hS hl)
theorem lx_dup2 (cx : CL adC adM ao own cc nL Ts R l tb scr km Post G) {v u : Value} (d : decode cc pc = .ok (.dup2, 1)) (hv : v.category = 1) (hu : u.category = 1) (k : G S (pc + 1) lv (v :: u :: v :: u :: st)) : G S pc lv (v :: u :: st) := by
  obtain ⟨p, e, s, m, args, below, meth, c, D, cI, cZ, cL, A, Q, c0, s0, hx, hb, hml, hown, hts, hK, hAC, hAM, hao, hdj, hsz, htb, hTH, hNC, hscr, hroom, hend, rfl⟩ := cx
  exact fun H locs ls hP hS hl => lv_dup2_11 hx hb d hv hu (k H locs ls hP hS hl)
theorem lx_goto (cx : CL adC adM ao own cc nL Ts R l tb scr km Post G) {off : Int} (tgt : Nat) (d : decode cc pc = .ok (.goto off, 3)) (ht : (pc : Int) + off = (tgt : Int)) (k : G S tgt lv st) : G S pc lv st := by
  obtain ⟨p, e, s, m, args, below, meth, c, D, cI, cZ, cL, A, Q, c0, s0, hx, hb, hml, hown, hts, hK, hAC, hAM, hao, hdj, hsz, htb, hTH, hNC, hscr, hroom, hend, rfl⟩ := cx
  exact fun H locs ls hP hS hl => lv_goto hx hb d ht (k H locs ls hP hS hl)
theorem lx_icmp_eq (cx : CL adC adM ao own cc nL Ts R l tb scr km Post G) {x y off : Int} (tgt : Nat) (d : decode cc pc = .ok (.if_icmp .eq off, 3)) (ht : (pc : Int) + off = (tgt : Int)) (gx : inR x) (gy : inR y) (kt : x = y → G S tgt lv st) (kf : ¬ (x = y) → G S (pc + 3) lv st) : G S pc lv (iV y :: iV x :: st) := by
  obtain ⟨p, e, s, m, args, below, meth, c, D, cI, cZ, cL, A, Q, c0, s0, hx, hb, hml, hown, hts, hK, hAC, hAM, hao, hdj, hsz, htb, hTH, hNC, hscr, hroom, hend, rfl⟩ := cx
  intro H locs ls hP hS hl
  have hc := zi_eq gx gy
  exact lv_icmp_eq hx hb d ht (fun h => kt (hc.mp h) H locs ls hP hS hl) (fun h => kf (fun h2 => h (hc.mpr h2)) H locs ls hP hS hl)
theorem lx_icmp_ne (cx : CL adC adM ao own cc nL Ts R l tb scr km Post G) {x y off : Int} (tgt : Nat) (d : decode cc pc = .ok (.if_icmp .ne off, 3)) (ht : (pc : Int) + off = (tgt : Int)) (gx : inR x) (gy : inR y) (kf : x = y → G S (pc + 3) lv st) (kt : ¬ x = y → G S tgt lv st) : G S pc lv (iV y :: iV x :: st) := by
  obtain ⟨p, e, s, m, args, below, meth, c, D, cI, cZ, cL, A, Q, c0, s0, hx, hb, hml, hown, hts, hK, hAC, hAM, hao, hdj, hsz, htb, hTH, hNC, hscr, hroom, hend, rfl⟩ := cx
  intro H locs ls hP hS hl
  have hc := zi_eq gx gy
  exact lv_icmp_ne hx hb d ht (fun h => kt (fun h2 => h (hc.mpr h2)) H locs ls hP hS hl) (fun h => kf (hc.mp h) H locs ls hP hS hl)
theorem lx_icmp_lt (cx : CL adC adM ao own cc nL Ts R l tb scr km Post G) {x y off : Int} (tgt : Nat) (d : decode cc pc = .ok (.if_icmp .lt off, 3)) (ht : (pc : Int) + off = (tgt : Int)) (gx : inR x) (gy : inR y) (kt : x < y → G S tgt lv st) (kf : ¬ (x < y) → G S (pc + 3) lv st) : G S pc lv (iV y :: iV x :: st) := by
  obtain ⟨p, e, s, m, args, below, meth, c, D, cI, cZ, cL, A, Q, c0, s0, hx, hb, hml, hown, hts, hK, hAC, hAM, hao, hdj, hsz, htb, hTH, hNC, hscr, hroom, hend, rfl⟩ := cx
  intro H locs ls hP hS hl
  have hc := zi_lt gx gy
  exact lv_icmp_lt hx hb d ht (fun h => kt (hc.mp h) H locs ls hP hS hl) (fun h => kf (fun h2 => h (hc.mpr h2)) H locs ls hP hS hl)
theorem lx_icmp_ge (cx : CL adC adM ao own cc nL Ts R l tb scr km Post G) {x y off : Int} (tgt : Nat) (d : decode cc pc = .ok (.if_icmp .ge off, 3)) (ht : (pc : Int) + off = (tgt : Int)) (gx : inR x) (gy : inR y) (kt : y ≤ x → G S tgt lv st) (kf : ¬ (y ≤ x) → G S (pc + 3) lv st) : G S pc lv (iV y :: iV x :: st) := by
  obtain ⟨p, e, s, m, args, below, meth, c, D, cI, cZ, cL, A, Q, c0, s0, hx, hb, hml, hown, hts, hK, hAC, hAM, hao, hdj, hsz, htb, hTH, hNC, hscr, hroom, hend, rfl⟩ := cx
  intro H locs ls hP hS hl
  have hc := zi_le gy gx
  exact lv_icmp_ge hx hb d ht (fun h => kt (hc.mp h) H locs ls hP hS hl) (fun h => kf (fun h2 => h (hc.mpr h2)) H locs ls hP hS hl)
theorem lx_icmp_gt (cx : CL adC adM ao own cc nL Ts R l tb scr km Post G) {x y off : Int} (tgt : Nat) (d : decode cc pc = .ok (.if_icmp .gt off, 3)) (ht : (pc : Int) + off = (tgt : Int)) (gx : inR x) (gy : inR y) (kt : y < x → G S tgt lv st) (kf : ¬ (y < x) → G S (pc + 3) lv st) : G S pc lv (iV y :: iV x :: st) := by
  obtain ⟨p, e, s, m, args, below, meth, c, D, cI, cZ, cL, A, Q, c0, s0, hx, hb, hml, hown, hts, hK, hAC, hAM, hao, hdj, hsz, htb, hTH, hNC, hscr, hroom, hend, rfl⟩ := cx
  intro H locs ls hP hS hl
  have hc := zi_lt gy gx
  exact lv_icmp_gt hx hb d ht (fun h => kt (hc.mp h) H locs ls hP hS hl) (fun h => kf (fun h2 => h (hc.mpr h2)) H locs ls hP hS hl)
theorem lx_icmp_le (cx : CL adC adM ao own cc nL Ts R l tb scr km Post G) {x y off : Int} (tgt : Nat) (d : decode cc pc = .ok (.if_icmp .le off, 3)) (ht : (pc : Int) + off = (tgt : Int)) (gx : inR x) (gy : inR y) (kt : x ≤ y → G S tgt lv st) (kf : ¬ (x ≤ y) → G S (pc + 3) lv st) : G S pc lv (iV y :: iV x :: st) := by
  obtain ⟨p, e, s, m, args, below, meth, c, D, cI, cZ, cL, A, Q, c0, s0, hx, hb, hml, hown, hts, hK, hAC, hAM, hao, hdj, hsz, htb, hTH, hNC, hscr, hroom, hend, rfl⟩ := cx
  intro H locs ls hP hS hl
  have hc := zi_le gx gy
  exact lv_icmp_le hx hb d ht (fun h => kt (hc.mp h) H locs ls hP hS hl) (fun h => kf (fun h2 => h (hc.mpr h2)) H locs ls hP hS hl)
theorem lx_if_eq (cx : CL adC adM ao own cc nL Ts R l tb scr km Post G) {x off : Int} (tgt : Nat) (d : decode cc pc = .ok (.ifCond .eq off, 3)) (ht : (pc : Int) + off = (tgt : Int)) (gx : inR x) (kt : x = 0 → G S tgt lv st) (kf : ¬ (x = 0) → G S (pc + 3) lv st) : G S pc lv (iV x :: st) := by
  obtain ⟨p, e, s, m, args, below, meth, c, D, cI, cZ, cL, A, Q, c0, s0, hx, hb, hml, hown, hts, hK, hAC, hAM, hao, hdj, hsz, htb, hTH, hNC, hscr, hroom, hend, rfl⟩ := cx
  intro H locs ls hP hS hl
  have z0 : inR 0 := ⟨by decide, by decide⟩
  have hc := zi_eq gx z0
  exact lv_if_eq hx hb d ht (fun h => kt (hc.mp h) H locs ls hP hS hl) (fun h => kf (fun h2 => h (hc.mpr h2)) H locs ls hP hS hl)
theorem lx_if_ne (cx : CL adC adM ao own cc nL Ts R l tb scr km Post G) {x off : Int} (tgt : Nat) (d : decode cc pc = .ok (.ifCond .ne off, 3)) (ht : (pc : Int) + off = (tgt : Int)) (gx : inR x) (kf : x = 0 → G S (pc + 3) lv st) (kt : ¬ x = 0 → G S tgt lv st) : G S pc lv (iV x :: st) := by
  obtain ⟨p, e, s, m, args, below, meth, c, D, cI, cZ, cL, A, Q, c0, s0, hx, hb, hml, hown, hts, hK, hAC, hAM, hao, hdj, hsz, htb, hTH, hNC, hscr, hroom, hend, rfl⟩ := cx
  intro H locs ls hP hS hl
  have z0 : inR 0 := ⟨by decide, by decide⟩
  have hc := zi_eq gx z0
  exact lv_if_ne hx hb d ht (fun h => kt (fun h2 => h (hc.mpr h2)) H locs ls hP hS hl) (fun h => kf (hc.mp h) H locs ls hP hS hl)
theorem lx_if_lt (cx : CL adC adM ao own cc nL Ts R l tb scr km Post G) {x off : Int} (tgt : Nat) (d : decode cc pc = .ok (.ifCond .lt off, 3)) (ht : (pc : Int) + off = (tgt : Int)) (gx : inR x) (kt : x < 0 → G S tgt lv st) (kf : ¬ (x < 0) → G S (pc + 3) lv st) : G S pc lv (iV x :: st) := by
  obtain ⟨p, e, s, m, args, below, meth, c, D, cI, cZ, cL, A, Q, c0, s0, hx, hb, hml, hown, hts, hK, hAC, hAM, hao, hdj, hsz, htb, hTH, hNC, hscr, hroom, hend, rfl⟩ := cx
  intro H locs ls hP hS hl
  have z0 : inR 0 := ⟨by decide, by decide⟩
  have hc := zi_lt gx z0
  exact lv_if_lt hx hb d ht (fun h => kt (hc.mp h) H locs ls hP hS hl) (fun h => kf (fun h2 => h (hc.mpr h2)) H locs ls hP hS hl)
theorem lx_if_ge (cx : CL adC adM ao own cc nL Ts R l tb scr km Post G) {x off : Int} (tgt : Nat) (d : decode cc pc = .ok (.ifCond .ge off, 3)) (ht : (pc : Int) + off = (tgt : Int)) (gx : inR x) (kt : 0 ≤ x → G S tgt lv st) (kf : ¬ (0 ≤ x) → G S (pc + 3) lv st) : G S pc lv (iV x :: st) := by
  obtain ⟨p, e, s, m, args, below, meth, c, D, cI, cZ, cL, A, Q, c0, s0, hx, hb, hml, hown, hts, hK, hAC, hAM, hao, hdj, hsz, htb, hTH, hNC, hscr, hroom, hend, rfl⟩ := cx
  intro H locs ls hP hS hl
  have z0 : inR 0 := ⟨by decide, by decide⟩
  have hc := zi_le z0 gx
  exact lv_if_ge hx hb d ht (fun h => kt (hc.mp h) H locs ls hP hS hl) (fun h => kf (fun h2 => h (hc.mpr h2)) H locs ls hP hS hl)
theorem lx_if_gt (cx : CL adC adM ao own cc nL Ts R l tb scr km Post G) {x off : Int} (tgt : Nat) (d : decode cc pc = .ok (.ifCond .gt off, 3)) (ht : (pc : Int) + off = (tgt : Int)) (gx : inR x) (kt : 0 < x → G S tgt lv st) (kf : ¬ (0 < x) → G S (pc + 3) lv st) : G S pc lv (iV x :: st) := by
  obtain ⟨p, e, s, m, args, below, meth, c, D, cI, cZ, cL, A, Q, c0, s0, hx, hb, hml, hown, hts, hK, hAC, hAM, hao, hdj, hsz, htb, hTH, hNC, hscr, hroom, hend, rfl⟩ := cx
  intro H locs ls hP hS hl
  have z0 : inR 0 := ⟨by decide, by decide⟩
  have hc := zi_lt z0 gx
  exact lv_if_gt hx hb d ht (fun h => kt (hc.mp h) H locs ls hP hS hl) (fun h => kf (fun h2 => h (hc.mpr h2)) H locs ls hP hS hl)
theorem lx_if_le (cx : CL adC adM ao own cc nL Ts R l tb scr km Post G) {x off : Int} (tgt : Nat) (d : decode cc pc = .ok (.ifCond .le off, 3)) (ht : (pc : Int) + off = (tgt : Int)) (gx : inR x) (kt : x ≤ 0 → G S tgt lv st) (kf : ¬ (x ≤ 0) → G S (pc + 3) lv st) : G S pc lv (iV x :: st) := by
  obtain ⟨p, e, s, m, args, below, meth, c, D, cI, cZ, cL, A, Q, c0, s0, hx, hb, hml, hown, hts, hK, hAC, hAM, hao, hdj, hsz, htb, hTH, hNC, hscr, hroom, hend, rfl⟩ := cx
  intro H locs ls hP hS hl
  have z0 : inR 0 := ⟨by decide, by decide⟩
  have hc := zi_le gx z0
  exact lv_if_le hx hb d ht (fun h => kt (hc.mp h) H locs ls hP hS hl) (fun h => kf (fun h2 => h (hc.mpr h2)) H locs ls hP hS hl)
theorem lx_tableIn (cx : CL adC adM ao own cc nL Ts R l tb scr km Post G) {dflt lo hi : Int} {offs : Array Int} {len : Nat} {x off : Int} (tgt : Nat) (d : decode cc pc = .ok (.tableswitch dflt lo hi offs, len)) (gx : inR x) (h1 : ¬ x < lo) (h2 : ¬ hi < x) (ho : offs[(x - lo).toNat]? = some off) (ht : (pc : Int) + off = (tgt : Int)) (k : G S tgt lv st) : G S pc lv (iV x :: st) := by
  obtain ⟨p, e, s, m, args, below, meth, c, D, cI, cZ, cL, A, Q, c0, s0, hx, hb, hml, hown, hts, hK, hAC, hAM, hao, hdj, hsz, htb, hTH, hNC, hscr, hroom, hend, rfl⟩ := cx
  exact fun H locs ls hP hS hl => lv_tableIn hx hb d (by rw [zi_toInt gx]; exact h1) (by rw [zi_toInt gx]; exact h2) (by rw [zi_toInt gx]; exact ho) ht (k H locs ls hP hS hl)
theorem lx_tableOut (cx : CL adC adM ao own cc nL Ts R l tb scr km Post G) {dflt lo hi : Int} {offs : Array Int} {len : Nat} {x : Int} (tgt : Nat) (d : decode cc pc = .ok (.tableswitch dflt lo hi offs, len)) (gx : inR x) (h : x < lo ∨ hi < x) (ht : (pc : Int) + dflt = (tgt : Int)) (k : G S tgt lv st) : G S pc lv (iV x :: st) := by
  obtain ⟨p, e, s, m, args, below, meth, c, D, cI, cZ, cL, A, Q, c0, s0, hx, hb, hml, hown, hts, hK, hAC, hAM, hao, hdj, hsz, htb, hTH, hNC, hscr, hroom, hend, rfl⟩ := cx
  exact fun H locs ls hP hS hl => lv_tableOut hx hb d (by rw [zi_toInt gx]; exact h) ht (k H locs ls hP hS hl)
theorem lx_lv (cx : CL adC adM ao own cc nL Ts R l tb scr km Post G) {lv' : List (Nat × Value)} (is : List Nat) (hl' : lv_pick lv is = lv') (k : G S pc lv' st) : G S pc lv st := by
  obtain ⟨p, e, s, m, args, below, meth, c, D, cI, cZ, cL, A, Q, c0, s0, hx, hb, hml, hown, hts, hK, hAC, hAM, hao, hdj, hsz, htb, hTH, hNC, hscr, hroom, hend, rfl⟩ := cx
  exact fun H locs ls hP hS hl => k H locs ls hP hS (lv_sub hl is hl')
theorem lx_astore_n (cx : CL adC adM ao own cc nL Ts R l tb scr km Post G) {q : Fin 4} {i x : Nat} {lv' : List (Nat × Value)} (d : decode cc pc = .ok (.astore_n q, 1)) (hi : (q : Nat) = i) (hn : i < nL) (hl' : (i, Value.ref x) :: lv.filter (fun q => !(q.1 == i) && !(q.1 + 1 == i && q.2.category == 2)) = lv') (k : G S (pc + 1) lv' st) : G S pc lv (.ref x :: st) := by
  obtain ⟨p, e, s, m, args, below, meth, c, D, cI, cZ, cL, A, Q, c0, s0, hx, hb, hml, hown, hts, hK, hAC, hAM, hao, hdj, hsz, htb, hTH, hNC, hscr, hroom, hend, rfl⟩ := cx
  exact fun H locs ls hP hS hl => lv_astore_n hx hb d hi hl hn hl' (fun ls' h' => k H locs ls' hP hS h')
theorem lx_astore (cx : CL adC adM ao own cc nL Ts R l tb scr km Post G) {i x : Nat} {lv' : List (Nat × Value)} (d : decode cc pc = .ok (.astore i, 2)) (hn : i < nL) (hl' : (i, Value.ref x) :: lv.filter (fun q => !(q.1 == i) && !(q.1 + 1 == i && q.2.category == 2)) = lv') (k : G S (pc + 2) lv' st) : G S pc lv (.ref x :: st) := by
  obtain ⟨p, e, s, m, args, below, meth, c, D, cI, cZ, cL, A, Q, c0, s0, hx, hb, hml, hown, hts, hK, hAC, hAM, hao, hdj, hsz, htb, hTH, hNC, hscr, hroom, hend, rfl⟩ := cx
  exact fun H locs ls hP hS hl => lv_astore hx hb d hl hn hl' (fun ls' h' => k H locs ls' hP hS h')
theorem lx_ret (cx : CL adC adM ao own cc nL Ts R l tb scr km Post G) {z : Int} (d : decode cc pc = .ok (.ireturn, 1)) (hk : S.1 ≤ km) (hp : Post z S) : G S pc lv [iV z] := by
  obtain ⟨p, e, s, m, args, below, meth, c, D, cI, cZ, cL, A, Q, c0, s0, hx, hb, hml, hown, hts, hK, hAC, hAM, hao, hdj, hsz, htb, hTH, hNC, hscr, hroom, hend, rfl⟩ := cx
  exact fun H locs ls hP hS hl => hend S z H locs ls pc hk hP hS hp d
theorem lx_widen (cx : CL adC adM ao own cc nL Ts R l tb scr km Post G) (k : G (S.1 + 1, S.2) pc lv st) : G S pc lv st := by
  obtain ⟨p, e, s, m, args, below, meth, c, D, cI, cZ, cL, A, Q, c0, s0, hx, hb, hml, hown, hts, hK, hAC, hAM, hao, hdj, hsz, htb, hTH, hNC, hscr, hroom, hend, rfl⟩ := cx
  exact fun H locs ls hP hS hl => W.widen (k := c0 + (S.1 + 1)) (n := s0 + 6 * (S.1 + 1)) (by omega) (by omega) (k H locs ls hP hS hl)
theorem lx_sld (cx : CL adC adM ao own cc nL Ts R l tb scr km Post G) {b L : Nat} {xs : Nat → Int32} {z : Int} (hs : scr = some (b, L, xs)) (hL : L < 2147483648) (hin : inB z L) (d : decode cc pc = .ok (.iaload, 1)) (k : G S (pc + 1) lv (iV (xs z.toNat).toInt :: st)) : G S pc lv (iV z :: .ref b :: st) := by
  obtain ⟨p, e, s, m, args, below, meth, c, D, cI, cZ, cL, A, Q, c0, s0, hx, hb, hml, hown, hts, hK, hAC, hAM, hao, hdj, hsz, htb, hTH, hNC, hscr, hroom, hend, rfl⟩ := cx
  obtain ⟨hX, hbl, hbA⟩ := hscr b L xs hs
  intro H locs ls hP hS hl
  refine va_sld hx hb hX hbl hbA hS (zi_in hin hL) d ?_
  have k := k H locs ls hP hS hl
  rw [zi_cl hin.1 (by have := hin.2; omega)]
  rw [show iV (xs z.toNat).toInt = .int (xs z.toNat) from by rw [iV, zi_asI]] at k
  exact k
theorem lx_slen (cx : CL adC adM ao own cc nL Ts R l tb scr km Post G) {b L : Nat} {xs : Nat → Int32} (hs : scr = some (b, L, xs)) (d : decode cc pc = .ok (.arraylength, 1)) (k : G S (pc + 1) lv (iV (L : Int) :: st)) : G S pc lv (.ref b :: st) := by
  obtain ⟨p, e, s, m, args, below, meth, c, D, cI, cZ, cL, A, Q, c0, s0, hx, hb, hml, hown, hts, hK, hAC, hAM, hao, hdj, hsz, htb, hTH, hNC, hscr, hroom, hend, rfl⟩ := cx
  obtain ⟨hX, hbl, hbA⟩ := hscr b L xs hs
  intro H locs ls hP hS hl
  refine va_slen hx hb hX hbl hbA hS d ?_
  exact k H locs ls hP hS hl
theorem lx_lald (cx : CL adC adM ao own cc nL Ts R l tb scr km Post G) (d : decode cc pc = .ok (.laload, 1)) (k : G S (pc + 1) lv (.long (S.2.2.2 0) :: st)) : G S pc lv (iV 0 :: .ref ao :: st) := by
  obtain ⟨p, e, s, m, args, below, meth, c, D, cI, cZ, cL, A, Q, c0, s0, hx, hb, hml, hown, hts, hK, hAC, hAM, hao, hdj, hsz, htb, hTH, hNC, hscr, hroom, hend, rfl⟩ := cx
  intro H locs ls hP hS hl
  exact va_lald hx hb hK hP.2.2 0 2 (cA := cL) (n := 1) (f := S.2.2.2) rfl rfl (zi_in (z := 0) (n := 1) ⟨by decide, by decide⟩ (by decide)) d (k H locs ls hP hS hl)
theorem lx_last (cx : CL adC adM ao own cc nL Ts R l tb scr km Post G) {x : Int64} (d : decode cc pc = .ok (.lastore, 1)) (k : G (S.1, S.2.1, S.2.2.1, vp_updL S.2.2.2 0 x) (pc + 1) lv st) : G S pc lv (.long x :: iV 0 :: .ref ao :: st) := by
  obtain ⟨p, e, s, m, args, below, meth, c, D, cI, cZ, cL, A, Q, c0, s0, hx, hb, hml, hown, hts, hK, hAC, hAM, hao, hdj, hsz, htb, hTH, hNC, hscr, hroom, hend, rfl⟩ := cx
  intro H locs ls hP hS hl
  refine W.last hx hb (hP.2.2 0 _ rfl) ((hK.2 2 _ rfl).1 1 (fun j => .long (S.2.2.2 j))) (fun q => by cases q) (by show ¬ ((Int32.ofInt 0) < 0 ∨ (arrV _ _ _).slots.size ≤ _); rw [arrV_size]; exact (zi_in (z := 0) (n := 1) ⟨by decide, by decide⟩ (by decide))) rfl rfl d fun H1 e z oq => ?_
  have hkp := lw_keptO (S := S) hdj hP oq
  refine k H1 _ ls ⟨hkp.1, hkp.2, fun i q hi => ?_⟩ (hS.put z oq hao) hl
  match i, hi with
  | i + 1, hi => simp [outW] at hi
  | 0, hi =>
    cases hi
    show H1[ao]? = some (vp_cell _ _)
    rw [e, vp_cell_l, arrV_store]
    congr 2
theorem lx_callC (cx : CL adC adM ao own cc nL Ts R l tb scr km Post G) {y : MethodName} {ws ws' : List Cond} {rm : Room} {As : List Value} {M' : Mem} {v : Option Value} {index n maxL : Nat} {bytes : ByteArray} {ret : Option FieldType} {stk : List Value} (hM : MX l y ws rm wC adC (.ref (adC 26) :: As) S.2.1 v M') (hk : S.1 ≤ km) (hT : GoodIn Ts (wsV own index RX5 y ws)) (hw9 : ws = Cond.code y bytes maxL ret :: ws') (hrc : rm.cells = 0 ∧ rm.slots = 0)
    (hd : y.cls = RX5 ∧ y.cls ≠ "java/lang/invoke/MethodHandle" ∧ y.cls ≠ "java/lang/invoke/VarHandle" ∧ (parseMethodDescriptor y.desc).map (fun d => d.parameters.length) = some n) (hn : As.length = n) (hR : rm.frames + 1 ≤ R.frames ∧ 8 + (maxL + 11) + rm.locals ≤ R.locals) (hst : stk = As.reverse ++ .ref (adC 26) :: st) (hcat : (st.map fun v => v.category).sum ≤ 8) (d : decode cc pc = .ok (.invokevirtual index, 3)) (k : G (S.1, M', S.2.2) (pc + 3) lv (v.toList ++ st)) : G S pc lv stk := by
  obtain ⟨p, e, s, m, args, below, meth, c, D, cI, cZ, cL, A, Q, c0, s0, hx, hb, hml, hown, hts, hK, hAC, hAM, hao, hdj, hsz, htb, hTH, hNC, hscr, hroom, hend, rfl⟩ := cx
  intro H locs ls hP hS hl
  have hcw := cwV (R := R) (s := s) (args := args) (own := own) (C := RX5) (index := index) (bytes := bytes) (maxL := maxL) (ret := ret) (rm := rm) (mc := 0) (ms := 0) n hts hT hw9 hrc.1 hrc.2 hd hR
  have hr := va_runV (e := e) (meth := meth) (below := below) (cells := c0 + S.1) (slots := s0 + 6 * S.1) (locs := locs) (g := F0 m pc ls stk) (As := As) (rest := st) (b := adC 26) ⟨hx, hb, hml, hown, hts⟩ (hM D cI cZ H.size) hcw ⟨mx_blind, va_recv (hK.sub (tys' := []) [] rfl) hP.1 (ci := 5) (q := (RX5, TX5, 5)) (fs := (objC adC S.2.1 26).2) rfl (q0 := 26) (by rw [cells_get (by decide), wcell_obj (by decide)]; rfl), fun U hU hW => ⟨rfl, by rw [hU], by rw [hU]; exact hP.1, va_K.moved hW.alike (hK.sub (tys' := [(cI, .int), (cZ, .boolean)]) [0, 1] rfl), (hAC.D S.2.1).weaken (fun _ _ _ _ => trivial)⟩⟩ rfl hn hl.1 hst (lv_room hcat) d (by have := hroom S.1 hk; exact ⟨this.1, this.2⟩)
  have hf := fA_le hAC hsz hS.1
  intro T hT9 X
  obtain ⟨v1, st₀, t, T', L, h0, X', hL, e1, e2, ⟨⟨hv, hb9⟩, hz, hk9⟩, g⟩ := hr T hT9 X
  cases hv
  have hkk : ∀ q : Nat, q < H.size → ¬ fA wC adC H.size q → T'.heap[q]? = H[q]? := fun q h1 h2 => by rw [e1, hk9 q (by rw [h0]; exact h1) h2, h0]
  have hS1 : va_S A s.heap T'.heap (locs ++ L) := by
    refine ⟨Nat.le_trans hS.1 (by rw [e1, ← h0]; exact hz), fun q h1 h2 => ?_, fun z hz => ?_⟩
    · rw [hkk q (Nat.lt_of_lt_of_le h1 hS.1) (fun h => h2 (hf q h))]
      exact hS.2.1 q h1 h2
    · rcases List.mem_append.mp hz with h | h
      · exact hS.2.2 z h
      · exact hf _ (hL z h)
  have hkept := lw_keptM hdj hP hkk
  obtain ⟨t2, a1, b1⟩ := k T'.heap (locs ++ L) ls ⟨by rw [e1]; exact hb9, hkept.1, hkept.2⟩ hS1 hl T' rfl X'
  exact ⟨t2, g t2 a1, b1⟩
theorem lx_callM (cx : CL adC adM ao own cc nL Ts R l tb scr km Post G) {y : MethodName} {ws ws' : List Cond} {rm : Room} {As : List Value} {M' : Mem} {v : Option Value} {index n maxL : Nat} {bytes : ByteArray} {ret : Option FieldType} {stk : List Value} (hM : MX l y ws rm wM adM (.ref (adM 14) :: As) S.2.2.1 v M') (hk : S.1 ≤ km) (hT : GoodIn Ts (wsV own index RX6 y ws)) (hw9 : ws = Cond.code y bytes maxL ret :: ws') (hrc : rm.cells = 0 ∧ rm.slots = 0)
    (hd : y.cls = RX6 ∧ y.cls ≠ "java/lang/invoke/MethodHandle" ∧ y.cls ≠ "java/lang/invoke/VarHandle" ∧ (parseMethodDescriptor y.desc).map (fun d => d.parameters.length) = some n) (hn : As.length = n) (hR : rm.frames + 1 ≤ R.frames ∧ 8 + (maxL + 11) + rm.locals ≤ R.locals) (hst : stk = As.reverse ++ .ref (adM 14) :: st) (hcat : (st.map fun v => v.category).sum ≤ 8) (d : decode cc pc = .ok (.invokevirtual index, 3)) (k : G (S.1, S.2.1, M', S.2.2.2) (pc + 3) lv (v.toList ++ st)) : G S pc lv stk := by
  obtain ⟨p, e, s, m, args, below, meth, c, D, cI, cZ, cL, A, Q, c0, s0, hx, hb, hml, hown, hts, hK, hAC, hAM, hao, hdj, hsz, htb, hTH, hNC, hscr, hroom, hend, rfl⟩ := cx
  intro H locs ls hP hS hl
  have hcw := cwV (R := R) (s := s) (args := args) (own := own) (C := RX6) (index := index) (bytes := bytes) (maxL := maxL) (ret := ret) (rm := rm) (mc := 0) (ms := 0) n hts hT hw9 hrc.1 hrc.2 hd hR
  have hr := va_runV (e := e) (meth := meth) (below := below) (cells := c0 + S.1) (slots := s0 + 6 * S.1) (locs := locs) (g := F0 m pc ls stk) (As := As) (rest := st) (b := adM 14) ⟨hx, hb, hml, hown, hts⟩ (hM D cI cZ H.size) hcw ⟨mx_blind, va_recv (hK.sub (tys' := []) [] rfl) hP.2.1 (ci := 6) (q := (RX6, TX6, 19)) (fs := (objM adM S.2.2.1 14).2) rfl (q0 := 14) (by rw [cells_get (by decide), wcell_obj (by decide)]; rfl), fun U hU hW => ⟨rfl, by rw [hU], by rw [hU]; exact hP.2.1, va_K.moved hW.alike (hK.sub (tys' := [(cI, .int), (cZ, .boolean)]) [0, 1] rfl), (hAM.D S.2.2.1).weaken (fun _ _ _ _ => trivial)⟩⟩ rfl hn hl.1 hst (lv_room hcat) d (by have := hroom S.1 hk; exact ⟨this.1, this.2⟩)
  have hf := fA_le hAM hsz hS.1
  intro T hT9 X
  obtain ⟨v1, st₀, t, T', L, h0, X', hL, e1, e2, ⟨⟨hv, hb9⟩, hz, hk9⟩, g⟩ := hr T hT9 X
  cases hv
  have hkk : ∀ q : Nat, q < H.size → ¬ fA wM adM H.size q → T'.heap[q]? = H[q]? := fun q h1 h2 => by rw [e1, hk9 q (by rw [h0]; exact h1) h2, h0]
  have hS1 : va_S A s.heap T'.heap (locs ++ L) := by
    refine ⟨Nat.le_trans hS.1 (by rw [e1, ← h0]; exact hz), fun q h1 h2 => ?_, fun z hz => ?_⟩
    · rw [hkk q (Nat.lt_of_lt_of_le h1 hS.1) (fun h => h2 (hf q h))]
      exact hS.2.1 q h1 h2
    · rcases List.mem_append.mp hz with h | h
      · exact hS.2.2 z h
      · exact hf _ (hL z h)
  have hkept := lw_keptC hdj hP hkk
  obtain ⟨t2, a1, b1⟩ := k T'.heap (locs ++ L) ls ⟨hkept.1, by rw [e1]; exact hb9, hkept.2⟩ hS1 hl T' rfl X'
  exact ⟨t2, g t2 a1, b1⟩
/-- a call of the class that throws E, which is caught here, at the handler hp -/
theorem lx_callX (cx : CL adC adM ao own cc nL Ts R l tb scr km Post G) {y : MethodName} {ws ws' : List Cond} {rm : Room} {As : List Value} {M' : Mem} {E : String} {index n maxL hp ct : Nat} {bytes : ByteArray} {ret : Option FieldType} {stk : List Value} {tl : List ExceptionTableEntry} (hM : MT l y ws rm wC adC (.ref (adC 26) :: As) S.2.1 E M') (hk : S.1 + 1 ≤ km) (hT : GoodIn Ts (wsV own index RX5 y ws)) (hw9 : ws = Cond.code y bytes maxL ret :: ws') (hrc : rm.cells = 1 ∧ rm.slots = 6)
    (hd : y.cls = RX5 ∧ y.cls ≠ "java/lang/invoke/MethodHandle" ∧ y.cls ≠ "java/lang/invoke/VarHandle" ∧ (parseMethodDescriptor y.desc).map (fun d => d.parameters.length) = some n) (hn : As.length = n) (hR : rm.frames + 1 ≤ R.frames ∧ 8 + (maxL + 11) + rm.locals ≤ R.locals) (hst : stk = As.reverse ++ .ref (adC 26) :: st) (hcat : (st.map fun v => v.category).sum ≤ 8) (d : decode cc pc = .ok (.invokevirtual index, 3))
    (pre : List ExceptionTableEntry) (x : ExceptionTableEntry) (suf : List ExceptionTableEntry) (htl : ∀ t, tb t → t = tl) (hsp : tl = pre ++ x :: suf) (hpre : ∀ z ∈ pre, z.catchType = ct ∧ ct ≠ 0) (hct : pre ≠ [] → Cond.classLink own ct "java/lang/IndexOutOfBoundsException" ∈ Ts ∧ (E = "java/lang/IllegalArgumentException" ∨ E = "java/lang/IllegalStateException")) (hxc : covers x pc = true) (hx0 : x.catchType ≠ 0) (hxl : Cond.classLink own x.catchType E ∈ Ts) (hcast : Cond.castable E E ∈ BW) (hhp : x.handlerPc = hp)
    (k : ∀ q : Nat, G (S.1 + 1, M', S.2.2) hp lv [.ref q]) : G S pc lv stk := by
  obtain ⟨p, e, s, m, args, below, meth, c, D, cI, cZ, cL, A, Q, c0, s0, hx, hb, hml, hown, hts, hK, hAC, hAM, hao, hdj, hsz, htb, hTH, hNC, hscr, hroom, hend, rfl⟩ := cx
  intro H locs ls hP hS hl
  have hcw := cwV (R := R) (s := s) (args := args) (own := own) (C := RX5) (index := index) (bytes := bytes) (maxL := maxL) (ret := ret) (rm := rm) (mc := 1) (ms := 6) n hts hT hw9 hrc.1 hrc.2 hd hR
  have hf := fA_le hAC hsz hS.1
  have hr := vx_runV (e := e) (meth := meth) (below := below) (cells := c0 + S.1) (slots := s0 + 6 * S.1) (locs := locs) (g := F0 m pc ls stk) (As := As) (rest := st) (b := adC 26) ⟨hx, hb, hml, hown, hts⟩ (hM D cI cZ H.size) hcw ⟨mt_blind, va_recv (hK.sub (tys' := []) [] rfl) hP.1 (ci := 5) (q := (RX5, TX5, 5)) (fs := (objC adC S.2.1 26).2) rfl (q0 := 26) (by rw [cells_get (by decide), wcell_obj (by decide)]; rfl), fun U hU hW => ⟨rfl, by rw [hU], by rw [hU]; exact hP.1, va_K.moved hW.alike (hK.sub (tys' := [(cI, .int), (cZ, .boolean)]) [0, 1] rfl), (hAC.D S.2.1).weaken (fun _ _ _ _ => trivial), TH.go hW hTH (fun q hq => hf q hq) (fun a h1 h2 => by rw [hU]; exact hS.2.1 a h1 h2)⟩⟩ rfl hn hl.1 hst (lv_room hcat) d (by have := hroom (S.1 + 1) hk; exact ⟨by omega, by omega⟩)
  intro T hT9 X
  rcases hr T hT9 X with ⟨v, st₀, t, T', L, h0, X', hL, e1, e2, hq, g⟩ | ⟨q, st₀, t, T', L, E2, ce, h0, X', hL, e1, e2, ⟨hE, hP2, hz, hk9⟩, hce, hcv, hcl, g⟩
  · exact hq.elim
  subst hE
  have hkk : ∀ q : Nat, q < H.size → ¬ fA wC adC H.size q → T'.heap[q]? = H[q]? := fun q h1 h2 => by rw [e1, hk9 q (by rw [h0]; exact h1) h2, h0]
  have hS1 : va_S A s.heap T'.heap (locs ++ L) := by
    refine ⟨Nat.le_trans hS.1 (by rw [e1, ← h0]; exact hz), fun q h1 h2 => ?_, fun z hz => ?_⟩
    · rw [hkk q (Nat.lt_of_lt_of_le h1 hS.1) (fun h => h2 (hf q h))]
      exact hS.2.1 q h1 h2
    · rcases List.mem_append.mp hz with h | h
      · exact hS.2.2 z h
      · exact hf _ (hL z h)
  have hkept := lw_keptM hdj hP hkk
  have kq := k q T'.heap (locs ++ L) ls ⟨by rw [e1]; exact hP2, hkept.1, hkept.2⟩ hS1 hl
  have kx : vx_W p l e R s m args below meth c T'.heap (locs ++ L) (c0 + S.1 + 1) (s0 + 6 * S.1 + 6) Q (F0 m pc ls st) q := by
    refine vx_catch (name := E2) (E := E2) (ce := ce) hown pre x suf ((htl _ htb).trans hsp) (fun z hz9 => Or.inr ?_) hxc hx0 (hts _ hxl) (va_Nw.use (BW_tab _ hcast) (hTH.2.2.1 _ hcast)) (by rw [e1]; exact hce) hcv hcl (by rw [hhp]; exact kq)
    obtain ⟨c1, c2⟩ := hpre z hz9
    obtain ⟨c3, c4⟩ := hct (fun h => by rw [h] at hz9; cases hz9)
    refine ⟨by rw [c1]; exact c2, "java/lang/IndexOutOfBoundsException", by rw [c1]; exact hts _ c3, ?_⟩
    rcases c4 with rfl | rfl
    · exact hNC.1
    · exact hNC.2
  obtain ⟨t2, a1, b1⟩ := kx T' rfl X'
  exact ⟨t2, g.trans a1, b1⟩
end LROWS
/-! a helper's contract: from the law's world S to S2, its answer z -/
def pcL (D : va_G) (cI cZ cL : ClassId) (adC adM : Nat → Nat) (ao : Nat) (S : LSt) (sz : Nat) : State → Prop := fun U => U.heap.size = sz ∧ LWP D cI cZ cL adC adM ao S U.heap ∧ va_K D vwCl [(cI, .int), (cZ, .boolean), (cL, .long)] U ∧ adOK wC adC (fun _ => True) ∧ adOK wM adM (fun _ => True) ∧ ladj adC adM ao ∧ TH (fL adC adM ao sz) U U.heap ∧ NCs U
def qL (D : va_G) (cI cZ cL : ClassId) (adC adM : Nat → Nat) (ao : Nat) (z : Int) (S2 : LSt) (A : Nat → Prop) : Array Value → State → Outcome → State → Prop := fun _ st oc t => (oc = .returned (some (iV z)) ∧ LWP D cI cZ cL adC adM ao S2 t.heap) ∧ va_F A st t
def HM (l : Launch) (y : MethodName) (ws : List Cond) (rm : Room) (adC adM : Nat → Nat) (ao : Nat) (As : List Value) (S : LSt) (z : Int) (S2 : LSt) : Prop :=
  ∀ (D : va_G) (cI cZ cL : ClassId) (sz : Nat), Met l y ws rm (va_Pc As (pcL D cI cZ cL adC adM ao S sz)) (qL D cI cZ cL adC adM ao z S2 (fL adC adM ao sz)) 1 6 (fL adC adM ao sz)
theorem hm_blind {D : va_G} {cI cZ cL : ClassId} {adC adM : Nat → Nat} {ao : Nat} {S : LSt} {sz : Nat} {As : List Value} : FrameBlind (va_Pc As (pcL D cI cZ cL adC adM ao S sz)) := by
  intro a U g mk h
  obtain ⟨h1, h2, h3, h4, h5, h6, h7, h8, h9, h10⟩ := h
  have hW : U.WarmedH (U.calling g mk a).vm := State.WarmedH.refl U
  exact ⟨h1, h2, h3, va_K.moved (u := U) (U := U.calling g mk a) (Vm.Alike.refl U.vm) h4, h5, h6, h7, TH.go (s := U) (U := U.calling g mk a) hW h8 (fun _ h => h) (fun _ _ _ => rfl), va_Nc.moved (u := U) (U := U.calling g mk a) (Vm.Alike.refl U.vm) h9, va_Nc.moved (u := U) (U := U.calling g mk a) (Vm.Alike.refl U.vm) h10⟩
theorem HM.of {l : Launch} {y : MethodName} {ws ws' : List Cond} {rm : Room} {adC adM : Nat → Nat} {ao : Nat} {As : List Value} {S S2 : LSt} {z : Int} {own : String} {cc : ByteArray} {nL : Nat} {hh : List (Nat × Nat × Nat × Nat)} (hy : plainName y.cls = true) (hw : ws = Cond.codeWith y cc nL (some .int) hh :: ws') (hown : y.cls = own) (hn : (lg_sl As).length ≤ nL) (hrm : 1 ≤ rm.cells ∧ 6 ≤ rm.slots)
    (body : ∀ G, CL adC adM ao own cc nL ws rm l (fun t => t = tableOf hh) none 1 (fun z2 S3 => z2 = z ∧ S3.2 = S2.2) G → G (0, S.2) 0 (lv_args 0 As) []) : HM l y ws rm adC adM ao As S z S2 := by
  intro D cI cZ cL sz
  refine va_MetW (cc := cc) (maxL := nL) (ret := some .int) (hh := hh) hy hw ?_
  intro p e s m args below meth c s₁ B hml hv
  obtain ⟨rfl, hsz, hP, hK, hAC, hAM, hdj, hTH, hNC⟩ := hv
  subst hsz
  rw [lg_entry_eq]
  have htab : c.exceptionTable.toList = tableOf hh := vx_table (x := y) B (atoms_spec (ws := ws) B.pre _ (by rw [hw]; exact List.mem_cons_self))
  refine body _ ⟨p, e, s, m, As.toArray, below, meth, c, D, cI, cZ, cL, fL adC adM ao s.heap.size, MQ below (qL D cI cZ cL adC adM ao z S2 (fL adC adM ao s.heap.size)) As.toArray s 1 6 (fL adC adM ao s.heap.size), 0, 0, B.exec, B.bytes, hml, by rw [← hown]; exact findClass_of_methodNamed B.named, atoms_spec (ws := ws) B.pre, hK, ⟨hAC.1, fun k hk => Or.inl ⟨k, hk, rfl⟩⟩, ⟨hAM.1, fun k hk => Or.inr (Or.inl ⟨k, hk, rfl⟩)⟩, Or.inr (Or.inr (Or.inl rfl)), hdj, fun q h => Or.inr (Or.inr (Or.inr h)), htab, hTH, hNC, (fun b L xs h => by cases h), (fun k hk => by have h1 := hrm.1; have h2 := hrm.2; show 0 + k ≤ rm.cells ∧ 0 + 6 * k ≤ rm.slots; omega), ?_, rfl⟩ s.heap [] _ hP va_S.rf (lv_entry As hn)
  intro S3 z3 H locs ls pc hk hP3 hS hp d
  obtain ⟨rfl, hp2⟩ := hp
  refine W.widen (k := 1) (n := 6) (by omega) (by omega) ?_
  exact W.iret B.exec B.bytes B.returns (hlocks := B.notSynchronized) (fun t ht hW => ⟨⟨rfl, by
    obtain ⟨q1, q2, q3⟩ := hP3
    rw [hp2] at q1 q2 q3
    rw [ht]
    exact ⟨q1, q2, q3⟩⟩, hS.F ht⟩) hS.2.2 d
section LH
variable {adC adM : Nat → Nat} {ao : Nat} {own : String} {cc : ByteArray} {nL : Nat} {Ts : List Cond} {R : Room} {l : Launch} {tb : List ExceptionTableEntry → Prop} {scr : Option (Nat × Nat × (Nat → Int32))} {km : Nat} {Post : Int → LSt → Prop} {G : LSt → Nat → List (Nat × Value) → List Value → Prop}
variable {S : LSt} {pc : Nat} {lv : List (Nat × Value)} {st : List Value}
theorem lx_callH (cx : CL adC adM ao own cc nL Ts R l tb scr km Post G) {y : MethodName} {ws ws' : List Cond} {rm : Room} {As : List Value} {S2 : LSt} {z : Int} {index n maxL : Nat} {bytes : ByteArray} {ret : Option FieldType} {hh : List (Nat × Nat × Nat × Nat)} {stk : List Value} (hM : HM l y ws rm adC adM ao As S z S2) (hk : S.1 + 1 ≤ km) (hT : GoodIn Ts (va_wsS own index y ws)) (hw9 : ws = Cond.codeWith y bytes maxL ret hh :: ws') (hrc : rm.cells = 1 ∧ rm.slots = 6)
    (hd : y.cls ≠ "java/lang/invoke/MethodHandle" ∧ y.cls ≠ "java/lang/invoke/VarHandle" ∧ (parseMethodDescriptor y.desc).map (fun d => d.parameters.length) = some n) (hn : As.length = n) (hR : rm.frames + 1 ≤ R.frames ∧ 8 + (maxL + 11) + rm.locals ≤ R.locals) (hst : stk = As.reverse ++ st) (hcat : (st.map fun v => v.category).sum ≤ 8) (d : decode cc pc = .ok (.invokestatic index, 3)) (k : G (S.1 + 1, S2.2) (pc + 3) lv (iV z :: st)) : G S pc lv stk := by
  obtain ⟨p, e, s, m, args, below, meth, c, D, cI, cZ, cL, A, Q, c0, s0, hx, hb, hml, hown, hts, hK, hAC, hAM, hao, hdj, hsz, htb, hTH, hNC, hscr, hroom, hend, rfl⟩ := cx
  intro H locs ls hP hS hl
  have hcw := vx_cwSW (R := R) (s := s) (args := args) (own := own) (index := index) (bytes := bytes) (maxL := maxL) (ret := ret) (hh := hh) (rm := rm) (mc := 1) (ms := 6) n hts hT hw9 hrc.1 hrc.2 hd hR
  have hf := fL_le hAC hAM hao hsz hS.1
  have hr := vx_runSW (e := e) (meth := meth) (below := below) (cells := c0 + S.1) (slots := s0 + 6 * S.1) (locs := locs) (g := F0 m pc ls stk) (As := As) (rest := st) ⟨hx, hb, hml, hown, hts⟩ (hM D cI cZ cL H.size) hcw ⟨hm_blind, fun U hU hW => ⟨rfl, by rw [hU], by rw [hU]; exact hP, va_K.moved hW.alike hK, ⟨hAC.1, fun _ _ => trivial⟩, ⟨hAM.1, fun _ _ => trivial⟩, hdj, TH.go hW hTH (fun q hq => hf q hq) (fun a h1 h2 => by rw [hU]; exact hS.2.1 a h1 h2), va_Nc.moved hW.alike hNC.1, va_Nc.moved hW.alike hNC.2⟩⟩ rfl hn hl.1 hst (lv_room hcat) d (by have := hroom (S.1 + 1) hk; exact ⟨by omega, by omega⟩)
  intro T hT9 X
  obtain ⟨v1, st₀, t, T', L, h0, X', hL, e1, e2, ⟨⟨hv, hb9⟩, hz, hk9⟩, g⟩ := hr T hT9 X
  cases hv
  have hS1 : va_S A s.heap T'.heap (locs ++ L) := by
    refine ⟨Nat.le_trans hS.1 (by rw [e1, ← h0]; exact hz), fun q h1 h2 => ?_, fun z hz => ?_⟩
    · rw [e1, hk9 q (by rw [h0]; exact Nat.lt_of_lt_of_le h1 hS.1) (fun h => h2 (hf q h)), h0]
      exact hS.2.1 q h1 h2
    · rcases List.mem_append.mp hz with h | h
      · exact hS.2.2 z h
      · exact hf _ (hL z h)
  have kq := k T'.heap (locs ++ L) ls (by rw [e1]; exact hb9) hS1 hl
  obtain ⟨t2, a1, b1⟩ := kq T' rfl X'
  exact ⟨t2, g t2 a1, b1⟩
end LH
