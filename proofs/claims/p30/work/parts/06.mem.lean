/-! A memory over the kit's cells: arrays and int fields by number, their values as whole numbers; the machine's rows over it. -/
abbrev Mem : Type := Nat → Nat → Int
abbrev iV (z : Int) : Value := .int (Int32.ofInt z)
abbrev inR (z : Int) : Prop := -2147483648 ≤ z ∧ z < 2147483648
abbrev inB (z : Int) (n : Nat) : Prop := 0 ≤ z ∧ z < (n : Int)
def wr (M : Mem) (a i : Nat) (v : Int) : Mem := fun b j => if b = a ∧ j = i then v else M b j
def gd {α : Type} (c : Prop) [Decidable c] (x : Option α) : Option α := if c then x else none
theorem gd_some {α : Type} {c : Prop} [Decidable c] {x : Option α} {r : α} (h : gd c x = some r) : c ∧ x = some r := by
  unfold gd at h
  split at h
  · exact ⟨by assumption, h⟩
  · cases h
theorem gd_pos {α : Type} {c : Prop} [Decidable c] {x : Option α} (h : c) : gd c x = x := if_pos h
theorem ob {α β : Type} {x : Option α} {f : α → Option β} {r : β} (h : x.bind f = some r) : ∃ t, x = some t ∧ f t = some r := by
  cases x with
  | none => cases h
  | some t => exact ⟨t, rfl, h⟩
/-! whole numbers and the machine's -/
theorem zi_toInt {z : Int} (h : inR z) : (Int32.ofInt z).toInt = z := by
  exact Int32.toInt_ofInt_of_le (by omega) (by omega)
theorem zi_asI (x : Int32) : Int32.ofInt x.toInt = x := Int32.ofInt_toInt x
theorem zi_inR (x : Int32) : inR x.toInt := ⟨by have := Int32.le_toInt x; omega, by have := Int32.toInt_lt x; omega⟩
theorem zi_add (x y : Int) : Int32.ofInt x + Int32.ofInt y = Int32.ofInt (x + y) := (Int32.ofInt_add x y).symm
theorem zi_sub (x y : Int) : Int32.ofInt x - Int32.ofInt y = Int32.ofInt (x - y) := (Int32.ofInt_sub x y).symm
theorem zi_mul (x y : Int) : Int32.ofInt x * Int32.ofInt y = Int32.ofInt (x * y) := (Int32.ofInt_mul x y).symm
theorem zi_neg (x : Int) : -Int32.ofInt x = Int32.ofInt (-x) := (Int32.ofInt_neg x).symm
theorem zi_lt {x y : Int} (hx : inR x) (hy : inR y) : Int32.ofInt x < Int32.ofInt y ↔ x < y := by
  rw [Int32.lt_iff_toInt_lt, zi_toInt hx, zi_toInt hy]
theorem zi_le {x y : Int} (hx : inR x) (hy : inR y) : Int32.ofInt x ≤ Int32.ofInt y ↔ x ≤ y := by
  rw [Int32.le_iff_toInt_le, zi_toInt hx, zi_toInt hy]
theorem zi_eq {x y : Int} (hx : inR x) (hy : inR y) : Int32.ofInt x = Int32.ofInt y ↔ x = y := by
  rw [← Int32.toInt_inj, zi_toInt hx, zi_toInt hy]
theorem zi_cl {z : Int} (h0 : 0 ≤ z) (h : z < 2147483648) : (Int32.ofInt z).toNatClampNeg = z.toNat := by
  show (Int32.ofInt z).toInt.toNat = _
  rw [zi_toInt ⟨by omega, h⟩]
theorem zi_in {z : Int} {n : Nat} (h : inB z n) (hn : n < 2147483648) : vp_in (Int32.ofInt z) n := by
  rw [vp_in_iff, zi_toInt ⟨by omega, by omega⟩]
  exact h
theorem zi_div {x y : Int} (hx : 0 ≤ x ∧ x < 2147483648) (hy : 0 < y ∧ y < 2147483648) : Int32.ofInt (x / y) = Int32.ofInt x / Int32.ofInt y := by
  apply Int32.toInt_inj.mp
  have h1 : (Int32.ofInt y).toInt = y := zi_toInt ⟨by omega, hy.2⟩
  have h2 : (Int32.ofInt x).toInt = x := zi_toInt ⟨by omega, hx.2⟩
  have h3 : x / y ≤ x := Int.ediv_le_self y hx.1
  have h4 : 0 ≤ x / y := Int.ediv_nonneg hx.1 (by omega)
  rw [Int32.toInt_div_of_ne_right _ _ (fun h => by have := congrArg Int32.toInt h; rw [h1] at this; rw [this] at hy; exact absurd hy.1 (by decide)), h1, h2, Int.tdiv_eq_ediv_of_nonneg hx.1]
  exact zi_toInt ⟨by omega, by omega⟩
theorem zi_rem {x y : Int} (hx : 0 ≤ x ∧ x < 2147483648) (hy : 0 < y ∧ y < 2147483648) : Int32.ofInt (x % y) = Int32.ofInt x - Int32.ofInt x / Int32.ofInt y * Int32.ofInt y := by
  rw [← zi_div hx hy, zi_mul, zi_sub]
  congr 1
  have := Int.emod_add_mul_ediv x y
  have := Int.mul_comm y (x / y)
  omega
theorem zi_ne0 {y : Int} (hy : 0 < y ∧ y < 2147483648) : ¬ Int32.ofInt y = 0 := fun h => by
  have := (zi_eq (x := y) (y := 0) ⟨by omega, hy.2⟩ ⟨by decide, by decide⟩).mp h
  omega
def zand (x y : Int) : Int := (Int32.ofInt x &&& Int32.ofInt y).toInt
def zor (x y : Int) : Int := (Int32.ofInt x ||| Int32.ofInt y).toInt
def zxor (x y : Int) : Int := (Int32.ofInt x ^^^ Int32.ofInt y).toInt
def zshl (x y : Int) : Int := (Int32.ofInt x <<< (Int32.ofInt y &&& 31)).toInt
def zshr (x y : Int) : Int := (Int32.ofInt x >>> (Int32.ofInt y &&& 31)).toInt
def zushr (x y : Int) : Int := ((Int32.ofInt x).toUInt32 >>> ((Int32.ofInt y).toUInt32 &&& Int32.toUInt32 31)).toInt32.toInt
abbrev llshl (x : Int64) (y : Int) : Int64 := x <<< ((Int32.ofInt y).toInt64 &&& 63)
abbrev llshr (x : Int64) (y : Int) : Int64 := x >>> ((Int32.ofInt y).toInt64 &&& 63)
abbrev llushr (x : Int64) (y : Int) : Int64 := (x.toUInt64 >>> ((Int32.ofInt y).toInt64.toUInt64 &&& Int64.toUInt64 63)).toInt64
def zlcmp (x y : Int64) : Int := (lg_cmp x y).toInt
/-! the world: N cells, the first nA of them arrays (their lengths, which are of booleans), behind them objects (their kind and fields, out of the memory) -/
abbrev WD : Type := Nat × Nat × (Nat → Nat) × (Nat → Bool) × ((Nat → Nat) → Mem → Nat → Nat × List Value)
def wcell (w : WD) (cI cZ : ClassId) (ad : Nat → Nat) (M : Mem) (k : Nat) : va_E :=
  if k < w.2.1 then .inl (if w.2.2.2.1 k = true then cZ else cI, w.2.2.1 k, .inl (fun j => Int32.ofInt (M k j))) else .inr (w.2.2.2.2 ad M k)
def cellsOf (w : WD) (cI cZ : ClassId) (ad : Nat → Nat) (M : Mem) : va_W := (List.range w.1).map (fun k => (ad k, wcell w cI cZ ad M k))
def wOK (w : WD) : Prop := w.2.1 ≤ w.1 ∧ w.2.1 ≤ 100 ∧ (∀ k, w.2.2.1 k < 2147483648) ∧ ∀ ad M M' k, (∀ a j, 100 ≤ a → M a j = M' a j) → w.2.2.2.2 ad M k = w.2.2.2.2 ad M' k
theorem cells_get {w : WD} {cI cZ : ClassId} {ad : Nat → Nat} {M : Mem} {k : Nat} (hk : k < w.1) : (cellsOf w cI cZ ad M)[k]? = some (ad k, wcell w cI cZ ad M k) := by
  simp [cellsOf, hk]
theorem cells_len {w : WD} {cI cZ : ClassId} {ad : Nat → Nat} {M : Mem} : (cellsOf w cI cZ ad M).length = w.1 := by simp [cellsOf]
theorem cells_set {w : WD} {cI cZ : ClassId} {ad : Nat → Nat} {M M' : Mem} {q : Nat} {e : va_E} (hq : q < w.1) (he : wcell w cI cZ ad M' q = e) (ho : ∀ k, k < w.1 → k ≠ q → wcell w cI cZ ad M' k = wcell w cI cZ ad M k) :
    (cellsOf w cI cZ ad M).set q (ad q, e) = cellsOf w cI cZ ad M' := by
  apply List.ext_getElem?
  intro i
  rcases Nat.lt_or_ge i w.1 with hi | hi
  · rw [cells_get (M := M') hi]
    by_cases h : i = q
    · subst h
      rw [List.getElem?_set_self (by rw [cells_len]; exact hi), he]
    · rw [List.getElem?_set_ne (Ne.symm h), cells_get hi, ho i hi h]
  · rw [List.getElem?_eq_none (by rw [List.length_set, cells_len]; exact hi), List.getElem?_eq_none (by rw [cells_len]; exact hi)]
theorem cells_ad {w : WD} {cI cZ : ClassId} {ad : Nat → Nat} {M : Mem} {k : Nat} {q : Nat × va_E} (h : (cellsOf w cI cZ ad M)[k]? = some q) : k < w.1 ∧ q.1 = ad k := by
  have hk : k < w.1 := by
    have := (List.getElem?_eq_some_iff.mp h).1
    rwa [cells_len] at this
  rw [cells_get hk] at h
  cases h
  exact ⟨hk, rfl⟩
def adOK (w : WD) (ad : Nat → Nat) (A : Nat → Prop) : Prop := (∀ i j, i < w.1 → j < w.1 → ad i = ad j → i = j) ∧ ∀ k, k < w.1 → A (ad k)
theorem adOK.D {w : WD} {cI cZ : ClassId} {ad : Nat → Nat} {A : Nat → Prop} (h : adOK w ad A) (M : Mem) : va_D A (cellsOf w cI cZ ad M) := by
  refine ⟨fun i j p q hi hj e => ?_, fun k q hk => ?_⟩
  · obtain ⟨h1, e1⟩ := cells_ad hi
    obtain ⟨h2, e2⟩ := cells_ad hj
    exact h.1 i j h1 h2 (by rw [← e1, ← e2]; exact e)
  · obtain ⟨h1, e1⟩ := cells_ad hk
    rw [e1]
    exact h.2 k h1
theorem adOK.of {w : WD} {cI cZ : ClassId} {ad : Nat → Nat} {A : Nat → Prop} {M : Mem} (h : va_D A (cellsOf w cI cZ ad M)) : adOK w ad A :=
  ⟨fun i j hi hj e => h.1 i j _ _ (cells_get hi) (cells_get hj) e, fun k hk => h.2 k _ (cells_get hk)⟩
/-- which cells a method may change -/
def fA (w : WD) (ad : Nat → Nat) (sz : Nat) : Nat → Prop := fun q => (∃ k, k < w.1 ∧ q = ad k) ∨ sz ≤ q
theorem wcell_arr {w : WD} {cI cZ : ClassId} {ad : Nat → Nat} {M : Mem} {k : Nat} (hk : k < w.2.1) : wcell w cI cZ ad M k = .inl (if w.2.2.2.1 k = true then cZ else cI, w.2.2.1 k, .inl (fun j => Int32.ofInt (M k j))) := if_pos hk
theorem wcell_obj {w : WD} {cI cZ : ClassId} {ad : Nat → Nat} {M : Mem} {k : Nat} (hk : w.2.1 ≤ k) : wcell w cI cZ ad M k = .inr (w.2.2.2.2 ad M k) := if_neg (Nat.not_lt.mpr hk)
theorem wr_at (M : Mem) (a i : Nat) (v : Int) : wr M a i v a i = v := by simp [wr]
theorem wr_row (M : Mem) {a b i : Nat} (v : Int) (h : b ≠ a) : wr M a i v b = M b := by funext j; simp [wr, h]
theorem wr_upd (M : Mem) (a i : Nat) (v : Int) : (fun j => Int32.ofInt (wr M a i v a j)) = upd (fun j => Int32.ofInt (M a j)) i (Int32.ofInt v) := by
  funext j
  simp only [wr, upd, true_and]
  split <;> rfl
/-- where a store into an array leaves the world -/
theorem cells_store {w : WD} (hw : wOK w) {cI cZ : ClassId} {ad : Nat → Nat} {M : Mem} {a i : Nat} (ha : a < w.2.1) (v : Int) {cA : ClassId} (hcA : cA = if w.2.2.2.1 a = true then cZ else cI) :
    (cellsOf w cI cZ ad M).set a (ad a, .inl (cA, w.2.2.1 a, .inl (upd (fun j => Int32.ofInt (M a j)) i (Int32.ofInt v)))) = cellsOf w cI cZ ad (wr M a i v) := by
  subst hcA
  refine cells_set (Nat.lt_of_lt_of_le ha hw.1) ?_ ?_
  · rw [wcell_arr ha, wr_upd]
  · intro k _ hne
    rcases Nat.lt_or_ge k w.2.1 with h | h
    · rw [wcell_arr h, wcell_arr h, wr_row M v hne]
    · rw [wcell_obj h, wcell_obj h]
      refine congrArg _ (hw.2.2.2 ad _ _ k fun b j hb => ?_)
      have : b ≠ a := by have := hw.2.1; omega
      simp [wr, this]
/-! the judgement: the world holds M, the frame is at pc with these locals and this stack: it comes to the end that is owed -/
def retOK (cc : ByteArray) (pc : Nat) (rt : Option FieldType) (v : Option Value) : Prop :=
  (decode cc pc = .ok (.ireturn, 1) ∧ ∃ (ty : FieldType) (x : Int32), rt = some ty ∧ v = some (.int x) ∧ narrow ty (.int x) = .int x) ∨
  (decode cc pc = .ok (.return_, 1) ∧ v = none ∧ rt = none) ∨
  (decode cc pc = .ok (.lreturn, 1) ∧ ∃ x : Int64, v = some (.long x) ∧ rt = some .long)
def Cx (w : WD) (ad : Nat → Nat) (own : String) (cc : ByteArray) (nL : Nat) (Ts : List Cond) (R : Room) (l : Launch) (rt : Option FieldType) (Post : Option Value → Mem → Prop) (G : Mem → Nat → List (Nat × Value) → List Value → Prop) : Prop :=
  ∃ (p : Program) (e : Env) (s : State) (m : MethodId) (args : Array Value) (below : List Frame) (meth : Method) (c : Code) (D : va_G) (cI cZ : ClassId) (A : Nat → Prop) (Q : State → Prop),
    p.tables.exec = Jvm.exec ∧ c.code = cc ∧ c.maxLocals = nL ∧ s.vm.findClass own = some m.cls ∧ (∀ w ∈ Ts, w.before args s = true) ∧ va_K D vwCl [(cI, .int), (cZ, .boolean)] s ∧ adOK w ad A ∧ (∀ q, s.heap.size ≤ q → A q) ∧ wOK w ∧
    (∀ (M : Mem) (v : Option Value) (H : Heap) (locs : List Loc) (ls : Array Slot) (pc : Nat), va_P D vwCl (cellsOf w cI cZ ad M) H → va_S A s.heap H locs → Post v M → retOK cc pc rt v → W p l e R s m args below meth c H locs 0 0 Q (F0 m pc ls v.toList)) ∧
    G = fun M pc lv st => ∀ (H : Heap) (locs : List Loc) (ls : Array Slot), va_P D vwCl (cellsOf w cI cZ ad M) H → va_S A s.heap H locs → lv_has ls nL lv → W p l e R s m args below meth c H locs 0 0 Q (F0 m pc ls st)
section ROWS
variable {w : WD} {ad : Nat → Nat} {own : String} {cc : ByteArray} {nL : Nat} {Ts : List Cond} {R : Room} {l : Launch} {rt : Option FieldType} {Post : Option Value → Mem → Prop} {G : Mem → Nat → List (Nat × Value) → List Value → Prop}
variable {M : Mem} {pc : Nat} {lv : List (Nat × Value)} {st : List Value}
theorem ax_iconst (cx : Cx w ad own cc nL Ts R l rt Post G) {n : Int} (d : decode cc pc = .ok (.iconst n, 1)) (k : G M (pc + 1) lv (iV n :: st)) : G M pc lv st := by
  obtain ⟨p, e, s, m, args, below, meth, c, D, cI, cZ, A, Q, hx, hb, hml, hown, hts, hK, hA, hsz, hw, hend, rfl⟩ := cx
  exact fun H locs ls hP hS hl => lv_iconst hx hb d rfl (k H locs ls hP hS hl)
theorem ax_bipush (cx : Cx w ad own cc nL Ts R l rt Post G) {n z : Int} (d : decode cc pc = .ok (.bipush n, 2)) (hz : (Int8.ofInt n).toInt32 = Int32.ofInt z) (k : G M (pc + 2) lv (iV z :: st)) : G M pc lv st := by
  obtain ⟨p, e, s, m, args, below, meth, c, D, cI, cZ, A, Q, hx, hb, hml, hown, hts, hK, hA, hsz, hw, hend, rfl⟩ := cx
  exact fun H locs ls hP hS hl => lv_bipush hx hb d hz (k H locs ls hP hS hl)
theorem ax_sipush (cx : Cx w ad own cc nL Ts R l rt Post G) {n z : Int} (d : decode cc pc = .ok (.sipush n, 3)) (hz : (Int16.ofInt n).toInt32 = Int32.ofInt z) (k : G M (pc + 3) lv (iV z :: st)) : G M pc lv st := by
  obtain ⟨p, e, s, m, args, below, meth, c, D, cI, cZ, A, Q, hx, hb, hml, hown, hts, hK, hA, hsz, hw, hend, rfl⟩ := cx
  exact fun H locs ls hP hS hl => lv_sipush hx hb d hz (k H locs ls hP hS hl)
theorem ax_ldc (cx : Cx w ad own cc nL Ts R l rt Post G) {i : Nat} {v : Int32} {z : Int} (d : decode cc pc = .ok (.ldc i, 2)) (hc : Cond.constant own i v ∈ Ts) (hz : v = Int32.ofInt z) (k : G M (pc + 2) lv (iV z :: st)) : G M pc lv st := by
  obtain ⟨p, e, s, m, args, below, meth, c, D, cI, cZ, A, Q, hx, hb, hml, hown, hts, hK, hA, hsz, hw, hend, rfl⟩ := cx
  subst hz
  exact fun H locs ls hP hS hl => lv_ldc hx hb hown (hts _ hc) d (k H locs ls hP hS hl)
theorem ax_ldc_w (cx : Cx w ad own cc nL Ts R l rt Post G) {i : Nat} {v : Int32} {z : Int} (d : decode cc pc = .ok (.ldc_w i, 3)) (hc : Cond.constant own i v ∈ Ts) (hz : v = Int32.ofInt z) (k : G M (pc + 3) lv (iV z :: st)) : G M pc lv st := by
  obtain ⟨p, e, s, m, args, below, meth, c, D, cI, cZ, A, Q, hx, hb, hml, hown, hts, hK, hA, hsz, hw, hend, rfl⟩ := cx
  subst hz
  exact fun H locs ls hP hS hl => lv_ldcw hx hb hown (hts _ hc) d (k H locs ls hP hS hl)
theorem ax_iload_n (cx : Cx w ad own cc nL Ts R l rt Post G) {q : Fin 4} {i : Nat} {x : Int} (j : Nat) (d : decode cc pc = .ok (.iload_n q, 1)) (hi : (q : Nat) = i) (hj : lv[j]? = some (i, iV x)) (k : G M (pc + 1) lv (iV x :: st)) : G M pc lv st := by
  obtain ⟨p, e, s, m, args, below, meth, c, D, cI, cZ, A, Q, hx, hb, hml, hown, hts, hK, hA, hsz, hw, hend, rfl⟩ := cx
  exact fun H locs ls hP hS hl => lv_iload_n hx hb d hi (lv_at hl j hj) (k H locs ls hP hS hl)
theorem ax_iload (cx : Cx w ad own cc nL Ts R l rt Post G) {i : Nat} {x : Int} (j : Nat) (d : decode cc pc = .ok (.iload i, 2)) (hj : lv[j]? = some (i, iV x)) (k : G M (pc + 2) lv (iV x :: st)) : G M pc lv st := by
  obtain ⟨p, e, s, m, args, below, meth, c, D, cI, cZ, A, Q, hx, hb, hml, hown, hts, hK, hA, hsz, hw, hend, rfl⟩ := cx
  exact fun H locs ls hP hS hl => lv_iload hx hb d (lv_at hl j hj) (k H locs ls hP hS hl)
theorem ax_aload_n (cx : Cx w ad own cc nL Ts R l rt Post G) {q : Fin 4} {i x : Nat} (j : Nat) (d : decode cc pc = .ok (.aload_n q, 1)) (hi : (q : Nat) = i) (hj : lv[j]? = some (i, .ref x)) (k : G M (pc + 1) lv (.ref x :: st)) : G M pc lv st := by
  obtain ⟨p, e, s, m, args, below, meth, c, D, cI, cZ, A, Q, hx, hb, hml, hown, hts, hK, hA, hsz, hw, hend, rfl⟩ := cx
  exact fun H locs ls hP hS hl => lv_aload_n hx hb d hi (lv_at hl j hj) (k H locs ls hP hS hl)
theorem ax_aload (cx : Cx w ad own cc nL Ts R l rt Post G) {i x : Nat} (j : Nat) (d : decode cc pc = .ok (.aload i, 2)) (hj : lv[j]? = some (i, .ref x)) (k : G M (pc + 2) lv (.ref x :: st)) : G M pc lv st := by
  obtain ⟨p, e, s, m, args, below, meth, c, D, cI, cZ, A, Q, hx, hb, hml, hown, hts, hK, hA, hsz, hw, hend, rfl⟩ := cx
  exact fun H locs ls hP hS hl => lv_aload hx hb d (lv_at hl j hj) (k H locs ls hP hS hl)
theorem ax_lload_n (cx : Cx w ad own cc nL Ts R l rt Post G) {q : Fin 4} {i : Nat} {x : Int64} (j : Nat) (d : decode cc pc = .ok (.lload_n q, 1)) (hi : (q : Nat) = i) (hj : lv[j]? = some (i, .long x)) (k : G M (pc + 1) lv (.long x :: st)) : G M pc lv st := by
  obtain ⟨p, e, s, m, args, below, meth, c, D, cI, cZ, A, Q, hx, hb, hml, hown, hts, hK, hA, hsz, hw, hend, rfl⟩ := cx
  exact fun H locs ls hP hS hl => lv_lload_n hx hb d hi (lv_at hl j hj) (k H locs ls hP hS hl)
theorem ax_istore_n (cx : Cx w ad own cc nL Ts R l rt Post G) {q : Fin 4} {i : Nat} {x : Int} {lv' : List (Nat × Value)} (d : decode cc pc = .ok (.istore_n q, 1)) (hi : (q : Nat) = i) (hn : i < nL) (hl' : (i, iV x) :: lv.filter (fun q => !(q.1 == i) && !(q.1 + 1 == i && q.2.category == 2)) = lv') (k : G M (pc + 1) lv' st) : G M pc lv (iV x :: st) := by
  obtain ⟨p, e, s, m, args, below, meth, c, D, cI, cZ, A, Q, hx, hb, hml, hown, hts, hK, hA, hsz, hw, hend, rfl⟩ := cx
  exact fun H locs ls hP hS hl => lv_istore_n hx hb d hi hl hn hl' (fun ls' h' => k H locs ls' hP hS h')
theorem ax_istore (cx : Cx w ad own cc nL Ts R l rt Post G) {i : Nat} {x : Int} {lv' : List (Nat × Value)} (d : decode cc pc = .ok (.istore i, 2)) (hn : i < nL) (hl' : (i, iV x) :: lv.filter (fun q => !(q.1 == i) && !(q.1 + 1 == i && q.2.category == 2)) = lv') (k : G M (pc + 2) lv' st) : G M pc lv (iV x :: st) := by
  obtain ⟨p, e, s, m, args, below, meth, c, D, cI, cZ, A, Q, hx, hb, hml, hown, hts, hK, hA, hsz, hw, hend, rfl⟩ := cx
  exact fun H locs ls hP hS hl => lv_istore hx hb d hl hn hl' (fun ls' h' => k H locs ls' hP hS h')
theorem ax_lstore_n (cx : Cx w ad own cc nL Ts R l rt Post G) {q : Fin 4} {i : Nat} {x : Int64} {lv' : List (Nat × Value)} (d : decode cc pc = .ok (.lstore_n q, 1)) (hi : (q : Nat) = i) (hn : i + 1 < nL) (hl' : (i, Value.long x) :: lv.filter (fun q => !(q.1 == i) && (!(q.1 == i + 1) && !(q.1 + 1 == i && q.2.category == 2))) = lv') (k : G M (pc + 1) lv' st) : G M pc lv (.long x :: st) := by
  obtain ⟨p, e, s, m, args, below, meth, c, D, cI, cZ, A, Q, hx, hb, hml, hown, hts, hK, hA, hsz, hw, hend, rfl⟩ := cx
  exact fun H locs ls hP hS hl => lv_lstore_n hx hb d hi hl hn hl' (fun ls' h' => k H locs ls' hP hS h')
theorem ax_iinc (cx : Cx w ad own cc nL Ts R l rt Post G) {i : Nat} {n x : Int} {lv' : List (Nat × Value)} (j : Nat) (d : decode cc pc = .ok (.iinc i n, 3)) (hj : lv[j]? = some (i, iV x)) (hn : i < nL) (hl' : (i, iV (x + n)) :: lv.filter (fun q => !(q.1 == i) && !(q.1 + 1 == i && q.2.category == 2)) = lv') (k : G M (pc + 3) lv' st) : G M pc lv st := by
  obtain ⟨p, e, s, m, args, below, meth, c, D, cI, cZ, A, Q, hx, hb, hml, hown, hts, hK, hA, hsz, hw, hend, rfl⟩ := cx
  exact fun H locs ls hP hS hl => lv_iinc hx hb d hl hj (zi_add x n) hn hl' (fun ls' h' => k H locs ls' hP hS h')
theorem ax_iadd (cx : Cx w ad own cc nL Ts R l rt Post G) {x y : Int} (d : decode cc pc = .ok (.iadd, 1)) (k : G M (pc + 1) lv (iV (x + y) :: st)) : G M pc lv (iV y :: iV x :: st) := by
  obtain ⟨p, e, s, m, args, below, meth, c, D, cI, cZ, A, Q, hx, hb, hml, hown, hts, hK, hA, hsz, hw, hend, rfl⟩ := cx
  intro H locs ls hP hS hl
  have k := k H locs ls hP hS hl
  rw [show iV (x + y) = .int (Int32.ofInt x + Int32.ofInt y) from by rw [zi_add]] at k
  exact lv_iadd hx hb d k
theorem ax_isub (cx : Cx w ad own cc nL Ts R l rt Post G) {x y : Int} (d : decode cc pc = .ok (.isub, 1)) (k : G M (pc + 1) lv (iV (x - y) :: st)) : G M pc lv (iV y :: iV x :: st) := by
  obtain ⟨p, e, s, m, args, below, meth, c, D, cI, cZ, A, Q, hx, hb, hml, hown, hts, hK, hA, hsz, hw, hend, rfl⟩ := cx
  intro H locs ls hP hS hl
  have k := k H locs ls hP hS hl
  rw [show iV (x - y) = .int (Int32.ofInt x - Int32.ofInt y) from by rw [zi_sub]] at k
  exact lv_isub hx hb d k
theorem ax_imul (cx : Cx w ad own cc nL Ts R l rt Post G) {x y : Int} (d : decode cc pc = .ok (.imul, 1)) (k : G M (pc + 1) lv (iV (x * y) :: st)) : G M pc lv (iV y :: iV x :: st) := by
  obtain ⟨p, e, s, m, args, below, meth, c, D, cI, cZ, A, Q, hx, hb, hml, hown, hts, hK, hA, hsz, hw, hend, rfl⟩ := cx
  intro H locs ls hP hS hl
  have k := k H locs ls hP hS hl
  rw [show iV (x * y) = .int (Int32.ofInt x * Int32.ofInt y) from by rw [zi_mul]] at k
  exact lv_imul hx hb d k
theorem ax_ineg (cx : Cx w ad own cc nL Ts R l rt Post G) {x : Int} (d : decode cc pc = .ok (.ineg, 1)) (k : G M (pc + 1) lv (iV (-x) :: st)) : G M pc lv (iV x :: st) := by
  obtain ⟨p, e, s, m, args, below, meth, c, D, cI, cZ, A, Q, hx, hb, hml, hown, hts, hK, hA, hsz, hw, hend, rfl⟩ := cx
  intro H locs ls hP hS hl
  have k := k H locs ls hP hS hl
  rw [show iV (-x) = .int (-Int32.ofInt x) from by rw [zi_neg]] at k
  exact lv_ineg hx hb d k
theorem ax_iand (cx : Cx w ad own cc nL Ts R l rt Post G) {x y : Int} (d : decode cc pc = .ok (.iand, 1)) (k : G M (pc + 1) lv (iV (zand x y) :: st)) : G M pc lv (iV y :: iV x :: st) := by
  obtain ⟨p, e, s, m, args, below, meth, c, D, cI, cZ, A, Q, hx, hb, hml, hown, hts, hK, hA, hsz, hw, hend, rfl⟩ := cx
  intro H locs ls hP hS hl
  have k := k H locs ls hP hS hl
  rw [show iV (zand x y) = .int (Int32.ofInt x &&& Int32.ofInt y) from by rw [iV, zand, zi_asI]] at k
  exact lv_iand hx hb d k
theorem ax_ior (cx : Cx w ad own cc nL Ts R l rt Post G) {x y : Int} (d : decode cc pc = .ok (.ior, 1)) (k : G M (pc + 1) lv (iV (zor x y) :: st)) : G M pc lv (iV y :: iV x :: st) := by
  obtain ⟨p, e, s, m, args, below, meth, c, D, cI, cZ, A, Q, hx, hb, hml, hown, hts, hK, hA, hsz, hw, hend, rfl⟩ := cx
  intro H locs ls hP hS hl
  have k := k H locs ls hP hS hl
  rw [show iV (zor x y) = .int (Int32.ofInt x ||| Int32.ofInt y) from by rw [iV, zor, zi_asI]] at k
  exact lv_ior hx hb d k
theorem ax_ixor (cx : Cx w ad own cc nL Ts R l rt Post G) {x y : Int} (d : decode cc pc = .ok (.ixor, 1)) (k : G M (pc + 1) lv (iV (zxor x y) :: st)) : G M pc lv (iV y :: iV x :: st) := by
  obtain ⟨p, e, s, m, args, below, meth, c, D, cI, cZ, A, Q, hx, hb, hml, hown, hts, hK, hA, hsz, hw, hend, rfl⟩ := cx
  intro H locs ls hP hS hl
  have k := k H locs ls hP hS hl
  rw [show iV (zxor x y) = .int (Int32.ofInt x ^^^ Int32.ofInt y) from by rw [iV, zxor, zi_asI]] at k
  exact lv_ixor hx hb d k
theorem ax_ishl (cx : Cx w ad own cc nL Ts R l rt Post G) {x y : Int} (d : decode cc pc = .ok (.ishl, 1)) (k : G M (pc + 1) lv (iV (zshl x y) :: st)) : G M pc lv (iV y :: iV x :: st) := by
  obtain ⟨p, e, s, m, args, below, meth, c, D, cI, cZ, A, Q, hx, hb, hml, hown, hts, hK, hA, hsz, hw, hend, rfl⟩ := cx
  intro H locs ls hP hS hl
  have k := k H locs ls hP hS hl
  rw [show iV (zshl x y) = .int (Int32.ofInt x <<< (Int32.ofInt y &&& 31)) from by rw [iV, zshl, zi_asI]] at k
  exact lv_ishl hx hb d k
theorem ax_ishr (cx : Cx w ad own cc nL Ts R l rt Post G) {x y : Int} (d : decode cc pc = .ok (.ishr, 1)) (k : G M (pc + 1) lv (iV (zshr x y) :: st)) : G M pc lv (iV y :: iV x :: st) := by
  obtain ⟨p, e, s, m, args, below, meth, c, D, cI, cZ, A, Q, hx, hb, hml, hown, hts, hK, hA, hsz, hw, hend, rfl⟩ := cx
  intro H locs ls hP hS hl
  have k := k H locs ls hP hS hl
  rw [show iV (zshr x y) = .int (Int32.ofInt x >>> (Int32.ofInt y &&& 31)) from by rw [iV, zshr, zi_asI]] at k
  exact lv_ishr hx hb d k
theorem ax_iushr (cx : Cx w ad own cc nL Ts R l rt Post G) {x y : Int} (d : decode cc pc = .ok (.iushr, 1)) (k : G M (pc + 1) lv (iV (zushr x y) :: st)) : G M pc lv (iV y :: iV x :: st) := by
  obtain ⟨p, e, s, m, args, below, meth, c, D, cI, cZ, A, Q, hx, hb, hml, hown, hts, hK, hA, hsz, hw, hend, rfl⟩ := cx
  intro H locs ls hP hS hl
  exact lv_iushr hx hb d (by rw [zushr, zi_asI]) (k H locs ls hP hS hl)
theorem ax_idiv (cx : Cx w ad own cc nL Ts R l rt Post G) {x y : Int} (d : decode cc pc = .ok (.idiv, 1)) (g : (0 ≤ x ∧ x < 2147483648) ∧ 0 < y ∧ y < 2147483648) (k : G M (pc + 1) lv (iV (x / y) :: st)) : G M pc lv (iV y :: iV x :: st) := by
  obtain ⟨p, e, s, m, args, below, meth, c, D, cI, cZ, A, Q, hx, hb, hml, hown, hts, hK, hA, hsz, hw, hend, rfl⟩ := cx
  intro H locs ls hP hS hl
  have k := k H locs ls hP hS hl
  rw [show iV (x / y) = .int (Int32.ofInt x / Int32.ofInt y) from by rw [iV, zi_div g.1 g.2]] at k
  exact lv_idiv hx hb d (zi_ne0 g.2) k
theorem ax_irem (cx : Cx w ad own cc nL Ts R l rt Post G) {x y : Int} (d : decode cc pc = .ok (.irem, 1)) (g : (0 ≤ x ∧ x < 2147483648) ∧ 0 < y ∧ y < 2147483648) (k : G M (pc + 1) lv (iV (x % y) :: st)) : G M pc lv (iV y :: iV x :: st) := by
  obtain ⟨p, e, s, m, args, below, meth, c, D, cI, cZ, A, Q, hx, hb, hml, hown, hts, hK, hA, hsz, hw, hend, rfl⟩ := cx
  intro H locs ls hP hS hl
  have k := k H locs ls hP hS hl
  rw [show iV (x % y) = .int (Int32.ofInt x - Int32.ofInt x / Int32.ofInt y * Int32.ofInt y) from by rw [iV, zi_rem g.1 g.2]] at k
  exact lv_irem hx hb d (zi_ne0 g.2) k
/-! longs -/
theorem ax_i2l (cx : Cx w ad own cc nL Ts R l rt Post G) {x : Int} (d : decode cc pc = .ok (.i2l, 1)) (k : G M (pc + 1) lv (.long (Int32.ofInt x).toInt64 :: st)) : G M pc lv (iV x :: st) := by
  obtain ⟨p, e, s, m, args, below, meth, c, D, cI, cZ, A, Q, hx, hb, hml, hown, hts, hK, hA, hsz, hw, hend, rfl⟩ := cx
  exact fun H locs ls hP hS hl => lv_i2l hx hb d rfl (k H locs ls hP hS hl)
theorem ax_lconst (cx : Cx w ad own cc nL Ts R l rt Post G) {n : Fin 2} {v : Int64} (d : decode cc pc = .ok (.lconst n, 1)) (hv : Int64.ofNat (n : Nat) = v) (k : G M (pc + 1) lv (.long v :: st)) : G M pc lv st := by
  obtain ⟨p, e, s, m, args, below, meth, c, D, cI, cZ, A, Q, hx, hb, hml, hown, hts, hK, hA, hsz, hw, hend, rfl⟩ := cx
  exact fun H locs ls hP hS hl => lv_lconst hx hb d hv (k H locs ls hP hS hl)
theorem ax_ldc2 (cx : Cx w ad own cc nL Ts R l rt Post G) {i : Nat} {v : Int64} (d : decode cc pc = .ok (.ldc2_w i, 3)) (hc : Cond.constantLong own i v ∈ Ts) (k : G M (pc + 3) lv (.long v :: st)) : G M pc lv st := by
  obtain ⟨p, e, s, m, args, below, meth, c, D, cI, cZ, A, Q, hx, hb, hml, hown, hts, hK, hA, hsz, hw, hend, rfl⟩ := cx
  exact fun H locs ls hP hS hl => lv_ldc2 hx hb hown (hts _ hc) d (k H locs ls hP hS hl)
theorem ax_lshl (cx : Cx w ad own cc nL Ts R l rt Post G) {x : Int64} {y : Int} (d : decode cc pc = .ok (.lshl, 1)) (k : G M (pc + 1) lv (.long (llshl x y) :: st)) : G M pc lv (iV y :: .long x :: st) := by
  obtain ⟨p, e, s, m, args, below, meth, c, D, cI, cZ, A, Q, hx, hb, hml, hown, hts, hK, hA, hsz, hw, hend, rfl⟩ := cx
  exact fun H locs ls hP hS hl => lv_lshl hx hb d rfl (k H locs ls hP hS hl)
theorem ax_lshr (cx : Cx w ad own cc nL Ts R l rt Post G) {x : Int64} {y : Int} (d : decode cc pc = .ok (.lshr, 1)) (k : G M (pc + 1) lv (.long (llshr x y) :: st)) : G M pc lv (iV y :: .long x :: st) := by
  obtain ⟨p, e, s, m, args, below, meth, c, D, cI, cZ, A, Q, hx, hb, hml, hown, hts, hK, hA, hsz, hw, hend, rfl⟩ := cx
  exact fun H locs ls hP hS hl => lv_lshr hx hb d rfl (k H locs ls hP hS hl)
theorem ax_lushr (cx : Cx w ad own cc nL Ts R l rt Post G) {x : Int64} {y : Int} (d : decode cc pc = .ok (.lushr, 1)) (k : G M (pc + 1) lv (.long (llushr x y) :: st)) : G M pc lv (iV y :: .long x :: st) := by
  obtain ⟨p, e, s, m, args, below, meth, c, D, cI, cZ, A, Q, hx, hb, hml, hown, hts, hK, hA, hsz, hw, hend, rfl⟩ := cx
  exact fun H locs ls hP hS hl => lv_lushr hx hb d rfl (k H locs ls hP hS hl)
theorem ax_land (cx : Cx w ad own cc nL Ts R l rt Post G) {x y : Int64} (d : decode cc pc = .ok (.land, 1)) (k : G M (pc + 1) lv (.long (x &&& y) :: st)) : G M pc lv (.long y :: .long x :: st) := by
  obtain ⟨p, e, s, m, args, below, meth, c, D, cI, cZ, A, Q, hx, hb, hml, hown, hts, hK, hA, hsz, hw, hend, rfl⟩ := cx
  exact fun H locs ls hP hS hl => lv_land hx hb d (k H locs ls hP hS hl)
theorem ax_lor (cx : Cx w ad own cc nL Ts R l rt Post G) {x y : Int64} (d : decode cc pc = .ok (.lor, 1)) (k : G M (pc + 1) lv (.long (x ||| y) :: st)) : G M pc lv (.long y :: .long x :: st) := by
  obtain ⟨p, e, s, m, args, below, meth, c, D, cI, cZ, A, Q, hx, hb, hml, hown, hts, hK, hA, hsz, hw, hend, rfl⟩ := cx
  exact fun H locs ls hP hS hl => lv_lor hx hb d (k H locs ls hP hS hl)
theorem ax_lxor (cx : Cx w ad own cc nL Ts R l rt Post G) {x y : Int64} (d : decode cc pc = .ok (.lxor, 1)) (k : G M (pc + 1) lv (.long (x ^^^ y) :: st)) : G M pc lv (.long y :: .long x :: st) := by
  obtain ⟨p, e, s, m, args, below, meth, c, D, cI, cZ, A, Q, hx, hb, hml, hown, hts, hK, hA, hsz, hw, hend, rfl⟩ := cx
  exact fun H locs ls hP hS hl => lv_lxor hx hb d (k H locs ls hP hS hl)
theorem ax_lcmp (cx : Cx w ad own cc nL Ts R l rt Post G) {x y : Int64} (d : decode cc pc = .ok (.lcmp, 1)) (k : G M (pc + 1) lv (iV (zlcmp x y) :: st)) : G M pc lv (.long y :: .long x :: st) := by
  obtain ⟨p, e, s, m, args, below, meth, c, D, cI, cZ, A, Q, hx, hb, hml, hown, hts, hK, hA, hsz, hw, hend, rfl⟩ := cx
  intro H locs ls hP hS hl
  have k := k H locs ls hP hS hl
  rw [show iV (zlcmp x y) = .int (lg_cmp x y) from by rw [iV, zlcmp, zi_asI]] at k
  exact W.lcmp hx hb d k
/-! the stack, and where it goes on -/
theorem ax_pop (cx : Cx w ad own cc nL Ts R l rt Post G) {v : Value} (d : decode cc pc = .ok (.pop, 1)) (hv : v.category = 1) (k : G M (pc + 1) lv st) : G M pc lv (v :: st) := by
  obtain ⟨p, e, s, m, args, below, meth, c, D, cI, cZ, A, Q, hx, hb, hml, hown, hts, hK, hA, hsz, hw, hend, rfl⟩ := cx
  exact fun H locs ls hP hS hl => lv_pop hx hb d hv (k H locs ls hP hS hl)
theorem ax_dup (cx : Cx w ad own cc nL Ts R l rt Post G) {v : Value} (d : decode cc pc = .ok (.dup, 1)) (hv : v.category = 1) (k : G M (pc + 1) lv (v :: v :: st)) : G M pc lv (v :: st) := by
  obtain ⟨p, e, s, m, args, below, meth, c, D, cI, cZ, A, Q, hx, hb, hml, hown, hts, hK, hA, hsz, hw, hend, rfl⟩ := cx
  exact fun H locs ls hP hS hl => lv_dup hx hb d hv (k H locs ls hP hS hl)
theorem ax_dup2 (cx : Cx w ad own cc nL Ts R l rt Post G) {v u : Value} (d : decode cc pc = .ok (.dup2, 1)) (hv : v.category = 1) (hu : u.category = 1) (k : G M (pc + 1) lv (v :: u :: v :: u :: st)) : G M pc lv (v :: u :: st) := by
  obtain ⟨p, e, s, m, args, below, meth, c, D, cI, cZ, A, Q, hx, hb, hml, hown, hts, hK, hA, hsz, hw, hend, rfl⟩ := cx
  exact fun H locs ls hP hS hl => lv_dup2_11 hx hb d hv hu (k H locs ls hP hS hl)
theorem ax_goto (cx : Cx w ad own cc nL Ts R l rt Post G) {off : Int} (tgt : Nat) (d : decode cc pc = .ok (.goto off, 3)) (ht : (pc : Int) + off = (tgt : Int)) (k : G M tgt lv st) : G M pc lv st := by
  obtain ⟨p, e, s, m, args, below, meth, c, D, cI, cZ, A, Q, hx, hb, hml, hown, hts, hK, hA, hsz, hw, hend, rfl⟩ := cx
  exact fun H locs ls hP hS hl => lv_goto hx hb d ht (k H locs ls hP hS hl)
theorem ax_icmp_eq (cx : Cx w ad own cc nL Ts R l rt Post G) {x y off : Int} (tgt : Nat) (d : decode cc pc = .ok (.if_icmp .eq off, 3)) (ht : (pc : Int) + off = (tgt : Int)) (gx : inR x) (gy : inR y) (kt : x = y → G M tgt lv st) (kf : ¬ (x = y) → G M (pc + 3) lv st) : G M pc lv (iV y :: iV x :: st) := by
  obtain ⟨p, e, s, m, args, below, meth, c, D, cI, cZ, A, Q, hx, hb, hml, hown, hts, hK, hA, hsz, hw, hend, rfl⟩ := cx
  intro H locs ls hP hS hl
  have hc := zi_eq gx gy
  exact lv_icmp_eq hx hb d ht (fun h => kt (hc.mp h) H locs ls hP hS hl) (fun h => kf (fun h2 => h (hc.mpr h2)) H locs ls hP hS hl)
theorem ax_icmp_ne (cx : Cx w ad own cc nL Ts R l rt Post G) {x y off : Int} (tgt : Nat) (d : decode cc pc = .ok (.if_icmp .ne off, 3)) (ht : (pc : Int) + off = (tgt : Int)) (gx : inR x) (gy : inR y) (kf : x = y → G M (pc + 3) lv st) (kt : ¬ x = y → G M tgt lv st) : G M pc lv (iV y :: iV x :: st) := by
  obtain ⟨p, e, s, m, args, below, meth, c, D, cI, cZ, A, Q, hx, hb, hml, hown, hts, hK, hA, hsz, hw, hend, rfl⟩ := cx
  intro H locs ls hP hS hl
  have hc := zi_eq gx gy
  exact lv_icmp_ne hx hb d ht (fun h => kt (fun h2 => h (hc.mpr h2)) H locs ls hP hS hl) (fun h => kf (hc.mp h) H locs ls hP hS hl)
theorem ax_icmp_lt (cx : Cx w ad own cc nL Ts R l rt Post G) {x y off : Int} (tgt : Nat) (d : decode cc pc = .ok (.if_icmp .lt off, 3)) (ht : (pc : Int) + off = (tgt : Int)) (gx : inR x) (gy : inR y) (kt : x < y → G M tgt lv st) (kf : ¬ (x < y) → G M (pc + 3) lv st) : G M pc lv (iV y :: iV x :: st) := by
  obtain ⟨p, e, s, m, args, below, meth, c, D, cI, cZ, A, Q, hx, hb, hml, hown, hts, hK, hA, hsz, hw, hend, rfl⟩ := cx
  intro H locs ls hP hS hl
  have hc := zi_lt gx gy
  exact lv_icmp_lt hx hb d ht (fun h => kt (hc.mp h) H locs ls hP hS hl) (fun h => kf (fun h2 => h (hc.mpr h2)) H locs ls hP hS hl)
theorem ax_icmp_ge (cx : Cx w ad own cc nL Ts R l rt Post G) {x y off : Int} (tgt : Nat) (d : decode cc pc = .ok (.if_icmp .ge off, 3)) (ht : (pc : Int) + off = (tgt : Int)) (gx : inR x) (gy : inR y) (kt : y ≤ x → G M tgt lv st) (kf : ¬ (y ≤ x) → G M (pc + 3) lv st) : G M pc lv (iV y :: iV x :: st) := by
  obtain ⟨p, e, s, m, args, below, meth, c, D, cI, cZ, A, Q, hx, hb, hml, hown, hts, hK, hA, hsz, hw, hend, rfl⟩ := cx
  intro H locs ls hP hS hl
  have hc := zi_le gy gx
  exact lv_icmp_ge hx hb d ht (fun h => kt (hc.mp h) H locs ls hP hS hl) (fun h => kf (fun h2 => h (hc.mpr h2)) H locs ls hP hS hl)
theorem ax_icmp_gt (cx : Cx w ad own cc nL Ts R l rt Post G) {x y off : Int} (tgt : Nat) (d : decode cc pc = .ok (.if_icmp .gt off, 3)) (ht : (pc : Int) + off = (tgt : Int)) (gx : inR x) (gy : inR y) (kt : y < x → G M tgt lv st) (kf : ¬ (y < x) → G M (pc + 3) lv st) : G M pc lv (iV y :: iV x :: st) := by
  obtain ⟨p, e, s, m, args, below, meth, c, D, cI, cZ, A, Q, hx, hb, hml, hown, hts, hK, hA, hsz, hw, hend, rfl⟩ := cx
  intro H locs ls hP hS hl
  have hc := zi_lt gy gx
  exact lv_icmp_gt hx hb d ht (fun h => kt (hc.mp h) H locs ls hP hS hl) (fun h => kf (fun h2 => h (hc.mpr h2)) H locs ls hP hS hl)
theorem ax_icmp_le (cx : Cx w ad own cc nL Ts R l rt Post G) {x y off : Int} (tgt : Nat) (d : decode cc pc = .ok (.if_icmp .le off, 3)) (ht : (pc : Int) + off = (tgt : Int)) (gx : inR x) (gy : inR y) (kt : x ≤ y → G M tgt lv st) (kf : ¬ (x ≤ y) → G M (pc + 3) lv st) : G M pc lv (iV y :: iV x :: st) := by
  obtain ⟨p, e, s, m, args, below, meth, c, D, cI, cZ, A, Q, hx, hb, hml, hown, hts, hK, hA, hsz, hw, hend, rfl⟩ := cx
  intro H locs ls hP hS hl
  have hc := zi_le gx gy
  exact lv_icmp_le hx hb d ht (fun h => kt (hc.mp h) H locs ls hP hS hl) (fun h => kf (fun h2 => h (hc.mpr h2)) H locs ls hP hS hl)
theorem ax_if_eq (cx : Cx w ad own cc nL Ts R l rt Post G) {x off : Int} (tgt : Nat) (d : decode cc pc = .ok (.ifCond .eq off, 3)) (ht : (pc : Int) + off = (tgt : Int)) (gx : inR x) (kt : x = 0 → G M tgt lv st) (kf : ¬ (x = 0) → G M (pc + 3) lv st) : G M pc lv (iV x :: st) := by
  obtain ⟨p, e, s, m, args, below, meth, c, D, cI, cZ, A, Q, hx, hb, hml, hown, hts, hK, hA, hsz, hw, hend, rfl⟩ := cx
  intro H locs ls hP hS hl
  have z0 : inR 0 := ⟨by decide, by decide⟩
  have hc := zi_eq gx z0
  exact lv_if_eq hx hb d ht (fun h => kt (hc.mp h) H locs ls hP hS hl) (fun h => kf (fun h2 => h (hc.mpr h2)) H locs ls hP hS hl)
theorem ax_if_ne (cx : Cx w ad own cc nL Ts R l rt Post G) {x off : Int} (tgt : Nat) (d : decode cc pc = .ok (.ifCond .ne off, 3)) (ht : (pc : Int) + off = (tgt : Int)) (gx : inR x) (kf : x = 0 → G M (pc + 3) lv st) (kt : ¬ x = 0 → G M tgt lv st) : G M pc lv (iV x :: st) := by
  obtain ⟨p, e, s, m, args, below, meth, c, D, cI, cZ, A, Q, hx, hb, hml, hown, hts, hK, hA, hsz, hw, hend, rfl⟩ := cx
  intro H locs ls hP hS hl
  have z0 : inR 0 := ⟨by decide, by decide⟩
  have hc := zi_eq gx z0
  exact lv_if_ne hx hb d ht (fun h => kt (fun h2 => h (hc.mpr h2)) H locs ls hP hS hl) (fun h => kf (hc.mp h) H locs ls hP hS hl)
theorem ax_if_lt (cx : Cx w ad own cc nL Ts R l rt Post G) {x off : Int} (tgt : Nat) (d : decode cc pc = .ok (.ifCond .lt off, 3)) (ht : (pc : Int) + off = (tgt : Int)) (gx : inR x) (kt : x < 0 → G M tgt lv st) (kf : ¬ (x < 0) → G M (pc + 3) lv st) : G M pc lv (iV x :: st) := by
  obtain ⟨p, e, s, m, args, below, meth, c, D, cI, cZ, A, Q, hx, hb, hml, hown, hts, hK, hA, hsz, hw, hend, rfl⟩ := cx
  intro H locs ls hP hS hl
  have z0 : inR 0 := ⟨by decide, by decide⟩
  have hc := zi_lt gx z0
  exact lv_if_lt hx hb d ht (fun h => kt (hc.mp h) H locs ls hP hS hl) (fun h => kf (fun h2 => h (hc.mpr h2)) H locs ls hP hS hl)
theorem ax_if_ge (cx : Cx w ad own cc nL Ts R l rt Post G) {x off : Int} (tgt : Nat) (d : decode cc pc = .ok (.ifCond .ge off, 3)) (ht : (pc : Int) + off = (tgt : Int)) (gx : inR x) (kt : 0 ≤ x → G M tgt lv st) (kf : ¬ (0 ≤ x) → G M (pc + 3) lv st) : G M pc lv (iV x :: st) := by
  obtain ⟨p, e, s, m, args, below, meth, c, D, cI, cZ, A, Q, hx, hb, hml, hown, hts, hK, hA, hsz, hw, hend, rfl⟩ := cx
  intro H locs ls hP hS hl
  have z0 : inR 0 := ⟨by decide, by decide⟩
  have hc := zi_le z0 gx
  exact lv_if_ge hx hb d ht (fun h => kt (hc.mp h) H locs ls hP hS hl) (fun h => kf (fun h2 => h (hc.mpr h2)) H locs ls hP hS hl)
theorem ax_if_gt (cx : Cx w ad own cc nL Ts R l rt Post G) {x off : Int} (tgt : Nat) (d : decode cc pc = .ok (.ifCond .gt off, 3)) (ht : (pc : Int) + off = (tgt : Int)) (gx : inR x) (kt : 0 < x → G M tgt lv st) (kf : ¬ (0 < x) → G M (pc + 3) lv st) : G M pc lv (iV x :: st) := by
  obtain ⟨p, e, s, m, args, below, meth, c, D, cI, cZ, A, Q, hx, hb, hml, hown, hts, hK, hA, hsz, hw, hend, rfl⟩ := cx
  intro H locs ls hP hS hl
  have z0 : inR 0 := ⟨by decide, by decide⟩
  have hc := zi_lt z0 gx
  exact lv_if_gt hx hb d ht (fun h => kt (hc.mp h) H locs ls hP hS hl) (fun h => kf (fun h2 => h (hc.mpr h2)) H locs ls hP hS hl)
theorem ax_if_le (cx : Cx w ad own cc nL Ts R l rt Post G) {x off : Int} (tgt : Nat) (d : decode cc pc = .ok (.ifCond .le off, 3)) (ht : (pc : Int) + off = (tgt : Int)) (gx : inR x) (kt : x ≤ 0 → G M tgt lv st) (kf : ¬ (x ≤ 0) → G M (pc + 3) lv st) : G M pc lv (iV x :: st) := by
  obtain ⟨p, e, s, m, args, below, meth, c, D, cI, cZ, A, Q, hx, hb, hml, hown, hts, hK, hA, hsz, hw, hend, rfl⟩ := cx
  intro H locs ls hP hS hl
  have z0 : inR 0 := ⟨by decide, by decide⟩
  have hc := zi_le gx z0
  exact lv_if_le hx hb d ht (fun h => kt (hc.mp h) H locs ls hP hS hl) (fun h => kf (fun h2 => h (hc.mpr h2)) H locs ls hP hS hl)
theorem ax_tableIn (cx : Cx w ad own cc nL Ts R l rt Post G) {dflt lo hi : Int} {offs : Array Int} {len : Nat} {x off : Int} (tgt : Nat) (d : decode cc pc = .ok (.tableswitch dflt lo hi offs, len)) (gx : inR x) (h1 : ¬ x < lo) (h2 : ¬ hi < x) (ho : offs[(x - lo).toNat]? = some off) (ht : (pc : Int) + off = (tgt : Int)) (k : G M tgt lv st) : G M pc lv (iV x :: st) := by
  obtain ⟨p, e, s, m, args, below, meth, c, D, cI, cZ, A, Q, hx, hb, hml, hown, hts, hK, hA, hsz, hw, hend, rfl⟩ := cx
  exact fun H locs ls hP hS hl => lv_tableIn hx hb d (by rw [zi_toInt gx]; exact h1) (by rw [zi_toInt gx]; exact h2) (by rw [zi_toInt gx]; exact ho) ht (k H locs ls hP hS hl)
theorem ax_tableOut (cx : Cx w ad own cc nL Ts R l rt Post G) {dflt lo hi : Int} {offs : Array Int} {len : Nat} {x : Int} (tgt : Nat) (d : decode cc pc = .ok (.tableswitch dflt lo hi offs, len)) (gx : inR x) (h : x < lo ∨ hi < x) (ht : (pc : Int) + dflt = (tgt : Int)) (k : G M tgt lv st) : G M pc lv (iV x :: st) := by
  obtain ⟨p, e, s, m, args, below, meth, c, D, cI, cZ, A, Q, hx, hb, hml, hown, hts, hK, hA, hsz, hw, hend, rfl⟩ := cx
  exact fun H locs ls hP hS hl => lv_tableOut hx hb d (by rw [zi_toInt gx]; exact h) ht (k H locs ls hP hS hl)
/-! fields and arrays -/
theorem ax_getf (cx : Cx w ad own cc nL Ts R l rt Post G) {q k ci index N : Nat} {T : u_T} {C ref : String} {fs : List Value} {v : Value} (hq : w.2.1 ≤ q ∧ q < w.1) (ho : w.2.2.2.2 ad M q = (ci, fs)) (hc : vwCl[ci]? = some (C, T, N)) (hin : ∀ x ∈ u_ws C T N, x ∈ Ts) (hk : k < N) (hlink : Cond.fieldLink own index ref (T k).2.1 (T k).2.2.1 ∈ Ts) (href : (T k).1 = ref) (hv : fs[k]? = some v) (d : decode cc pc = .ok (.getfield index, 3)) (kk : G M (pc + 3) lv (v :: st)) : G M pc lv (.ref (ad q) :: st) := by
  obtain ⟨p, e, s, m, args, below, meth, c, D, cI, cZ, A, Q, hx, hb, hml, hown, hts, hK, hA, hsz, hw, hend, rfl⟩ := cx
  subst href
  intro H locs ls hP hS hl
  exact va_get hx hb hts hin hown hK hP q (by rw [cells_get hq.2, wcell_obj hq.1, ho]) hc k hk (hts _ hlink) (fun _ h => h) hv d (kk H locs ls hP hS hl)
theorem ax_putf (cx : Cx w ad own cc nL Ts R l rt Post G) {q k ci index N f : Nat} {z : Int} {T : u_T} {C ref : String} {fs : List Value} {ty : FieldType} (hq : w.2.1 ≤ q ∧ q < w.1) (ho : w.2.2.2.2 ad M q = (ci, fs)) (hc : vwCl[ci]? = some (C, T, N)) (hin : ∀ x ∈ u_ws C T N, x ∈ Ts) (ty0 : Nat → FieldType) (hty : ∀ k, k < N → parseFieldDescriptor (T k).2.2.1 = some (ty0 k)) (hnm : ∀ a, a < N → ∀ b, b < N → a ≠ b → (T a).2.1 ≠ (T b).2.1) (hk : k < N) (hlink : Cond.fieldLink own index ref (T k).2.1 (T k).2.2.1 ∈ Ts) (href : (T k).1 = ref) (hfin : (T k).2.2.2 = false) (hd : parseFieldDescriptor (T k).2.2.1 = some ty) (hn : narrow ty (iV z) = iV z) (hfit : fits ty (iV z) = true) (hl9 : k < fs.length) (hf : 100 ≤ f)
    (ho1 : w.2.2.2.2 ad (wr M f 0 z) q = (ci, fs.set k (iV z))) (ho2 : ∀ j, w.2.1 ≤ j → j < w.1 → j ≠ q → w.2.2.2.2 ad (wr M f 0 z) j = w.2.2.2.2 ad M j) (d : decode cc pc = .ok (.putfield index, 3)) (kk : G (wr M f 0 z) (pc + 3) lv st) : G M pc lv (iV z :: .ref (ad q) :: st) := by
  obtain ⟨p, e, s, m, args, below, meth, c, D, cI, cZ, A, Q, hx, hb, hml, hown, hts, hK, hA, hsz, hw, hend, rfl⟩ := cx
  subst href
  intro H locs ls hP hS hl
  refine va_put hx hb hts hin ty0 hty hnm hown hK hP (hA.D M) hS q (by rw [cells_get hq.2, wcell_obj hq.1, ho]) hc k hk (hts _ hlink) (fun _ h => h) hfin hd hn hfit hl9 d (fun H1 locs1 hP1 _ hS1 => kk H1 locs1 ls ?_ hS1 hl)
  rw [cells_set (M' := wr M f 0 z) hq.2 (by rw [wcell_obj hq.1, ho1]) (fun j hj hne => ?_)] at hP1
  · exact hP1
  · rcases Nat.lt_or_ge j w.2.1 with h | h
    · rw [wcell_arr h, wcell_arr h, wr_row]
      have := hw.2.1
      omega
    · rw [wcell_obj h, wcell_obj h, ho2 j h hj hne]
theorem ax_iald (cx : Cx w ad own cc nL Ts R l rt Post G) {a n : Nat} {z : Int} (ha : a < w.2.1) (hz : w.2.2.2.1 a = false) (hn : w.2.2.1 a = n) (hin : inB z n) (d : decode cc pc = .ok (.iaload, 1)) (k : G M (pc + 1) lv (iV (M a z.toNat) :: st)) : G M pc lv (iV z :: .ref (ad a) :: st) := by
  obtain ⟨p, e, s, m, args, below, meth, c, D, cI, cZ, A, Q, hx, hb, hml, hown, hts, hK, hA, hsz, hw, hend, rfl⟩ := cx
  subst hn
  intro H locs ls hP hS hl
  have hlt := hw.2.2.1 a
  have k := k H locs ls hP hS hl
  refine va_iald hx hb hK hP a 0 (cA := cI) (n := w.2.2.1 a) (f := fun j => Int32.ofInt (M a j)) (by rw [cells_get (Nat.lt_of_lt_of_le ha hw.1), wcell_arr ha, hz]; rfl) rfl (zi_in hin hlt) d ?_
  rw [zi_cl hin.1 (by have := hin.2; omega)]
  exact k
theorem ax_zald (cx : Cx w ad own cc nL Ts R l rt Post G) {a n : Nat} {z : Int} (ha : a < w.2.1) (hz : w.2.2.2.1 a = true) (hn : w.2.2.1 a = n) (hin : inB z n) (d : decode cc pc = .ok (.baload, 1)) (k : G M (pc + 1) lv (iV (M a z.toNat) :: st)) : G M pc lv (iV z :: .ref (ad a) :: st) := by
  obtain ⟨p, e, s, m, args, below, meth, c, D, cI, cZ, A, Q, hx, hb, hml, hown, hts, hK, hA, hsz, hw, hend, rfl⟩ := cx
  subst hn
  intro H locs ls hP hS hl
  have hlt := hw.2.2.1 a
  have k := k H locs ls hP hS hl
  refine va_zald hx hb hK hP a 1 (cA := cZ) (n := w.2.2.1 a) (f := fun j => Int32.ofInt (M a j)) (by rw [cells_get (Nat.lt_of_lt_of_le ha hw.1), wcell_arr ha, hz]; rfl) rfl (zi_in hin hlt) d ?_
  rw [zi_cl hin.1 (by have := hin.2; omega)]
  exact k
theorem ax_iast (cx : Cx w ad own cc nL Ts R l rt Post G) {a n : Nat} {z v : Int} (ha : a < w.2.1) (hz : w.2.2.2.1 a = false) (hn : w.2.2.1 a = n) (hin : inB z n) (d : decode cc pc = .ok (.iastore, 1)) (k : G (wr M a z.toNat v) (pc + 1) lv st) : G M pc lv (iV v :: iV z :: .ref (ad a) :: st) := by
  obtain ⟨p, e, s, m, args, below, meth, c, D, cI, cZ, A, Q, hx, hb, hml, hown, hts, hK, hA, hsz, hw, hend, rfl⟩ := cx
  subst hn
  intro H locs ls hP hS hl
  have hlt := hw.2.2.1 a
  refine va_iast hx hb hK hP (hA.D M) hS a 0 (cA := cI) (n := w.2.2.1 a) (f := fun j => Int32.ofInt (M a j)) (by rw [cells_get (Nat.lt_of_lt_of_le ha hw.1), wcell_arr ha, hz]; rfl) rfl (zi_in hin hlt) d (fun H1 locs1 hP1 _ hS1 => k H1 locs1 ls ?_ hS1 hl)
  rw [zi_cl hin.1 (by have := hin.2; omega), cells_store hw ha v (by rw [hz]; rfl)] at hP1
  exact hP1
theorem ax_zast (cx : Cx w ad own cc nL Ts R l rt Post G) {a n : Nat} {z v : Int} (ha : a < w.2.1) (hz : w.2.2.2.1 a = true) (hn : w.2.2.1 a = n) (hin : inB z n) (hv : v = 0 ∨ v = 1) (d : decode cc pc = .ok (.bastore, 1)) (k : G (wr M a z.toNat v) (pc + 1) lv st) : G M pc lv (iV v :: iV z :: .ref (ad a) :: st) := by
  obtain ⟨p, e, s, m, args, below, meth, c, D, cI, cZ, A, Q, hx, hb, hml, hown, hts, hK, hA, hsz, hw, hend, rfl⟩ := cx
  subst hn
  intro H locs ls hP hS hl
  have hlt := hw.2.2.1 a
  refine va_zast hx hb hK hP (hA.D M) hS a 1 (cA := cZ) (n := w.2.2.1 a) (f := fun j => Int32.ofInt (M a j)) (by rw [cells_get (Nat.lt_of_lt_of_le ha hw.1), wcell_arr ha, hz]; rfl) rfl (zi_in hin hlt) d (fun H1 locs1 hP1 _ hS1 => k H1 locs1 ls ?_ hS1 hl)
  have e : vp_nar .boolean (Int32.ofInt v) = Int32.ofInt v := by rcases hv with rfl | rfl <;> rfl
  rw [e, zi_cl hin.1 (by have := hin.2; omega), cells_store hw ha v (by rw [hz]; rfl)] at hP1
  exact hP1
theorem ax_min (cx : Cx w ad own cc nL Ts R l rt Post G) {index : Nat} {x y : Int} (gx : inR x) (gy : inR y) (hl9 : Cond.methodLink own index Lib.Math.min.name ∈ Ts) (h2 : Cond.static Lib.Math.min.name ∈ Ts) (h3 : Cond.initialized "java/lang/Math" ∈ Ts) (h4 : Cond.code Lib.Math.min.name Lib.Math.min.code 2 (some .int) ∈ Ts) (hfr : 1 ≤ R.frames) (hlo : (st.map fun v => v.category).sum + 13 ≤ R.locals) (d : decode cc pc = .ok (.invokestatic index, 3)) (k : G M (pc + 3) lv (iV (if y < x then y else x) :: st)) : G M pc lv (iV y :: iV x :: st) := by
  obtain ⟨p, e, s, m, args, below, meth, c, D, cI, cZ, A, Q, hx, hb, hml, hown, hts, hK, hA, hsz, hw, hend, rfl⟩ := cx
  intro H locs ls hP hS hl
  have k := k H locs ls hP hS hl
  refine va_mmin hx hb (hml.trans hl.1.symm) hown (hts _ hl9) (hts _ h2) (hts _ h3) (hts _ h4) hfr hlo (Nat.zero_le _) (Nat.zero_le _) d ?_
  by_cases hc : y < x
  · rw [if_pos hc] at k
    rw [if_pos ((zi_lt gy gx).mpr hc)]
    exact k
  · rw [if_neg hc] at k
    rw [if_neg (fun h => hc ((zi_lt gy gx).mp h))]
    exact k
theorem ax_max (cx : Cx w ad own cc nL Ts R l rt Post G) {index : Nat} {x y : Int} (gx : inR x) (gy : inR y) (hl9 : Cond.methodLink own index Lib.Math.max.name ∈ Ts) (h2 : Cond.static Lib.Math.max.name ∈ Ts) (h3 : Cond.initialized "java/lang/Math" ∈ Ts) (h4 : Cond.code Lib.Math.max.name Lib.Math.max.code 2 (some .int) ∈ Ts) (hfr : 1 ≤ R.frames) (hlo : (st.map fun v => v.category).sum + 13 ≤ R.locals) (d : decode cc pc = .ok (.invokestatic index, 3)) (k : G M (pc + 3) lv (iV (if x < y then y else x) :: st)) : G M pc lv (iV y :: iV x :: st) := by
  obtain ⟨p, e, s, m, args, below, meth, c, D, cI, cZ, A, Q, hx, hb, hml, hown, hts, hK, hA, hsz, hw, hend, rfl⟩ := cx
  intro H locs ls hP hS hl
  have k := k H locs ls hP hS hl
  refine va_mmax hx hb (hml.trans hl.1.symm) hown (hts _ hl9) (hts _ h2) (hts _ h3) (hts _ h4) hfr hlo (Nat.zero_le _) (Nat.zero_le _) d ?_
  by_cases hc : x < y
  · rw [if_pos hc] at k
    rw [if_pos ((zi_lt gx gy).mpr hc)]
    exact k
  · rw [if_neg hc] at k
    rw [if_neg (fun h => hc ((zi_lt gx gy).mp h))]
    exact k
def cpA (M : Mem) (a b n : Nat) : Mem := fun c j => if c = b ∧ j < n then M a j else M c j
theorem ax_copy (cx : Cx w ad own cc nL Ts R l rt Post G) {index a b n : Nat} (ha : a < w.2.1) (hb9 : b < w.2.1) (hza : w.2.2.2.1 a = false) (hzb : w.2.2.2.1 b = false) (hna : w.2.2.1 a = n) (hnb : w.2.2.1 b = n) (hl9 : Cond.methodLink own index arraycopyName ∈ Ts) (h1 : Cond.native arraycopyName ∈ Ts) (h2 : Cond.static arraycopyName ∈ Ts) (h3 : Cond.initialized "java/lang/System" ∈ Ts) (hfr : 1 ≤ R.frames) (hlo : (st.map fun v => v.category).sum + (nativeFrameWords "java/lang/System" "arraycopy" 5 + 11) ≤ R.locals) (d : decode cc pc = .ok (.invokestatic index, 3)) (k : G (cpA M a b n) (pc + 3) lv st) : G M pc lv (iV (n : Int) :: iV 0 :: .ref (ad b) :: iV 0 :: .ref (ad a) :: st) := by
  obtain ⟨p, e, s, m, args, below, meth, c, D, cI, cZ, A, Q, hx, hb, hml, hown, hts, hK, hA, hsz, hw, hend, rfl⟩ := cx
  intro H locs ls hP hS hl
  have hlt : n < 2147483648 := hna ▸ hw.2.2.1 a
  have hn : (Int32.ofInt (n : Int)).toNatClampNeg = n := by rw [zi_cl (by omega) (by omega)]; omega
  have h0 : (Int32.ofInt 0).toNatClampNeg = 0 := rfl
  refine va_copyi hx hb (hml.trans hl.1.symm) hown (hts _ hl9) (hts _ h1) (hts _ h2) (hts _ h3) hK hP (hA.D M) hS a b 0 0 (c0 := cI) (c1 := cI) (n0 := n) (n1 := n) (f := fun j => Int32.ofInt (M a j)) (g := fun j => Int32.ofInt (M b j)) (ty := .int) (by rw [cells_get (Nat.lt_of_lt_of_le ha hw.1), wcell_arr ha, hza, hna]; rfl) (by rw [cells_get (Nat.lt_of_lt_of_le hb9 hw.1), wcell_arr hb9, hzb, hnb]; rfl) rfl rfl rfl (by decide) (by decide) (fun h => ?_) (by rw [h0, hn]; omega) (by rw [h0, hn]; omega) (fun _ _ => rfl) hfr hlo d (fun H1 locs1 hP1 _ hS1 => k H1 locs1 ls ?_ hS1 hl)
  · rw [Int32.lt_iff_toInt_lt, zi_toInt ⟨by omega, by omega⟩] at h
    have : (0 : Int32).toInt = 0 := rfl
    omega
  · rw [h0, hn] at hP1
    rw [← hnb] at hP1
    rw [cells_set (w := w) (cI := cI) (cZ := cZ) (ad := ad) (M := M) (M' := cpA M a b n) (q := b) (Nat.lt_of_lt_of_le hb9 hw.1) (by rw [wcell_arr hb9, hzb]; refine congrArg _ (congrArg (Prod.mk _) (congrArg (Prod.mk _) (congrArg _ ?_))); funext j; simp only [cpA, va_cpy, true_and, Nat.zero_le, Nat.zero_add, Nat.sub_zero, hnb]; split <;> rfl) (fun j hj hne => ?_)] at hP1
    · exact hP1
    · rcases Nat.lt_or_ge j w.2.1 with h | h
      · rw [wcell_arr h, wcell_arr h]
        have e : cpA M a b n j = M j := by funext i; simp [cpA, hne]
        rw [e]
      · rw [wcell_obj h, wcell_obj h]
        refine congrArg _ (hw.2.2.2 ad _ _ j fun c i hc => ?_)
        have : c ≠ b := by have := hw.2.1; omega
        simp [cpA, this]
/-! ends -/
theorem ax_iret (cx : Cx w ad own cc nL Ts R l rt Post G) {z : Int} (d : decode cc pc = .ok (.ireturn, 1)) (hr : rt = some .int) (hp : Post (some (iV z)) M) : G M pc lv [iV z] := by
  obtain ⟨p, e, s, m, args, below, meth, c, D, cI, cZ, A, Q, hx, hb, hml, hown, hts, hK, hA, hsz, hw, hend, rfl⟩ := cx
  exact fun H locs ls hP hS hl => hend M (some (iV z)) H locs ls pc hP hS hp (Or.inl ⟨d, .int, _, hr, rfl, rfl⟩)
theorem ax_zret (cx : Cx w ad own cc nL Ts R l rt Post G) {z : Int} (d : decode cc pc = .ok (.ireturn, 1)) (hr : rt = some .boolean) (hz : z = 0 ∨ z = 1) (hp : Post (some (iV z)) M) : G M pc lv [iV z] := by
  obtain ⟨p, e, s, m, args, below, meth, c, D, cI, cZ, A, Q, hx, hb, hml, hown, hts, hK, hA, hsz, hw, hend, rfl⟩ := cx
  exact fun H locs ls hP hS hl => hend M (some (iV z)) H locs ls pc hP hS hp (Or.inl ⟨d, .boolean, _, hr, rfl, by rcases hz with rfl | rfl <;> rfl⟩)
theorem ax_vret (cx : Cx w ad own cc nL Ts R l rt Post G) (d : decode cc pc = .ok (.return_, 1)) (hr : rt = none) (hp : Post none M) : G M pc lv [] := by
  obtain ⟨p, e, s, m, args, below, meth, c, D, cI, cZ, A, Q, hx, hb, hml, hown, hts, hK, hA, hsz, hw, hend, rfl⟩ := cx
  exact fun H locs ls hP hS hl => hend M none H locs ls pc hP hS hp (Or.inr (Or.inl ⟨d, rfl, hr⟩))
theorem ax_lret (cx : Cx w ad own cc nL Ts R l rt Post G) {x : Int64} (d : decode cc pc = .ok (.lreturn, 1)) (hr : rt = some .long) (hp : Post (some (.long x)) M) : G M pc lv [.long x] := by
  obtain ⟨p, e, s, m, args, below, meth, c, D, cI, cZ, A, Q, hx, hb, hml, hown, hts, hK, hA, hsz, hw, hend, rfl⟩ := cx
  exact fun H locs ls hP hS hl => hend M (some (.long x)) H locs ls pc hP hS hp (Or.inr (Or.inr ⟨d, x, rfl, hr⟩))
theorem ax_lv (cx : Cx w ad own cc nL Ts R l rt Post G) {lv' : List (Nat × Value)} (is : List Nat) (hl' : lv_pick lv is = lv') (k : G M pc lv' st) : G M pc lv st := by
  obtain ⟨p, e, s, m, args, below, meth, c, D, cI, cZ, A, Q, hx, hb, hml, hown, hts, hK, hA, hsz, hw, hend, rfl⟩ := cx
  exact fun H locs ls hP hS hl => k H locs ls hP hS (lv_sub hl is hl')
end ROWS
/-! a method's contract: from the memory M with these arguments it returns v, and the memory is M' -/
def qX (v : Option Value) (M' : Mem) (B : Mem → State → Prop) (A : Nat → Prop) : Array Value → State → Outcome → State → Prop := fun _ st oc t => (oc = .returned v ∧ B M' t) ∧ va_F A st t
def MX (l : Launch) (y : MethodName) (ws : List Cond) (rm : Room) (w : WD) (ad : Nat → Nat) (As : List Value) (M : Mem) (v : Option Value) (M' : Mem) : Prop :=
  ∀ (D : va_G) (cI cZ : ClassId) (sz : Nat), Met l y ws rm (va_Pc As (fun U => U.heap.size = sz ∧ va_P D vwCl (cellsOf w cI cZ ad M) U.heap ∧ va_K D vwCl [(cI, .int), (cZ, .boolean)] U ∧ va_D (fun _ => True) (cellsOf w cI cZ ad M))) (qX v M' (fun M2 t => va_P D vwCl (cellsOf w cI cZ ad M2) t.heap) (fA w ad sz)) 0 0 (fA w ad sz)
theorem MX.of {l : Launch} {y : MethodName} {ws ws' : List Cond} {rm : Room} {w : WD} {ad : Nat → Nat} {As : List Value} {M M' : Mem} {v : Option Value} {own : String} {cc : ByteArray} {nL : Nat} {rt : Option FieldType} (hy : plainName y.cls = true) (hw : ws = Cond.code y cc nL rt :: ws') (hown : y.cls = own) (hn : (lg_sl As).length ≤ nL) (hwok : wOK w)
    (body : ∀ G, Cx w ad own cc nL ws rm l rt (fun v2 M2 => v2 = v ∧ M2 = M') G → G M 0 (lv_args 0 As) []) : MX l y ws rm w ad As M v M' := by
  intro D cI cZ sz
  refine Met.ofW (cc := cc) (maxL := nL) (ret := rt) hy hw ?_
  intro p e s m args below meth c s₁ B hml hv
  obtain ⟨rfl, hsz, hP, hK, hD0⟩ := hv
  subst hsz
  have had := adOK.of hD0
  rw [lg_entry_eq]
  refine body _ ⟨p, e, s, m, As.toArray, below, meth, c, D, cI, cZ, fA w ad s.heap.size, MQ below (qX v M' (fun M2 t => va_P D vwCl (cellsOf w cI cZ ad M2) t.heap) (fA w ad s.heap.size)) As.toArray s 0 0 (fA w ad s.heap.size), B.exec, B.bytes, hml, by rw [← hown]; exact findClass_of_methodNamed B.named, atoms_spec (ws := ws) B.pre, hK, ⟨had.1, fun k hk => Or.inl ⟨k, hk, rfl⟩⟩, fun q h => Or.inr h, hwok, ?_, rfl⟩ s.heap [] _ hP va_S.rf (lv_entry As hn)
  intro M2 v2 H locs ls pc hP2 hS hp hret
  obtain ⟨rfl, rfl⟩ := hp
  have hr := B.returns
  have hlocks := B.notSynchronized
  rcases hret with ⟨d, ty, x, h1, rfl, h3⟩ | ⟨d, rfl, h2⟩ | ⟨d, x, rfl, h2⟩
  · exact W.zret (ty := ty) B.exec B.bytes (hr.trans h1) h3 (fun t ht hW => ⟨⟨rfl, by show va_P _ _ _ t.heap; rw [ht]; exact hP2⟩, hS.F ht⟩) hS.2.2 d
  · exact W.vret B.exec B.bytes (hr.trans h2) (fun t ht hW => ⟨⟨rfl, by show va_P _ _ _ t.heap; rw [ht]; exact hP2⟩, hS.F ht⟩) hS.2.2 d
  · exact W.lret B.exec B.bytes (hr.trans h2) (fun t ht hW => ⟨⟨rfl, by show va_P _ _ _ t.heap; rw [ht]; exact hP2⟩, hS.F ht⟩) hS.2.2 d
section CALLS
variable {w : WD} {ad : Nat → Nat} {own : String} {cc : ByteArray} {nL : Nat} {Ts : List Cond} {R : Room} {l : Launch} {rt : Option FieldType} {Post : Option Value → Mem → Prop} {G : Mem → Nat → List (Nat × Value) → List Value → Prop}
theorem fA_le {w : WD} {ad : Nat → Nat} {A : Nat → Prop} {s H : Nat} (hA : adOK w ad A) (h : ∀ q, s ≤ q → A q) (hs : s ≤ H) : ∀ q, fA w ad H q → A q := fun q hq => by
  rcases hq with ⟨k, hk, rfl⟩ | hq
  · exact hA.2 k hk
  · exact h q (Nat.le_trans hs hq)
theorem ax_call {p : Program} {e : Env} {s : State} {m : MethodId} {args : Array Value} {below : List Frame} {meth : Method} {c : Code} {D : va_G} {cI cZ : ClassId} {A : Nat → Prop} {Q : State → Prop} {H : Heap} {locs : List Loc} {pc : Nat} {ls : Array Slot} {stk st : List Value} {M' : Mem} {v : Option Value} {Qa : Array Value} (hA : adOK w ad A) (hsz : ∀ q, s.heap.size ≤ q → A q) (hS : va_S A s.heap H locs)
    (hr : va_Run p l e R s m args below meth c H locs 0 0 0 0 (F0 m pc ls stk) st (qX v M' (fun M2 t => va_P D vwCl (cellsOf w cI cZ ad M2) t.heap) (fA w ad H.size) Qa) (fA w ad H.size))
    (k : ∀ (H1 : Heap) (locs1 : List Loc), va_P D vwCl (cellsOf w cI cZ ad M') H1 → va_S A s.heap H1 locs1 → W p l e R s m args below meth c H1 locs1 0 0 Q (F0 m (pc + 3) ls (v.toList ++ st))) : W p l e R s m args below meth c H locs 0 0 Q (F0 m pc ls stk) := by
  have hf := fA_le hA hsz hS.1
  intro T hT X
  obtain ⟨v1, st₀, t, T', L, h0, X', hL, e1, e2, ⟨⟨hv, hb⟩, hz, hk⟩, g⟩ := hr T hT X
  cases hv
  have hS1 : va_S A s.heap T'.heap (locs ++ L) := by
    refine ⟨Nat.le_trans hS.1 (by rw [e1, ← h0]; exact hz), fun q h1 h2 => ?_, fun z hz => ?_⟩
    · have h3 : ¬ fA w ad H.size q := fun h => h2 (hf q h)
      rw [e1, hk q (by rw [h0]; exact Nat.lt_of_lt_of_le h1 hS.1) h3, h0]
      exact hS.2.1 q h1 h2
    · rcases List.mem_append.mp hz with h | h
      · exact hS.2.2 z h
      · exact hf _ (hL z h)
  obtain ⟨t2, a1, b1⟩ := k T'.heap (locs ++ L) (by rw [e1]; exact hb) hS1 T' rfl X'
  exact ⟨t2, g t2 a1, b1⟩
variable {M : Mem} {pc : Nat} {lv : List (Nat × Value)} {st : List Value}
theorem mx_blind {w : WD} {ad : Nat → Nat} {D : va_G} {cI cZ : ClassId} {sz : Nat} {As : List Value} {M : Mem} : FrameBlind (va_Pc As (fun U => U.heap.size = sz ∧ va_P D vwCl (cellsOf w cI cZ ad M) U.heap ∧ va_K D vwCl [(cI, .int), (cZ, .boolean)] U ∧ va_D (fun _ => True) (cellsOf w cI cZ ad M))) := by
  intro a U g mk h
  obtain ⟨h1, h2, h3, h4, h5⟩ := h
  exact ⟨h1, h2, h3, va_K.moved (u := U) (U := U.calling g mk a) (Vm.Alike.refl U.vm) h4, h5⟩
theorem ax_callV (cx : Cx w ad own cc nL Ts R l rt Post G) {y : MethodName} {ws ws' : List Cond} {rm : Room} {As : List Value} {M' : Mem} {v : Option Value} {q ci index n maxL N : Nat} {C : String} {T : u_T} {fs : List Value} {bytes : ByteArray} {ret : Option FieldType} {stk : List Value} (hM : MX l y ws rm w ad (.ref (ad q) :: As) M v M') (hT : GoodIn Ts (wsV own index C y ws)) (hw9 : ws = Cond.code y bytes maxL ret :: ws') (hq : w.2.1 ≤ q ∧ q < w.1) (ho : w.2.2.2.2 ad M q = (ci, fs)) (hc : vwCl[ci]? = some (C, T, N)) (hrc : rm.cells = 0 ∧ rm.slots = 0)
    (hd : y.cls = C ∧ y.cls ≠ "java/lang/invoke/MethodHandle" ∧ y.cls ≠ "java/lang/invoke/VarHandle" ∧ (parseMethodDescriptor y.desc).map (fun d => d.parameters.length) = some n) (hn : As.length = n) (hR : rm.frames + 1 ≤ R.frames ∧ 8 + (maxL + 11) + rm.locals ≤ R.locals) (hst : stk = As.reverse ++ .ref (ad q) :: st) (hcat : (st.map fun v => v.category).sum ≤ 8) (d : decode cc pc = .ok (.invokevirtual index, 3)) (k : G M' (pc + 3) lv (v.toList ++ st)) : G M pc lv stk := by
  obtain ⟨p, e, s, m, args, below, meth, c, D, cI, cZ, A, Q, hx, hb, hml, hown, hts, hK, hA, hsz, hw, hend, rfl⟩ := cx
  intro H locs ls hP hS hl
  have hcw := cwV (R := R) (s := s) (args := args) (own := own) (C := C) (index := index) (bytes := bytes) (maxL := maxL) (ret := ret) (rm := rm) (mc := 0) (ms := 0) n hts hT hw9 hrc.1 hrc.2 hd hR
  refine ax_call hA hsz hS (va_runV (As := As) (rest := st) (b := ad q) ⟨hx, hb, hml, hown, hts⟩ (hM D cI cZ H.size) hcw ⟨mx_blind, va_recv hK hP hc (q0 := q) (by rw [cells_get hq.2, wcell_obj hq.1, ho]), fun U hU hW => ⟨rfl, by rw [hU], by rw [hU]; exact hP, va_K.moved hW.alike hK, (hA.D M).weaken (fun _ _ _ _ => trivial)⟩⟩ rfl hn hl.1 hst (lv_room hcat) d ⟨Nat.zero_le _, Nat.zero_le _⟩) (fun H1 locs1 hP1 hS1 => k H1 locs1 ls hP1 hS1 hl)
theorem ax_callS (cx : Cx w ad own cc nL Ts R l rt Post G) {y : MethodName} {ws ws' : List Cond} {rm : Room} {As : List Value} {M' : Mem} {v : Option Value} {index n maxL : Nat} {bytes : ByteArray} {ret : Option FieldType} {stk : List Value} (hM : MX l y ws rm w ad As M v M') (hT : GoodIn Ts (va_wsS own index y ws)) (hw9 : ws = Cond.code y bytes maxL ret :: ws') (hrc : rm.cells = 0 ∧ rm.slots = 0)
    (hd : y.cls ≠ "java/lang/invoke/MethodHandle" ∧ y.cls ≠ "java/lang/invoke/VarHandle" ∧ (parseMethodDescriptor y.desc).map (fun d => d.parameters.length) = some n) (hn : As.length = n) (hR : rm.frames + 1 ≤ R.frames ∧ 8 + (maxL + 11) + rm.locals ≤ R.locals) (hst : stk = As.reverse ++ st) (hcat : (st.map fun v => v.category).sum ≤ 8) (d : decode cc pc = .ok (.invokestatic index, 3)) (k : G M' (pc + 3) lv (v.toList ++ st)) : G M pc lv stk := by
  obtain ⟨p, e, s, m, args, below, meth, c, D, cI, cZ, A, Q, hx, hb, hml, hown, hts, hK, hA, hsz, hw, hend, rfl⟩ := cx
  intro H locs ls hP hS hl
  have hcw := va_cwS (R := R) (s := s) (args := args) (own := own) (index := index) (bytes := bytes) (maxL := maxL) (ret := ret) (rm := rm) (mc := 0) (ms := 0) n hts hT hw9 hrc.1 hrc.2 hd hR
  refine ax_call hA hsz hS (va_runS (As := As) (rest := st) ⟨hx, hb, hml, hown, hts⟩ (hM D cI cZ H.size) hcw ⟨mx_blind, fun U hU hW => ⟨rfl, by rw [hU], by rw [hU]; exact hP, va_K.moved hW.alike hK, (hA.D M).weaken (fun _ _ _ _ => trivial)⟩⟩ rfl hn hl.1 hst (lv_room hcat) d ⟨Nat.zero_le _, Nat.zero_le _⟩) (fun H1 locs1 hP1 hS1 => k H1 locs1 ls hP1 hS1 hl)
end CALLS
