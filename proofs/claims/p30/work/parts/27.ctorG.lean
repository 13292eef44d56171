theorem hi_X2_init_X2 : ∀ x ∈ u_ws RX2 TX2 7, x ∈ wsX2_init := by decide +kernel
abbrev wdG (h0 : Nat) (q : Nat → Nat) (c1 : ClassId) (M : Mem) : va_W := [(h0, .inr (2, [.ref (q 0), .ref (q 1), .ref (q 2), .ref (q 3), .ref (q 4), .int 1, .int 1])), (q 0, .inl (c1, 60, .inl (fun k => Int32.ofInt (M 0 k)))), (q 1, .inl (c1, 60, .inl (fun k => Int32.ofInt (M 1 k)))), (q 2, .inl (c1, 144, .inl (fun k => Int32.ofInt (M 2 k)))), (q 3, .inl (c1, 60, .inl (fun k => Int32.ofInt (M 3 k)))), (q 4, .inl (c1, 60, .inl (fun k => Int32.ofInt (M 4 k))))]
def gA : Nat → Int → Mem → Mem
  | 0, _, M => M
  | n + 1, i, M => gA n (i + 1) (wr M 2 i.toNat (-1))
def gLow (i : Int) : Int := if i < 30 then i / 5 * 6 + i % 5 else i - 30
def gHigh (i : Int) : Int := if i < 30 then gLow i + 1 else gLow i + 6
def gS (i : Int) (M : Mem) : Mem := wr (wr (wr (wr (wr M 0 i.toNat (gLow i)) 1 i.toNat (gHigh i)) 2 (gLow i * 4 + (if i < 30 then 0 else 1)).toNat i) 2 (gHigh i * 4 + (if i < 30 then 2 else 3)).toNat i) 4 i.toNat 1
def gB : Nat → Int → Mem → Mem
  | 0, _, M => M
  | n + 1, i, M => gB n (i + 1) (gS i M)
def gM0 : Mem := fun _ _ => 0
def gM1 : Mem := gA 144 0 gM0
def gM2 : Mem := gB 60 0 gM1
theorem wdG_st0 (h0 : Nat) (q : Nat → Nat) (c1 : ClassId) (M : Mem) (i : Nat) (v : Int) : (wdG h0 q c1 M).set 1 (q 0, .inl (c1, 60, .inl (upd (fun k => Int32.ofInt (M 0 k)) i (Int32.ofInt v)))) = wdG h0 q c1 (wr M 0 i v) := by
  rw [← wr_upd]; rfl
theorem wdG_st1 (h0 : Nat) (q : Nat → Nat) (c1 : ClassId) (M : Mem) (i : Nat) (v : Int) : (wdG h0 q c1 M).set 2 (q 1, .inl (c1, 60, .inl (upd (fun k => Int32.ofInt (M 1 k)) i (Int32.ofInt v)))) = wdG h0 q c1 (wr M 1 i v) := by
  rw [← wr_upd]; rfl
theorem wdG_st2 (h0 : Nat) (q : Nat → Nat) (c1 : ClassId) (M : Mem) (i : Nat) (v : Int) : (wdG h0 q c1 M).set 3 (q 2, .inl (c1, 144, .inl (upd (fun k => Int32.ofInt (M 2 k)) i (Int32.ofInt v)))) = wdG h0 q c1 (wr M 2 i v) := by
  rw [← wr_upd]; rfl
theorem wdG_st4 (h0 : Nat) (q : Nat → Nat) (c1 : ClassId) (M : Mem) (i : Nat) (v : Int) : (wdG h0 q c1 M).set 5 (q 4, .inl (c1, 60, .inl (upd (fun k => Int32.ofInt (M 4 k)) i (Int32.ofInt v)))) = wdG h0 q c1 (wr M 4 i v) := by
  rw [← wr_upd]; rfl
set_option maxRecDepth 100000 in
set_option maxHeartbeats 4000000 in
theorem gA_walk {p : Program} {l : Launch} {e : Env} {R : Room} {s : State} {m : MethodId} {args : Array Value} {below : List Frame} {meth : Method} {c : Code} {Q : State → Prop} {A : Nat → Prop} {dC : Nat → ClassId} {dI : Nat → Nat → Nat} {h0 : Nat} {q : Nat → Nat} {c1 : ClassId} {cells slots : Nat} (hx : p.tables.exec = Jvm.exec) (hb : c.code = cX2_init) (hts : ∀ w ∈ wsX2_init, w.before args s = true) (hown : s.vm.findClass RX2 = some m.cls) (hK : va_K (dC, dI) vwCl [(c1, .int)] s) {Mf : Mem} (fin : ∀ (H : Heap) (locs : List Loc) (ls : Array Slot), va_P (dC, dI) vwCl (wdG h0 q c1 Mf) H → va_D A (wdG h0 q c1 Mf) → va_S A s.heap H locs → lv_has ls 5 [(1, iV 144), (0, .ref h0)] → W p l e R s m args below meth c H locs cells slots Q (F0 m 77 ls [])) : ∀ (n : Nat) (i : Int) (M : Mem) (H : Heap) (locs : List Loc) (ls : Array Slot), 0 ≤ i → i + n = 144 → gA n i M = Mf → va_P (dC, dI) vwCl (wdG h0 q c1 M) H → va_D A (wdG h0 q c1 M) → va_S A s.heap H locs → lv_has ls 5 [(1, iV (i)), (0, .ref h0)] → W p l e R s m args below meth c H locs cells slots Q (F0 m 57 ls []) := by
  intro n
  induction n with
  | zero =>
    intro i M H locs ls h1 h2 h3 hP hD hS hl
    have e : i = 144 := by omega
    subst e
    subst h3
    refine lv_iload_n hx hb dX2_init_57 rfl (lv_at hl 0 rfl) ?_
    refine lv_sipush (v := Int32.ofInt 144) hx hb dX2_init_58 (by decide) ?_
    refine lv_icmp_ge (tgt := 77) hx hb dX2_init_61 (by decide) (fun _ => ?_) (fun h9 => absurd ((zi_le (by unfold inR; omega) (by unfold inR; omega)).mpr (by omega)) h9)
    exact fin H locs _ hP hD hS hl
  | succ n ih =>
    intro i M H locs ls h1 h2 h3 hP hD hS hl
    refine lv_iload_n hx hb dX2_init_57 rfl (lv_at hl 0 rfl) ?_
    refine lv_sipush (v := Int32.ofInt 144) hx hb dX2_init_58 (by decide) ?_
    refine lv_icmp_ge (tgt := 77) hx hb dX2_init_61 (by decide) (fun h9 => absurd ((zi_le (by unfold inR; omega) (by unfold inR; omega)).mp h9) (by omega)) (fun _ => ?_)
    refine lv_aload_n hx hb dX2_init_64 rfl (lv_at hl 1 rfl) ?_
    refine va_get (D := (dC, dI)) (ci := 2) (v := .ref (q 2)) (C := RX2) (T := TX2) (N := 7) hx hb hts hi_X2_init_X2 hown hK hP 0 rfl rfl 2 (by decide) (hts (.fieldLink RX2 18 "PlateauBench$Grid" "beside" "[I") (by decide +kernel)) (fun _ h9 => h9) rfl dX2_init_65 ?_
    refine lv_iload_n hx hb dX2_init_68 rfl (lv_at hl 0 rfl) ?_
    refine lv_iconst (v := Int32.ofInt (-1)) hx hb dX2_init_69 (by decide) ?_
    refine va_iast hx hb hK hP hD hS 3 0 (cA := c1) (n := 144) (f := fun k => Int32.ofInt (M 2 k)) rfl rfl (zi_in (z := i) ⟨by omega, by omega⟩ (by decide)) dX2_init_70 (fun H locs hP hD hS => ?_)
    rw [zi_cl (by omega) (by omega), wdG_st2] at hP hD
    refine lv_iinc (k := 0) (lv' := [(1, iV (i + 1)), (0, .ref h0)]) hx hb dX2_init_71 hl rfl (zi_add _ _) (by decide) rfl (fun ls hl => ?_)
    refine lv_goto (tgt := 57) hx hb dX2_init_74 (by decide) ?_
    refine ih (i + 1) (wr M 2 (i).toNat ((-1))) H locs _ (by omega) (by omega) ?_ hP hD hS (lv_sub hl [0, 1] rfl)
    exact h3
set_option maxRecDepth 100000 in
set_option maxHeartbeats 4000000 in
theorem gB_walk {p : Program} {l : Launch} {e : Env} {R : Room} {s : State} {m : MethodId} {args : Array Value} {below : List Frame} {meth : Method} {c : Code} {Q : State → Prop} {A : Nat → Prop} {dC : Nat → ClassId} {dI : Nat → Nat → Nat} {h0 : Nat} {q : Nat → Nat} {c1 : ClassId} {cells slots : Nat} (hx : p.tables.exec = Jvm.exec) (hb : c.code = cX2_init) (hts : ∀ w ∈ wsX2_init, w.before args s = true) (hown : s.vm.findClass RX2 = some m.cls) (hK : va_K (dC, dI) vwCl [(c1, .int)] s) {Mf : Mem} (fin : ∀ (H : Heap) (locs : List Loc) (ls : Array Slot), va_P (dC, dI) vwCl (wdG h0 q c1 Mf) H → va_D A (wdG h0 q c1 Mf) → va_S A s.heap H locs → lv_has ls 5 [(1, iV 60), (0, .ref h0)] → W p l e R s m args below meth c H locs cells slots Q (F0 m 200 ls [])) : ∀ (n : Nat) (i : Int) (M : Mem) (H : Heap) (locs : List Loc) (ls : Array Slot), 0 ≤ i → i + n = 60 → gB n i M = Mf → va_P (dC, dI) vwCl (wdG h0 q c1 M) H → va_D A (wdG h0 q c1 M) → va_S A s.heap H locs → lv_has ls 5 [(1, iV (i)), (0, .ref h0)] → W p l e R s m args below meth c H locs cells slots Q (F0 m 79 ls []) := by
  intro n
  induction n with
  | zero =>
    intro i M H locs ls h1 h2 h3 hP hD hS hl
    have e : i = 60 := by omega
    subst e
    subst h3
    refine lv_iload_n hx hb dX2_init_79 rfl (lv_at hl 0 rfl) ?_
    refine lv_bipush (v := Int32.ofInt 60) hx hb dX2_init_80 (by decide) ?_
    refine lv_icmp_ge (tgt := 200) hx hb dX2_init_82 (by decide) (fun _ => ?_) (fun h9 => absurd ((zi_le (by unfold inR; omega) (by unfold inR; omega)).mpr (by omega)) h9)
    exact fin H locs _ hP hD hS hl
  | succ n ih =>
    intro i M H locs ls h1 h2 h3 hP hD hS hl
    rcases Int.lt_or_le i 30 with hi | hi
    · refine lv_iload_n hx hb dX2_init_79 rfl (lv_at hl 0 rfl) ?_
      refine lv_bipush (v := Int32.ofInt 60) hx hb dX2_init_80 (by decide) ?_
      refine lv_icmp_ge (tgt := 200) hx hb dX2_init_82 (by decide) (fun h9 => absurd ((zi_le (by unfold inR; omega) (by unfold inR; omega)).mp h9) (by omega)) (fun _ => ?_)
      refine lv_iload_n hx hb dX2_init_85 rfl (lv_at hl 0 rfl) ?_
      refine lv_bipush (v := Int32.ofInt 30) hx hb dX2_init_86 (by decide) ?_
      refine lv_icmp_ge (tgt := 95) hx hb dX2_init_88 (by decide) (fun h9 => absurd ((zi_le (by unfold inR; omega) (by unfold inR; omega)).mp h9) (by omega)) (fun _ => ?_)
      refine lv_iconst (v := Int32.ofInt 1) hx hb dX2_init_91 (by decide) ?_
      refine lv_goto (tgt := 96) hx hb dX2_init_92 (by decide) ?_
      refine lv_istore_n (lv' := [(2, iV (1)), (1, iV (i)), (0, .ref h0)]) hx hb dX2_init_96 rfl hl (by decide) rfl (fun ls hl => ?_)
      refine lv_iload_n hx hb dX2_init_97 rfl (lv_at hl 0 rfl) ?_
      refine lv_if_eq (tgt := 114) hx hb dX2_init_98 (by decide) (fun h9 => absurd h9 (by decide)) (fun _ => ?_)
      refine lv_iload_n hx hb dX2_init_101 rfl (lv_at hl 1 rfl) ?_
      refine lv_iconst (v := Int32.ofInt 5) hx hb dX2_init_102 (by decide) ?_
      refine lv_idiv hx hb dX2_init_103 (zi_ne0 (by omega)) ?_
      rw [← zi_div (by omega) (by omega)]
      refine lv_bipush (v := Int32.ofInt 6) hx hb dX2_init_104 (by decide) ?_
      refine lv_imul hx hb dX2_init_106 ?_
      rw [zi_mul]
      refine lv_iload_n hx hb dX2_init_107 rfl (lv_at hl 1 rfl) ?_
      refine lv_iconst (v := Int32.ofInt 5) hx hb dX2_init_108 (by decide) ?_
      refine lv_irem hx hb dX2_init_109 (zi_ne0 (by omega)) ?_
      rw [← zi_rem (by omega) (by omega)]
      refine lv_iadd hx hb dX2_init_110 ?_
      rw [zi_add]
      refine lv_goto (tgt := 118) hx hb dX2_init_111 (by decide) ?_
      refine lv_istore_n (lv' := [(3, iV (((((((i) / (5))) * (6))) + (((i) % (5)))))), (2, iV (1)), (1, iV (i)), (0, .ref h0)]) hx hb dX2_init_118 rfl hl (by decide) rfl (fun ls hl => ?_)
      refine lv_iload_n hx hb dX2_init_119 rfl (lv_at hl 0 rfl) ?_
      refine lv_iload_n hx hb dX2_init_120 rfl (lv_at hl 1 rfl) ?_
      refine lv_if_eq (tgt := 128) hx hb dX2_init_121 (by decide) (fun h9 => absurd h9 (by decide)) (fun _ => ?_)
      refine lv_iconst (v := Int32.ofInt 1) hx hb dX2_init_124 (by decide) ?_
      refine lv_goto (tgt := 130) hx hb dX2_init_125 (by decide) ?_
      refine lv_iadd hx hb dX2_init_130 ?_
      rw [zi_add]
      refine lv_istore (lv' := [(4, iV (((((((((i) / (5))) * (6))) + (((i) % (5))))) + (1)))), (3, iV (((((((i) / (5))) * (6))) + (((i) % (5)))))), (2, iV (1)), (1, iV (i)), (0, .ref h0)]) hx hb dX2_init_131 hl (by decide) rfl (fun ls hl => ?_)
      refine lv_aload_n hx hb dX2_init_133 rfl (lv_at hl 4 rfl) ?_
      refine va_get (D := (dC, dI)) (ci := 2) (v := .ref (q 0)) (C := RX2) (T := TX2) (N := 7) hx hb hts hi_X2_init_X2 hown hK hP 0 rfl rfl 0 (by decide) (hts (.fieldLink RX2 9 "PlateauBench$Grid" "low" "[I") (by decide +kernel)) (fun _ h9 => h9) rfl dX2_init_134 ?_
      refine lv_iload_n hx hb dX2_init_137 rfl (lv_at hl 3 rfl) ?_
      refine lv_iload_n hx hb dX2_init_138 rfl (lv_at hl 1 rfl) ?_
      refine va_iast hx hb hK hP hD hS 1 0 (cA := c1) (n := 60) (f := fun k => Int32.ofInt (M 0 k)) rfl rfl (zi_in (z := i) ⟨by omega, by omega⟩ (by decide)) dX2_init_139 (fun H locs hP hD hS => ?_)
      rw [zi_cl (by omega) (by omega), wdG_st0] at hP hD
      refine lv_aload_n hx hb dX2_init_140 rfl (lv_at hl 4 rfl) ?_
      refine va_get (D := (dC, dI)) (ci := 2) (v := .ref (q 1)) (C := RX2) (T := TX2) (N := 7) hx hb hts hi_X2_init_X2 hown hK hP 0 rfl rfl 1 (by decide) (hts (.fieldLink RX2 15 "PlateauBench$Grid" "high" "[I") (by decide +kernel)) (fun _ h9 => h9) rfl dX2_init_141 ?_
      refine lv_iload_n hx hb dX2_init_144 rfl (lv_at hl 3 rfl) ?_
      refine lv_iload hx hb dX2_init_145 (lv_at hl 0 rfl) ?_
      refine va_iast hx hb hK hP hD hS 2 0 (cA := c1) (n := 60) (f := fun k => Int32.ofInt ((wr M 0 (i).toNat (((((((i) / (5))) * (6))) + (((i) % (5)))))) 1 k)) rfl rfl (zi_in (z := i) ⟨by omega, by omega⟩ (by decide)) dX2_init_147 (fun H locs hP hD hS => ?_)
      rw [zi_cl (by omega) (by omega), wdG_st1] at hP hD
      refine lv_aload_n hx hb dX2_init_148 rfl (lv_at hl 4 rfl) ?_
      refine va_get (D := (dC, dI)) (ci := 2) (v := .ref (q 2)) (C := RX2) (T := TX2) (N := 7) hx hb hts hi_X2_init_X2 hown hK hP 0 rfl rfl 2 (by decide) (hts (.fieldLink RX2 18 "PlateauBench$Grid" "beside" "[I") (by decide +kernel)) (fun _ h9 => h9) rfl dX2_init_149 ?_
      refine lv_iload_n hx hb dX2_init_152 rfl (lv_at hl 1 rfl) ?_
      refine lv_iconst (v := Int32.ofInt 4) hx hb dX2_init_153 (by decide) ?_
      refine lv_imul hx hb dX2_init_154 ?_
      rw [zi_mul]
      refine lv_iload_n hx hb dX2_init_155 rfl (lv_at hl 2 rfl) ?_
      refine lv_if_eq (tgt := 163) hx hb dX2_init_156 (by decide) (fun h9 => absurd h9 (by decide)) (fun _ => ?_)
      refine lv_iconst (v := Int32.ofInt 0) hx hb dX2_init_159 (by decide) ?_
      refine lv_goto (tgt := 164) hx hb dX2_init_160 (by decide) ?_
      refine lv_iadd hx hb dX2_init_164 ?_
      rw [zi_add]
      refine lv_iload_n hx hb dX2_init_165 rfl (lv_at hl 3 rfl) ?_
      refine va_iast hx hb hK hP hD hS 3 0 (cA := c1) (n := 144) (f := fun k => Int32.ofInt ((wr (wr M 0 (i).toNat (((((((i) / (5))) * (6))) + (((i) % (5)))))) 1 (i).toNat (((((((((i) / (5))) * (6))) + (((i) % (5))))) + (1)))) 2 k)) rfl rfl (zi_in (z := ((((((((((i) / (5))) * (6))) + (((i) % (5))))) * (4))) + (0))) ⟨by omega, by omega⟩ (by decide)) dX2_init_166 (fun H locs hP hD hS => ?_)
      rw [zi_cl (by omega) (by omega), wdG_st2] at hP hD
      refine lv_aload_n hx hb dX2_init_167 rfl (lv_at hl 4 rfl) ?_
      refine va_get (D := (dC, dI)) (ci := 2) (v := .ref (q 2)) (C := RX2) (T := TX2) (N := 7) hx hb hts hi_X2_init_X2 hown hK hP 0 rfl rfl 2 (by decide) (hts (.fieldLink RX2 18 "PlateauBench$Grid" "beside" "[I") (by decide +kernel)) (fun _ h9 => h9) rfl dX2_init_168 ?_
      refine lv_iload hx hb dX2_init_171 (lv_at hl 0 rfl) ?_
      refine lv_iconst (v := Int32.ofInt 4) hx hb dX2_init_173 (by decide) ?_
      refine lv_imul hx hb dX2_init_174 ?_
      rw [zi_mul]
      refine lv_iload_n hx hb dX2_init_175 rfl (lv_at hl 2 rfl) ?_
      refine lv_if_eq (tgt := 183) hx hb dX2_init_176 (by decide) (fun h9 => absurd h9 (by decide)) (fun _ => ?_)
      refine lv_iconst (v := Int32.ofInt 2) hx hb dX2_init_179 (by decide) ?_
      refine lv_goto (tgt := 184) hx hb dX2_init_180 (by decide) ?_
      refine lv_iadd hx hb dX2_init_184 ?_
      rw [zi_add]
      refine lv_iload_n hx hb dX2_init_185 rfl (lv_at hl 3 rfl) ?_
      refine va_iast hx hb hK hP hD hS 3 0 (cA := c1) (n := 144) (f := fun k => Int32.ofInt ((wr (wr (wr M 0 (i).toNat (((((((i) / (5))) * (6))) + (((i) % (5)))))) 1 (i).toNat (((((((((i) / (5))) * (6))) + (((i) % (5))))) + (1)))) 2 (((((((((((i) / (5))) * (6))) + (((i) % (5))))) * (4))) + (0))).toNat (i)) 2 k)) rfl rfl (zi_in (z := ((((((((((((i) / (5))) * (6))) + (((i) % (5))))) + (1))) * (4))) + (2))) ⟨by omega, by omega⟩ (by decide)) dX2_init_186 (fun H locs hP hD hS => ?_)
      rw [zi_cl (by omega) (by omega), wdG_st2] at hP hD
      refine lv_aload_n hx hb dX2_init_187 rfl (lv_at hl 4 rfl) ?_
      refine va_get (D := (dC, dI)) (ci := 2) (v := .ref (q 4)) (C := RX2) (T := TX2) (N := 7) hx hb hts hi_X2_init_X2 hown hK hP 0 rfl rfl 4 (by decide) (hts (.fieldLink RX2 24 "PlateauBench$Grid" "prices" "[I") (by decide +kernel)) (fun _ h9 => h9) rfl dX2_init_188 ?_
      refine lv_iload_n hx hb dX2_init_191 rfl (lv_at hl 3 rfl) ?_
      refine lv_iconst (v := Int32.ofInt 1) hx hb dX2_init_192 (by decide) ?_
      refine va_iast hx hb hK hP hD hS 5 0 (cA := c1) (n := 60) (f := fun k => Int32.ofInt ((wr (wr (wr (wr M 0 (i).toNat (((((((i) / (5))) * (6))) + (((i) % (5)))))) 1 (i).toNat (((((((((i) / (5))) * (6))) + (((i) % (5))))) + (1)))) 2 (((((((((((i) / (5))) * (6))) + (((i) % (5))))) * (4))) + (0))).toNat (i)) 2 (((((((((((((i) / (5))) * (6))) + (((i) % (5))))) + (1))) * (4))) + (2))).toNat (i)) 4 k)) rfl rfl (zi_in (z := i) ⟨by omega, by omega⟩ (by decide)) dX2_init_193 (fun H locs hP hD hS => ?_)
      rw [zi_cl (by omega) (by omega), wdG_st4] at hP hD
      refine lv_iinc (k := 3) (lv' := [(1, iV (i + 1)), (4, iV (((((((((i) / (5))) * (6))) + (((i) % (5))))) + (1)))), (3, iV (((((((i) / (5))) * (6))) + (((i) % (5)))))), (2, iV (1)), (0, .ref h0)]) hx hb dX2_init_194 hl rfl (zi_add _ _) (by decide) rfl (fun ls hl => ?_)
      refine lv_goto (tgt := 79) hx hb dX2_init_197 (by decide) ?_
      refine ih (i + 1) (wr (wr (wr (wr (wr M 0 (i).toNat (((((((i) / (5))) * (6))) + (((i) % (5)))))) 1 (i).toNat (((((((((i) / (5))) * (6))) + (((i) % (5))))) + (1)))) 2 (((((((((((i) / (5))) * (6))) + (((i) % (5))))) * (4))) + (0))).toNat (i)) 2 (((((((((((((i) / (5))) * (6))) + (((i) % (5))))) + (1))) * (4))) + (2))).toNat (i)) 4 (i).toNat (1)) H locs _ (by omega) (by omega) ?_ hP hD hS (lv_sub hl [0, 4] rfl)
      rw [← h3]
      show gB n (i + 1) _ = gB n (i + 1) (gS i M)
      unfold gS gHigh gLow
      simp only [if_pos hi, Int.add_zero]
    · refine lv_iload_n hx hb dX2_init_79 rfl (lv_at hl 0 rfl) ?_
      refine lv_bipush (v := Int32.ofInt 60) hx hb dX2_init_80 (by decide) ?_
      refine lv_icmp_ge (tgt := 200) hx hb dX2_init_82 (by decide) (fun h9 => absurd ((zi_le (by unfold inR; omega) (by unfold inR; omega)).mp h9) (by omega)) (fun _ => ?_)
      refine lv_iload_n hx hb dX2_init_85 rfl (lv_at hl 0 rfl) ?_
      refine lv_bipush (v := Int32.ofInt 30) hx hb dX2_init_86 (by decide) ?_
      refine lv_icmp_ge (tgt := 95) hx hb dX2_init_88 (by decide) (fun _ => ?_) (fun h9 => absurd ((zi_le (by unfold inR; omega) (by unfold inR; omega)).mpr (by omega)) h9)
      refine lv_iconst (v := Int32.ofInt 0) hx hb dX2_init_95 (by decide) ?_
      refine lv_istore_n (lv' := [(2, iV (0)), (1, iV (i)), (0, .ref h0)]) hx hb dX2_init_96 rfl hl (by decide) rfl (fun ls hl => ?_)
      refine lv_iload_n hx hb dX2_init_97 rfl (lv_at hl 0 rfl) ?_
      refine lv_if_eq (tgt := 114) hx hb dX2_init_98 (by decide) (fun _ => ?_) (fun h9 => absurd (by decide) h9)
      refine lv_iload_n hx hb dX2_init_114 rfl (lv_at hl 1 rfl) ?_
      refine lv_bipush (v := Int32.ofInt 30) hx hb dX2_init_115 (by decide) ?_
      refine lv_isub hx hb dX2_init_117 ?_
      rw [zi_sub]
      refine lv_istore_n (lv' := [(3, iV (((i) - (30)))), (2, iV (0)), (1, iV (i)), (0, .ref h0)]) hx hb dX2_init_118 rfl hl (by decide) rfl (fun ls hl => ?_)
      refine lv_iload_n hx hb dX2_init_119 rfl (lv_at hl 0 rfl) ?_
      refine lv_iload_n hx hb dX2_init_120 rfl (lv_at hl 1 rfl) ?_
      refine lv_if_eq (tgt := 128) hx hb dX2_init_121 (by decide) (fun _ => ?_) (fun h9 => absurd (by decide) h9)
      refine lv_bipush (v := Int32.ofInt 6) hx hb dX2_init_128 (by decide) ?_
      refine lv_iadd hx hb dX2_init_130 ?_
      rw [zi_add]
      refine lv_istore (lv' := [(4, iV (((((i) - (30))) + (6)))), (3, iV (((i) - (30)))), (2, iV (0)), (1, iV (i)), (0, .ref h0)]) hx hb dX2_init_131 hl (by decide) rfl (fun ls hl => ?_)
      refine lv_aload_n hx hb dX2_init_133 rfl (lv_at hl 4 rfl) ?_
      refine va_get (D := (dC, dI)) (ci := 2) (v := .ref (q 0)) (C := RX2) (T := TX2) (N := 7) hx hb hts hi_X2_init_X2 hown hK hP 0 rfl rfl 0 (by decide) (hts (.fieldLink RX2 9 "PlateauBench$Grid" "low" "[I") (by decide +kernel)) (fun _ h9 => h9) rfl dX2_init_134 ?_
      refine lv_iload_n hx hb dX2_init_137 rfl (lv_at hl 3 rfl) ?_
      refine lv_iload_n hx hb dX2_init_138 rfl (lv_at hl 1 rfl) ?_
      refine va_iast hx hb hK hP hD hS 1 0 (cA := c1) (n := 60) (f := fun k => Int32.ofInt (M 0 k)) rfl rfl (zi_in (z := i) ⟨by omega, by omega⟩ (by decide)) dX2_init_139 (fun H locs hP hD hS => ?_)
      rw [zi_cl (by omega) (by omega), wdG_st0] at hP hD
      refine lv_aload_n hx hb dX2_init_140 rfl (lv_at hl 4 rfl) ?_
      refine va_get (D := (dC, dI)) (ci := 2) (v := .ref (q 1)) (C := RX2) (T := TX2) (N := 7) hx hb hts hi_X2_init_X2 hown hK hP 0 rfl rfl 1 (by decide) (hts (.fieldLink RX2 15 "PlateauBench$Grid" "high" "[I") (by decide +kernel)) (fun _ h9 => h9) rfl dX2_init_141 ?_
      refine lv_iload_n hx hb dX2_init_144 rfl (lv_at hl 3 rfl) ?_
      refine lv_iload hx hb dX2_init_145 (lv_at hl 0 rfl) ?_
      refine va_iast hx hb hK hP hD hS 2 0 (cA := c1) (n := 60) (f := fun k => Int32.ofInt ((wr M 0 (i).toNat (((i) - (30)))) 1 k)) rfl rfl (zi_in (z := i) ⟨by omega, by omega⟩ (by decide)) dX2_init_147 (fun H locs hP hD hS => ?_)
      rw [zi_cl (by omega) (by omega), wdG_st1] at hP hD
      refine lv_aload_n hx hb dX2_init_148 rfl (lv_at hl 4 rfl) ?_
      refine va_get (D := (dC, dI)) (ci := 2) (v := .ref (q 2)) (C := RX2) (T := TX2) (N := 7) hx hb hts hi_X2_init_X2 hown hK hP 0 rfl rfl 2 (by decide) (hts (.fieldLink RX2 18 "PlateauBench$Grid" "beside" "[I") (by decide +kernel)) (fun _ h9 => h9) rfl dX2_init_149 ?_
      refine lv_iload_n hx hb dX2_init_152 rfl (lv_at hl 1 rfl) ?_
      refine lv_iconst (v := Int32.ofInt 4) hx hb dX2_init_153 (by decide) ?_
      refine lv_imul hx hb dX2_init_154 ?_
      rw [zi_mul]
      refine lv_iload_n hx hb dX2_init_155 rfl (lv_at hl 2 rfl) ?_
      refine lv_if_eq (tgt := 163) hx hb dX2_init_156 (by decide) (fun _ => ?_) (fun h9 => absurd (by decide) h9)
      refine lv_iconst (v := Int32.ofInt 1) hx hb dX2_init_163 (by decide) ?_
      refine lv_iadd hx hb dX2_init_164 ?_
      rw [zi_add]
      refine lv_iload_n hx hb dX2_init_165 rfl (lv_at hl 3 rfl) ?_
      refine va_iast hx hb hK hP hD hS 3 0 (cA := c1) (n := 144) (f := fun k => Int32.ofInt ((wr (wr M 0 (i).toNat (((i) - (30)))) 1 (i).toNat (((((i) - (30))) + (6)))) 2 k)) rfl rfl (zi_in (z := ((((((i) - (30))) * (4))) + (1))) ⟨by omega, by omega⟩ (by decide)) dX2_init_166 (fun H locs hP hD hS => ?_)
      rw [zi_cl (by omega) (by omega), wdG_st2] at hP hD
      refine lv_aload_n hx hb dX2_init_167 rfl (lv_at hl 4 rfl) ?_
      refine va_get (D := (dC, dI)) (ci := 2) (v := .ref (q 2)) (C := RX2) (T := TX2) (N := 7) hx hb hts hi_X2_init_X2 hown hK hP 0 rfl rfl 2 (by decide) (hts (.fieldLink RX2 18 "PlateauBench$Grid" "beside" "[I") (by decide +kernel)) (fun _ h9 => h9) rfl dX2_init_168 ?_
      refine lv_iload hx hb dX2_init_171 (lv_at hl 0 rfl) ?_
      refine lv_iconst (v := Int32.ofInt 4) hx hb dX2_init_173 (by decide) ?_
      refine lv_imul hx hb dX2_init_174 ?_
      rw [zi_mul]
      refine lv_iload_n hx hb dX2_init_175 rfl (lv_at hl 2 rfl) ?_
      refine lv_if_eq (tgt := 183) hx hb dX2_init_176 (by decide) (fun _ => ?_) (fun h9 => absurd (by decide) h9)
      refine lv_iconst (v := Int32.ofInt 3) hx hb dX2_init_183 (by decide) ?_
      refine lv_iadd hx hb dX2_init_184 ?_
      rw [zi_add]
      refine lv_iload_n hx hb dX2_init_185 rfl (lv_at hl 3 rfl) ?_
      refine va_iast hx hb hK hP hD hS 3 0 (cA := c1) (n := 144) (f := fun k => Int32.ofInt ((wr (wr (wr M 0 (i).toNat (((i) - (30)))) 1 (i).toNat (((((i) - (30))) + (6)))) 2 (((((((i) - (30))) * (4))) + (1))).toNat (i)) 2 k)) rfl rfl (zi_in (z := ((((((((i) - (30))) + (6))) * (4))) + (3))) ⟨by omega, by omega⟩ (by decide)) dX2_init_186 (fun H locs hP hD hS => ?_)
      rw [zi_cl (by omega) (by omega), wdG_st2] at hP hD
      refine lv_aload_n hx hb dX2_init_187 rfl (lv_at hl 4 rfl) ?_
      refine va_get (D := (dC, dI)) (ci := 2) (v := .ref (q 4)) (C := RX2) (T := TX2) (N := 7) hx hb hts hi_X2_init_X2 hown hK hP 0 rfl rfl 4 (by decide) (hts (.fieldLink RX2 24 "PlateauBench$Grid" "prices" "[I") (by decide +kernel)) (fun _ h9 => h9) rfl dX2_init_188 ?_
      refine lv_iload_n hx hb dX2_init_191 rfl (lv_at hl 3 rfl) ?_
      refine lv_iconst (v := Int32.ofInt 1) hx hb dX2_init_192 (by decide) ?_
      refine va_iast hx hb hK hP hD hS 5 0 (cA := c1) (n := 60) (f := fun k => Int32.ofInt ((wr (wr (wr (wr M 0 (i).toNat (((i) - (30)))) 1 (i).toNat (((((i) - (30))) + (6)))) 2 (((((((i) - (30))) * (4))) + (1))).toNat (i)) 2 (((((((((i) - (30))) + (6))) * (4))) + (3))).toNat (i)) 4 k)) rfl rfl (zi_in (z := i) ⟨by omega, by omega⟩ (by decide)) dX2_init_193 (fun H locs hP hD hS => ?_)
      rw [zi_cl (by omega) (by omega), wdG_st4] at hP hD
      refine lv_iinc (k := 3) (lv' := [(1, iV (i + 1)), (4, iV (((((i) - (30))) + (6)))), (3, iV (((i) - (30)))), (2, iV (0)), (0, .ref h0)]) hx hb dX2_init_194 hl rfl (zi_add _ _) (by decide) rfl (fun ls hl => ?_)
      refine lv_goto (tgt := 79) hx hb dX2_init_197 (by decide) ?_
      refine ih (i + 1) (wr (wr (wr (wr (wr M 0 (i).toNat (((i) - (30)))) 1 (i).toNat (((((i) - (30))) + (6)))) 2 (((((((i) - (30))) * (4))) + (1))).toNat (i)) 2 (((((((((i) - (30))) + (6))) * (4))) + (3))).toNat (i)) 4 (i).toNat (1)) H locs _ (by omega) (by omega) ?_ hP hD hS (lv_sub hl [0, 4] rfl)
      rw [← h3]
      show gB n (i + 1) _ = gB n (i + 1) (gS i M)
      unfold gS gHigh gLow
      simp only [if_neg (Int.not_lt.mpr hi), Int.add_zero]
set_option maxRecDepth 100000 in
set_option maxHeartbeats 8000000 in
theorem iX2 (l : Launch) (dC : Nat → ClassId) (dI : Nat → Nat → Nat) (h0 sz : Nat) : Met l yX2_init wsX2_init ({ frames := 1, cells := 5, slots := 384, locals := 16 }) (va_Pc [.ref h0] (fun U => U.heap.size = sz ∧ va_P (dC, dI) vwCl [(h0, .inr (2, [.null, .null, .null, .null, .null, .int 0, .int 0]))] U.heap ∧ va_K (dC, dI) vwCl [] U ∧ va_D (fun _ => True) [(h0, .inr (2, [.null, .null, .null, .null, .null, .int 0, .int 0]))])) (va_Qv (fun _ : (Nat → Nat) × ClassId × ClassId => True) (fun u t => va_P (dC, dI) vwCl (wdG h0 u.1 u.2.1 gM2) t.heap ∧ va_K (dC, dI) vwCl [(u.2.1, .int)] t ∧ va_D (va_A [(h0, .inr (2, [.null, .null, .null, .null, .null, .int 0, .int 0]))] sz) (wdG h0 u.1 u.2.1 gM2)) (va_A [(h0, .inr (2, [.null, .null, .null, .null, .null, .int 0, .int 0]))] sz)) 5 384 (va_A [(h0, .inr (2, [.null, .null, .null, .null, .null, .int 0, .int 0]))] sz) := by
  refine Met.ofW (cc := cX2_init) (maxL := 5) (ret := none) (by decide +kernel) rfl ?_
  intro p e s m args below meth c s₁ B hml hv
  obtain ⟨rfl, hsz, hP, hK, hD0⟩ := hv
  have hx := B.exec
  have hb := B.bytes
  have hr := B.returns
  have hts := atoms_spec (ws := wsX2_init) B.pre
  have hown : s.vm.findClass RX2 = some m.cls := findClass_of_methodNamed B.named
  have hlocks := B.notSynchronized
  have hin : meth.name = "<init>" := (name_of_methodNamed B.named B.method).1
  subst hsz
  have hD := hD0.self (sz := s.heap.size)
  generalize hAe : va_A [(h0, .inr (2, [.null, .null, .null, .null, .null, .int 0, .int 0]))] s.heap.size = A at hD ⊢
  have hA : ∀ q : Nat, s.heap.size ≤ q → A q := fun q h => by rw [← hAe]; exact Or.inr h
  have hS : va_S A s.heap s.heap [] := va_S.rf
  have hP : va_P (dC, dI) vwCl [(h0, .inr (2, [.null, .null, .null, .null, .null, .int 0, .int 0]))] s.heap := hP
  have hl := lv_entry ([.ref h0]) (n := 5) (Nat.le_of_ble_eq_true rfl)
  rw [lg_entry_eq]
  generalize (lg_sl ([.ref h0]) ++ List.replicate (5 - (lg_sl ([.ref h0])).length) Slot.unset).toArray = ls at hl ⊢
  have hl : lv_has ls 5 [(0, .ref h0)] := hl
  refine lv_aload_n hx hb dX2_init_0 rfl (lv_at hl 0 rfl) ?_
  refine W.objInit hx hb hown (hts (.methodLink RX2 3 objectInit) (by decide +kernel)) (hts (.instanceMethod objectInit) (by decide +kernel)) (hts (.code objectInit ⟨#[0xb1]⟩ 1 none) (by decide +kernel)) rfl (by rw [hml]; exact hl.1) rfl dX2_init_1 (Nat.le_of_ble_eq_true rfl) (Nat.le_of_ble_eq_true rfl) ?_
  refine W.eq (g2 := F0 m 4 ls []) rfl ?_
  refine lv_aload_n hx hb dX2_init_4 rfl (lv_at hl 0 rfl) ?_
  refine lv_bipush (v := 60) hx hb dX2_init_5 (by decide) ?_
  refine va_newa (atype := .int) (ty := .int) (N' := 60) (a0 := (60, .inl (fun _ => 0))) hx hb (hts (.arrayClass .int) (by decide +kernel)) rfl hK hP hD hS hA (fun _ => rfl) (by decide) rfl (by decide) (Nat.le_of_ble_eq_true rfl) (Nat.le_of_ble_eq_true rfl) dX2_init_7 (fun q1 c1 H hK hP hD hS => ?_)
  have hK : va_K (dC, dI) vwCl [(c1, .int)] s := hK
  have hP : va_P (dC, dI) vwCl [(h0, .inr (2, [.null, .null, .null, .null, .null, .int 0, .int 0])), (q1, .inl (c1, 60, .inl (fun _ => 0)))] H := hP
  have hD : va_D A [(h0, .inr (2, [.null, .null, .null, .null, .null, .int 0, .int 0])), (q1, .inl (c1, 60, .inl (fun _ => 0)))] := hD
  refine va_putF (D := (dC, dI)) (ci := 2) (v := .ref q1) (ty := .array .int) (C := RX2) (T := TX2) (N := 7) hx hb hts hi_X2_init_X2 tyX2 tyX2_ok nmX2 hown hK hP hD hS 0 rfl rfl 0 (by decide) (hts (.fieldLink RX2 9 "PlateauBench$Grid" "low" "[I") (by decide +kernel)) (fun _ h9 => h9) rfl hin rfl (by decide +kernel) rfl rfl (Nat.le_of_ble_eq_true rfl) dX2_init_9 (fun H locs hP hD hS => ?_)
  have hP : va_P (dC, dI) vwCl [(h0, .inr (2, [.ref q1, .null, .null, .null, .null, .int 0, .int 0])), (q1, .inl (c1, 60, .inl (fun _ => 0)))] H := hP
  have hD : va_D A [(h0, .inr (2, [.ref q1, .null, .null, .null, .null, .int 0, .int 0])), (q1, .inl (c1, 60, .inl (fun _ => 0)))] := hD
  refine lv_aload_n hx hb dX2_init_12 rfl (lv_at hl 0 rfl) ?_
  refine lv_bipush (v := 60) hx hb dX2_init_13 (by decide) ?_
  refine va_newa (atype := .int) (ty := .int) (N' := 60) (a0 := (60, .inl (fun _ => 0))) hx hb (hts (.arrayClass .int) (by decide +kernel)) rfl hK hP hD hS hA (fun _ => rfl) (by decide) rfl (by decide) (Nat.le_of_ble_eq_true rfl) (Nat.le_of_ble_eq_true rfl) dX2_init_15 (fun q2 c2 H hK hP hD hS => ?_)
  have hK : va_K (dC, dI) vwCl [(c1, .int), (c2, .int)] s := hK
  obtain rfl : c1 = c2 := va_K_same hK 0 1 rfl rfl (fun _ => rfl)
  have hK := hK.sub (tys' := [(c1, .int)]) [0] rfl
  have hP : va_P (dC, dI) vwCl [(h0, .inr (2, [.ref q1, .null, .null, .null, .null, .int 0, .int 0])), (q1, .inl (c1, 60, .inl (fun _ => 0))), (q2, .inl (c1, 60, .inl (fun _ => 0)))] H := hP
  have hD : va_D A [(h0, .inr (2, [.ref q1, .null, .null, .null, .null, .int 0, .int 0])), (q1, .inl (c1, 60, .inl (fun _ => 0))), (q2, .inl (c1, 60, .inl (fun _ => 0)))] := hD
  refine va_putF (D := (dC, dI)) (ci := 2) (v := .ref q2) (ty := .array .int) (C := RX2) (T := TX2) (N := 7) hx hb hts hi_X2_init_X2 tyX2 tyX2_ok nmX2 hown hK hP hD hS 0 rfl rfl 1 (by decide) (hts (.fieldLink RX2 15 "PlateauBench$Grid" "high" "[I") (by decide +kernel)) (fun _ h9 => h9) rfl hin rfl (by decide +kernel) rfl rfl (Nat.le_of_ble_eq_true rfl) dX2_init_17 (fun H locs hP hD hS => ?_)
  have hP : va_P (dC, dI) vwCl [(h0, .inr (2, [.ref q1, .ref q2, .null, .null, .null, .int 0, .int 0])), (q1, .inl (c1, 60, .inl (fun _ => 0))), (q2, .inl (c1, 60, .inl (fun _ => 0)))] H := hP
  have hD : va_D A [(h0, .inr (2, [.ref q1, .ref q2, .null, .null, .null, .int 0, .int 0])), (q1, .inl (c1, 60, .inl (fun _ => 0))), (q2, .inl (c1, 60, .inl (fun _ => 0)))] := hD
  refine lv_aload_n hx hb dX2_init_20 rfl (lv_at hl 0 rfl) ?_
  refine lv_sipush (v := 144) hx hb dX2_init_21 (by decide) ?_
  refine va_newa (atype := .int) (ty := .int) (N' := 144) (a0 := (144, .inl (fun _ => 0))) hx hb (hts (.arrayClass .int) (by decide +kernel)) rfl hK hP hD hS hA (fun _ => rfl) (by decide) rfl (by decide) (Nat.le_of_ble_eq_true rfl) (Nat.le_of_ble_eq_true rfl) dX2_init_24 (fun q3 c3 H hK hP hD hS => ?_)
  have hK : va_K (dC, dI) vwCl [(c1, .int), (c3, .int)] s := hK
  obtain rfl : c1 = c3 := va_K_same hK 0 1 rfl rfl (fun _ => rfl)
  have hK := hK.sub (tys' := [(c1, .int)]) [0] rfl
  have hP : va_P (dC, dI) vwCl [(h0, .inr (2, [.ref q1, .ref q2, .null, .null, .null, .int 0, .int 0])), (q1, .inl (c1, 60, .inl (fun _ => 0))), (q2, .inl (c1, 60, .inl (fun _ => 0))), (q3, .inl (c1, 144, .inl (fun _ => 0)))] H := hP
  have hD : va_D A [(h0, .inr (2, [.ref q1, .ref q2, .null, .null, .null, .int 0, .int 0])), (q1, .inl (c1, 60, .inl (fun _ => 0))), (q2, .inl (c1, 60, .inl (fun _ => 0))), (q3, .inl (c1, 144, .inl (fun _ => 0)))] := hD
  refine va_putF (D := (dC, dI)) (ci := 2) (v := .ref q3) (ty := .array .int) (C := RX2) (T := TX2) (N := 7) hx hb hts hi_X2_init_X2 tyX2 tyX2_ok nmX2 hown hK hP hD hS 0 rfl rfl 2 (by decide) (hts (.fieldLink RX2 18 "PlateauBench$Grid" "beside" "[I") (by decide +kernel)) (fun _ h9 => h9) rfl hin rfl (by decide +kernel) rfl rfl (Nat.le_of_ble_eq_true rfl) dX2_init_26 (fun H locs hP hD hS => ?_)
  have hP : va_P (dC, dI) vwCl [(h0, .inr (2, [.ref q1, .ref q2, .ref q3, .null, .null, .int 0, .int 0])), (q1, .inl (c1, 60, .inl (fun _ => 0))), (q2, .inl (c1, 60, .inl (fun _ => 0))), (q3, .inl (c1, 144, .inl (fun _ => 0)))] H := hP
  have hD : va_D A [(h0, .inr (2, [.ref q1, .ref q2, .ref q3, .null, .null, .int 0, .int 0])), (q1, .inl (c1, 60, .inl (fun _ => 0))), (q2, .inl (c1, 60, .inl (fun _ => 0))), (q3, .inl (c1, 144, .inl (fun _ => 0)))] := hD
  refine lv_aload_n hx hb dX2_init_29 rfl (lv_at hl 0 rfl) ?_
  refine lv_bipush (v := 60) hx hb dX2_init_30 (by decide) ?_
  refine va_newa (atype := .int) (ty := .int) (N' := 60) (a0 := (60, .inl (fun _ => 0))) hx hb (hts (.arrayClass .int) (by decide +kernel)) rfl hK hP hD hS hA (fun _ => rfl) (by decide) rfl (by decide) (Nat.le_of_ble_eq_true rfl) (Nat.le_of_ble_eq_true rfl) dX2_init_32 (fun q4 c4 H hK hP hD hS => ?_)
  have hK : va_K (dC, dI) vwCl [(c1, .int), (c4, .int)] s := hK
  obtain rfl : c1 = c4 := va_K_same hK 0 1 rfl rfl (fun _ => rfl)
  have hK := hK.sub (tys' := [(c1, .int)]) [0] rfl
  have hP : va_P (dC, dI) vwCl [(h0, .inr (2, [.ref q1, .ref q2, .ref q3, .null, .null, .int 0, .int 0])), (q1, .inl (c1, 60, .inl (fun _ => 0))), (q2, .inl (c1, 60, .inl (fun _ => 0))), (q3, .inl (c1, 144, .inl (fun _ => 0))), (q4, .inl (c1, 60, .inl (fun _ => 0)))] H := hP
  have hD : va_D A [(h0, .inr (2, [.ref q1, .ref q2, .ref q3, .null, .null, .int 0, .int 0])), (q1, .inl (c1, 60, .inl (fun _ => 0))), (q2, .inl (c1, 60, .inl (fun _ => 0))), (q3, .inl (c1, 144, .inl (fun _ => 0))), (q4, .inl (c1, 60, .inl (fun _ => 0)))] := hD
  refine va_putF (D := (dC, dI)) (ci := 2) (v := .ref q4) (ty := .array .int) (C := RX2) (T := TX2) (N := 7) hx hb hts hi_X2_init_X2 tyX2 tyX2_ok nmX2 hown hK hP hD hS 0 rfl rfl 3 (by decide) (hts (.fieldLink RX2 21 "PlateauBench$Grid" "laid" "[I") (by decide +kernel)) (fun _ h9 => h9) rfl hin rfl (by decide +kernel) rfl rfl (Nat.le_of_ble_eq_true rfl) dX2_init_34 (fun H locs hP hD hS => ?_)
  have hP : va_P (dC, dI) vwCl [(h0, .inr (2, [.ref q1, .ref q2, .ref q3, .ref q4, .null, .int 0, .int 0])), (q1, .inl (c1, 60, .inl (fun _ => 0))), (q2, .inl (c1, 60, .inl (fun _ => 0))), (q3, .inl (c1, 144, .inl (fun _ => 0))), (q4, .inl (c1, 60, .inl (fun _ => 0)))] H := hP
  have hD : va_D A [(h0, .inr (2, [.ref q1, .ref q2, .ref q3, .ref q4, .null, .int 0, .int 0])), (q1, .inl (c1, 60, .inl (fun _ => 0))), (q2, .inl (c1, 60, .inl (fun _ => 0))), (q3, .inl (c1, 144, .inl (fun _ => 0))), (q4, .inl (c1, 60, .inl (fun _ => 0)))] := hD
  refine lv_aload_n hx hb dX2_init_37 rfl (lv_at hl 0 rfl) ?_
  refine lv_bipush (v := 60) hx hb dX2_init_38 (by decide) ?_
  refine va_newa (atype := .int) (ty := .int) (N' := 60) (a0 := (60, .inl (fun _ => 0))) hx hb (hts (.arrayClass .int) (by decide +kernel)) rfl hK hP hD hS hA (fun _ => rfl) (by decide) rfl (by decide) (Nat.le_of_ble_eq_true rfl) (Nat.le_of_ble_eq_true rfl) dX2_init_40 (fun q5 c5 H hK hP hD hS => ?_)
  have hK : va_K (dC, dI) vwCl [(c1, .int), (c5, .int)] s := hK
  obtain rfl : c1 = c5 := va_K_same hK 0 1 rfl rfl (fun _ => rfl)
  have hK := hK.sub (tys' := [(c1, .int)]) [0] rfl
  have hP : va_P (dC, dI) vwCl [(h0, .inr (2, [.ref q1, .ref q2, .ref q3, .ref q4, .null, .int 0, .int 0])), (q1, .inl (c1, 60, .inl (fun _ => 0))), (q2, .inl (c1, 60, .inl (fun _ => 0))), (q3, .inl (c1, 144, .inl (fun _ => 0))), (q4, .inl (c1, 60, .inl (fun _ => 0))), (q5, .inl (c1, 60, .inl (fun _ => 0)))] H := hP
  have hD : va_D A [(h0, .inr (2, [.ref q1, .ref q2, .ref q3, .ref q4, .null, .int 0, .int 0])), (q1, .inl (c1, 60, .inl (fun _ => 0))), (q2, .inl (c1, 60, .inl (fun _ => 0))), (q3, .inl (c1, 144, .inl (fun _ => 0))), (q4, .inl (c1, 60, .inl (fun _ => 0))), (q5, .inl (c1, 60, .inl (fun _ => 0)))] := hD
  refine va_putF (D := (dC, dI)) (ci := 2) (v := .ref q5) (ty := .array .int) (C := RX2) (T := TX2) (N := 7) hx hb hts hi_X2_init_X2 tyX2 tyX2_ok nmX2 hown hK hP hD hS 0 rfl rfl 4 (by decide) (hts (.fieldLink RX2 24 "PlateauBench$Grid" "prices" "[I") (by decide +kernel)) (fun _ h9 => h9) rfl hin rfl (by decide +kernel) rfl rfl (Nat.le_of_ble_eq_true rfl) dX2_init_42 (fun H locs hP hD hS => ?_)
  have hP : va_P (dC, dI) vwCl [(h0, .inr (2, [.ref q1, .ref q2, .ref q3, .ref q4, .ref q5, .int 0, .int 0])), (q1, .inl (c1, 60, .inl (fun _ => 0))), (q2, .inl (c1, 60, .inl (fun _ => 0))), (q3, .inl (c1, 144, .inl (fun _ => 0))), (q4, .inl (c1, 60, .inl (fun _ => 0))), (q5, .inl (c1, 60, .inl (fun _ => 0)))] H := hP
  have hD : va_D A [(h0, .inr (2, [.ref q1, .ref q2, .ref q3, .ref q4, .ref q5, .int 0, .int 0])), (q1, .inl (c1, 60, .inl (fun _ => 0))), (q2, .inl (c1, 60, .inl (fun _ => 0))), (q3, .inl (c1, 144, .inl (fun _ => 0))), (q4, .inl (c1, 60, .inl (fun _ => 0))), (q5, .inl (c1, 60, .inl (fun _ => 0)))] := hD
  refine lv_aload_n hx hb dX2_init_45 rfl (lv_at hl 0 rfl) ?_
  refine lv_iconst (v := 1) hx hb dX2_init_46 (by decide) ?_
  refine va_put (D := (dC, dI)) (ci := 2) (v := .int 1) (ty := .int) (C := RX2) (T := TX2) (N := 7) hx hb hts hi_X2_init_X2 tyX2 tyX2_ok nmX2 hown hK hP hD hS 0 rfl rfl 5 (by decide) (hts (.fieldLink RX2 27 "PlateauBench$Grid" "across" "I") (by decide +kernel)) (fun _ h9 => h9) rfl  (by decide +kernel) rfl rfl (Nat.le_of_ble_eq_true rfl) dX2_init_47 (fun H locs hP hD hS => ?_)
  have hP : va_P (dC, dI) vwCl [(h0, .inr (2, [.ref q1, .ref q2, .ref q3, .ref q4, .ref q5, .int 1, .int 0])), (q1, .inl (c1, 60, .inl (fun _ => 0))), (q2, .inl (c1, 60, .inl (fun _ => 0))), (q3, .inl (c1, 144, .inl (fun _ => 0))), (q4, .inl (c1, 60, .inl (fun _ => 0))), (q5, .inl (c1, 60, .inl (fun _ => 0)))] H := hP
  have hD : va_D A [(h0, .inr (2, [.ref q1, .ref q2, .ref q3, .ref q4, .ref q5, .int 1, .int 0])), (q1, .inl (c1, 60, .inl (fun _ => 0))), (q2, .inl (c1, 60, .inl (fun _ => 0))), (q3, .inl (c1, 144, .inl (fun _ => 0))), (q4, .inl (c1, 60, .inl (fun _ => 0))), (q5, .inl (c1, 60, .inl (fun _ => 0)))] := hD
  refine lv_aload_n hx hb dX2_init_50 rfl (lv_at hl 0 rfl) ?_
  refine lv_iconst (v := 1) hx hb dX2_init_51 (by decide) ?_
  refine va_put (D := (dC, dI)) (ci := 2) (v := .int 1) (ty := .int) (C := RX2) (T := TX2) (N := 7) hx hb hts hi_X2_init_X2 tyX2 tyX2_ok nmX2 hown hK hP hD hS 0 rfl rfl 6 (by decide) (hts (.fieldLink RX2 31 "PlateauBench$Grid" "down" "I") (by decide +kernel)) (fun _ h9 => h9) rfl  (by decide +kernel) rfl rfl (Nat.le_of_ble_eq_true rfl) dX2_init_52 (fun H locs hP hD hS => ?_)
  have hP : va_P (dC, dI) vwCl [(h0, .inr (2, [.ref q1, .ref q2, .ref q3, .ref q4, .ref q5, .int 1, .int 1])), (q1, .inl (c1, 60, .inl (fun _ => 0))), (q2, .inl (c1, 60, .inl (fun _ => 0))), (q3, .inl (c1, 144, .inl (fun _ => 0))), (q4, .inl (c1, 60, .inl (fun _ => 0))), (q5, .inl (c1, 60, .inl (fun _ => 0)))] H := hP
  have hD : va_D A [(h0, .inr (2, [.ref q1, .ref q2, .ref q3, .ref q4, .ref q5, .int 1, .int 1])), (q1, .inl (c1, 60, .inl (fun _ => 0))), (q2, .inl (c1, 60, .inl (fun _ => 0))), (q3, .inl (c1, 144, .inl (fun _ => 0))), (q4, .inl (c1, 60, .inl (fun _ => 0))), (q5, .inl (c1, 60, .inl (fun _ => 0)))] := hD
  have hP : va_P (dC, dI) vwCl (wdG h0 (fun k => ([q1, q2, q3, q4, q5] : List Nat).getD k 0) c1 gM0) H := hP
  have hD : va_D A (wdG h0 (fun k => ([q1, q2, q3, q4, q5] : List Nat).getD k 0) c1 gM0) := hD
  refine lv_iconst (v := Int32.ofInt 0) hx hb dX2_init_55 (by decide) ?_
  refine lv_istore_n (lv' := [(1, iV (0)), (0, .ref h0)]) hx hb dX2_init_56 rfl hl (by decide) rfl (fun ls hl => ?_)
  refine gA_walk (q := fun k => ([q1, q2, q3, q4, q5] : List Nat).getD k 0) hx hb hts hown hK (Mf := gM1) (fun H locs ls hP hD hS hl => ?_) 144 0 gM0 H locs ls (by decide) rfl rfl hP hD hS hl
  refine lv_iconst (v := Int32.ofInt 0) hx hb dX2_init_77 (by decide) ?_
  refine lv_istore_n (lv' := [(1, iV (0)), (0, .ref h0)]) hx hb dX2_init_78 rfl hl (by decide) rfl (fun ls hl => ?_)
  refine gB_walk (q := fun k => ([q1, q2, q3, q4, q5] : List Nat).getD k 0) hx hb hts hown hK (Mf := gM2) (fun H locs ls hP hD hS hl => ?_) 60 0 gM1 H locs ls (by decide) rfl rfl hP hD hS hl
  refine W.widen (k := 5) (n := 384) (Nat.le_of_ble_eq_true rfl) (Nat.le_of_ble_eq_true rfl) ?_
  exact W.vret hx hb hr (fun t ht hW => ⟨⟨((fun k => ([q1, q2, q3, q4, q5] : List Nat).getD k 0), c1, c1), rfl, trivial, by rw [ht]; exact hP, va_K.moved hW.alike hK, hD⟩, hS.F ht⟩) hS.2.2 dX2_init_200
