def fL_cost (M : Mem) (x1 : Int) (x2 : Int) : Option (Int × Mem) := Option.bind (fX5_cost M x1 x2) (fun T => if T.1 = 0 then some (T.2.1, T.2.2) else none)
def tL_cost (M : Mem) (x1 : Int) (x2 : Int) : Option (Int × Mem) := Option.bind (fX5_cost M x1 x2) (fun T => gd (T.1 = 0 ∨ T.1 = 2) (if T.1 = 0 then some (T.2.1, T.2.2) else some ((-2000000002), T.2.2)))
abbrev rmL_cost : Room := { frames := 7, cells := 0, slots := 0, locals := 114 }
abbrev rtL_cost : Room := { frames := 7, cells := 1, slots := 6, locals := 114 }
theorem hc_cost_0 : Cond.classLink RL 13 "java/lang/IllegalArgumentException" ∈ wsL_cost := by decide +kernel
theorem hk_cost_0 : Cond.constant RL 15 (-2000000002) ∈ wsL_cost := by decide +kernel
set_option maxRecDepth 100000 in
set_option maxHeartbeats 4000000 in
theorem kL_cost (l : Launch) (hl : l.stackTraces = false) (ad : Nat → Nat) (M : Mem) (x1 : Int) (x2 : Int) (T : Int × Mem) (h : fL_cost M x1 x2 = some T) : HK l yL_cost wsL_cost rmL_cost ad [.ref (ad 28), iV (x1), iV (x2)] 0 M (some (iV (T.1))) T.2 := by
  refine HK.ofW (cc := cL_cost) (nL := 4) (rt := (some .int)) (own := RL) (hh := [(0, 6, 7, 13)]) (by decide +kernel) rfl rfl (Nat.le_of_ble_eq_true rfl) ⟨Nat.le_of_ble_eq_true rfl, Nat.le_of_ble_eq_true rfl⟩ (fun G cx => ?_)
  show G (0, M) 0 [(0, .ref (ad 28)), (1, iV (x1)), (2, iV (x2))] []
  unfold fL_cost at h
  obtain ⟨U, e, h⟩ := ob h
  by_cases z : U.1 = 0
  · rw [if_pos z] at h
    cases h
    refine bx_aload_n cx 0 dL_cost_0 rfl rfl ?_
    refine bx_iload_n cx 1 dL_cost_1 rfl rfl ?_
    refine bx_iload_n cx 2 dL_cost_2 rfl rfl ?_
    refine bx_callC (As := [iV (x1), iV (x2)]) (n := 2) (st := []) cx (kX5_cost l ad M x1 x2 _ e z) (Nat.le_of_ble_eq_true rfl) gL_cost_X5_cost rfl ⟨rfl, rfl⟩ (by decide +kernel) rfl ⟨by decide, by decide⟩ rfl (Nat.le_of_ble_eq_true rfl) dL_cost_3 ?_
    exact bx_iret cx dL_cost_6 rfl (Nat.le_of_ble_eq_true rfl) ⟨rfl, rfl⟩
  · rw [if_neg z] at h
    cases h
set_option maxRecDepth 100000 in
set_option maxHeartbeats 4000000 in
theorem tL_cost_k (l : Launch) (hl : l.stackTraces = false) (ad : Nat → Nat) (M : Mem) (x1 : Int) (x2 : Int) (T : Int × Mem) (h : tL_cost M x1 x2 = some T) : HK l yL_cost wsL_cost rtL_cost ad [.ref (ad 28), iV (x1), iV (x2)] 1 M (some (iV (T.1))) T.2 := by
  refine HK.ofW (cc := cL_cost) (nL := 4) (rt := (some .int)) (own := RL) (hh := [(0, 6, 7, 13)]) (by decide +kernel) rfl rfl (Nat.le_of_ble_eq_true rfl) ⟨Nat.le_of_ble_eq_true rfl, Nat.le_of_ble_eq_true rfl⟩ (fun G cx => ?_)
  show G (0, M) 0 [(0, .ref (ad 28)), (1, iV (x1)), (2, iV (x2))] []
  unfold tL_cost at h
  obtain ⟨U, e, h⟩ := ob h
  obtain ⟨hT, h⟩ := gd_some h
  by_cases z : U.1 = 0
  · rw [if_pos z] at h
    cases h
    refine bx_aload_n cx 0 dL_cost_0 rfl rfl ?_
    refine bx_iload_n cx 1 dL_cost_1 rfl rfl ?_
    refine bx_iload_n cx 2 dL_cost_2 rfl rfl ?_
    refine bx_callC (As := [iV (x1), iV (x2)]) (n := 2) (st := []) cx (kX5_cost l ad M x1 x2 _ e z) (Nat.le_of_ble_eq_true rfl) gL_cost_X5_cost rfl ⟨rfl, rfl⟩ (by decide +kernel) rfl ⟨by decide, by decide⟩ rfl (Nat.le_of_ble_eq_true rfl) dL_cost_3 ?_
    exact bx_iret cx dL_cost_6 rfl (Nat.le_of_ble_eq_true rfl) ⟨rfl, rfl⟩
  · rw [if_neg z] at h
    cases h
    have e1 : U.1 = 2 := hT.resolve_left z
    have hx := xX5_cost l hl ad M x1 x2 _ e z
    rw [e1] at hx
    refine bx_aload_n cx 0 dL_cost_0 rfl rfl ?_
    refine bx_iload_n cx 1 dL_cost_1 rfl rfl ?_
    refine bx_iload_n cx 2 dL_cost_2 rfl rfl ?_
    refine bx_callX (As := [iV (x1), iV (x2)]) (n := 2) (st := []) (hp := 7) (ct := 1) (E := "java/lang/IllegalArgumentException") cx hx (Nat.le_of_ble_eq_true rfl) gL_cost_X5_cost rfl ⟨rfl, rfl⟩ (by decide +kernel) rfl ⟨by decide, by decide⟩ rfl (Nat.le_of_ble_eq_true rfl) dL_cost_3 [] ⟨0, 6, 7, 13⟩ [] (fun _ e => e) rfl (fun z hz => by cases hz) (fun h => absurd rfl h) (by decide) (by decide) hc_cost_0 (by decide +kernel) rfl (fun qq => ?_)
    refine bx_astore_n (lv' := [(3, .ref qq), (0, .ref (ad 28)), (1, iV (x1)), (2, iV (x2))]) cx dL_cost_7 rfl (by decide) rfl ?_
    refine bx_ldc (z := (-2000000002)) cx dL_cost_8 hk_cost_0 (by decide) ?_
    exact bx_iret cx dL_cost_10 rfl (Nat.le_of_ble_eq_true rfl) ⟨rfl, rfl⟩
def fL_lay (M : Mem) (x1 : Int) (x2 : Int) : Option (Int × Mem) := Option.bind (fX5_lay M x1 x2) (fun T => if T.1 = 0 then some (T.2.1, T.2.2) else none)
def tL_lay (M : Mem) (x1 : Int) (x2 : Int) : Option (Int × Mem) := Option.bind (fX5_lay M x1 x2) (fun T => gd (T.1 = 0 ∨ T.1 = 1 ∨ T.1 = 2) (if T.1 = 0 then some (T.2.1, T.2.2) else if T.1 = 1 then some ((-2000000001), T.2.2) else some ((-2000000002), T.2.2)))
abbrev rmL_lay : Room := { frames := 8, cells := 0, slots := 0, locals := 134 }
abbrev rtL_lay : Room := { frames := 8, cells := 1, slots := 6, locals := 134 }
theorem hc_lay_0 : Cond.classLink RL 19 "java/lang/IndexOutOfBoundsException" ∈ wsL_lay := by decide +kernel
theorem hk_lay_0 : Cond.constant RL 21 (-2000000001) ∈ wsL_lay := by decide +kernel
theorem hc_lay_1 : Cond.classLink RL 13 "java/lang/IllegalArgumentException" ∈ wsL_lay := by decide +kernel
theorem hk_lay_1 : Cond.constant RL 15 (-2000000002) ∈ wsL_lay := by decide +kernel
set_option maxRecDepth 100000 in
set_option maxHeartbeats 4000000 in
theorem kL_lay (l : Launch) (hl : l.stackTraces = false) (ad : Nat → Nat) (M : Mem) (x1 : Int) (x2 : Int) (T : Int × Mem) (h : fL_lay M x1 x2 = some T) : HK l yL_lay wsL_lay rmL_lay ad [.ref (ad 28), iV (x1), iV (x2)] 0 M (some (iV (T.1))) T.2 := by
  refine HK.ofW (cc := cL_lay) (nL := 4) (rt := (some .int)) (own := RL) (hh := [(0, 6, 7, 19), (0, 6, 11, 13)]) (by decide +kernel) rfl rfl (Nat.le_of_ble_eq_true rfl) ⟨Nat.le_of_ble_eq_true rfl, Nat.le_of_ble_eq_true rfl⟩ (fun G cx => ?_)
  show G (0, M) 0 [(0, .ref (ad 28)), (1, iV (x1)), (2, iV (x2))] []
  unfold fL_lay at h
  obtain ⟨U, e, h⟩ := ob h
  by_cases z : U.1 = 0
  · rw [if_pos z] at h
    cases h
    refine bx_aload_n cx 0 dL_lay_0 rfl rfl ?_
    refine bx_iload_n cx 1 dL_lay_1 rfl rfl ?_
    refine bx_iload_n cx 2 dL_lay_2 rfl rfl ?_
    refine bx_callC (As := [iV (x1), iV (x2)]) (n := 2) (st := []) cx (kX5_lay l ad M x1 x2 _ e z) (Nat.le_of_ble_eq_true rfl) gL_lay_X5_lay rfl ⟨rfl, rfl⟩ (by decide +kernel) rfl ⟨by decide, by decide⟩ rfl (Nat.le_of_ble_eq_true rfl) dL_lay_3 ?_
    exact bx_iret cx dL_lay_6 rfl (Nat.le_of_ble_eq_true rfl) ⟨rfl, rfl⟩
  · rw [if_neg z] at h
    cases h
set_option maxRecDepth 100000 in
set_option maxHeartbeats 4000000 in
theorem tL_lay_k (l : Launch) (hl : l.stackTraces = false) (ad : Nat → Nat) (M : Mem) (x1 : Int) (x2 : Int) (T : Int × Mem) (h : tL_lay M x1 x2 = some T) : HK l yL_lay wsL_lay rtL_lay ad [.ref (ad 28), iV (x1), iV (x2)] 1 M (some (iV (T.1))) T.2 := by
  refine HK.ofW (cc := cL_lay) (nL := 4) (rt := (some .int)) (own := RL) (hh := [(0, 6, 7, 19), (0, 6, 11, 13)]) (by decide +kernel) rfl rfl (Nat.le_of_ble_eq_true rfl) ⟨Nat.le_of_ble_eq_true rfl, Nat.le_of_ble_eq_true rfl⟩ (fun G cx => ?_)
  show G (0, M) 0 [(0, .ref (ad 28)), (1, iV (x1)), (2, iV (x2))] []
  unfold tL_lay at h
  obtain ⟨U, e, h⟩ := ob h
  obtain ⟨hT, h⟩ := gd_some h
  by_cases z : U.1 = 0
  · rw [if_pos z] at h
    cases h
    refine bx_aload_n cx 0 dL_lay_0 rfl rfl ?_
    refine bx_iload_n cx 1 dL_lay_1 rfl rfl ?_
    refine bx_iload_n cx 2 dL_lay_2 rfl rfl ?_
    refine bx_callC (As := [iV (x1), iV (x2)]) (n := 2) (st := []) cx (kX5_lay l ad M x1 x2 _ e z) (Nat.le_of_ble_eq_true rfl) gL_lay_X5_lay rfl ⟨rfl, rfl⟩ (by decide +kernel) rfl ⟨by decide, by decide⟩ rfl (Nat.le_of_ble_eq_true rfl) dL_lay_3 ?_
    exact bx_iret cx dL_lay_6 rfl (Nat.le_of_ble_eq_true rfl) ⟨rfl, rfl⟩
  · rw [if_neg z] at h
    rcases hT.resolve_left z with e1 | e1
    · rw [if_pos e1] at h
      cases h
      have hx := xX5_lay l hl ad M x1 x2 _ e z
      rw [e1] at hx
      refine bx_aload_n cx 0 dL_lay_0 rfl rfl ?_
      refine bx_iload_n cx 1 dL_lay_1 rfl rfl ?_
      refine bx_iload_n cx 2 dL_lay_2 rfl rfl ?_
      refine bx_callX (As := [iV (x1), iV (x2)]) (n := 2) (st := []) (hp := 7) (ct := 1) (E := "java/lang/IndexOutOfBoundsException") cx hx (Nat.le_of_ble_eq_true rfl) gL_lay_X5_lay rfl ⟨rfl, rfl⟩ (by decide +kernel) rfl ⟨by decide, by decide⟩ rfl (Nat.le_of_ble_eq_true rfl) dL_lay_3 [] ⟨0, 6, 7, 19⟩ [⟨0, 6, 11, 13⟩] (fun _ e => e) rfl (fun z hz => by cases hz) (fun h => absurd rfl h) (by decide) (by decide) hc_lay_0 (by decide +kernel) rfl (fun qq => ?_)
      refine bx_astore_n (lv' := [(3, .ref qq), (0, .ref (ad 28)), (1, iV (x1)), (2, iV (x2))]) cx dL_lay_7 rfl (by decide) rfl ?_
      refine bx_ldc (z := (-2000000001)) cx dL_lay_8 hk_lay_0 (by decide) ?_
      exact bx_iret cx dL_lay_10 rfl (Nat.le_of_ble_eq_true rfl) ⟨rfl, rfl⟩
    · rw [if_neg (by rw [e1]; decide)] at h
      cases h
      have hx := xX5_lay l hl ad M x1 x2 _ e z
      rw [e1] at hx
      refine bx_aload_n cx 0 dL_lay_0 rfl rfl ?_
      refine bx_iload_n cx 1 dL_lay_1 rfl rfl ?_
      refine bx_iload_n cx 2 dL_lay_2 rfl rfl ?_
      refine bx_callX (As := [iV (x1), iV (x2)]) (n := 2) (st := []) (hp := 11) (ct := 19) (E := "java/lang/IllegalArgumentException") cx hx (Nat.le_of_ble_eq_true rfl) gL_lay_X5_lay rfl ⟨rfl, rfl⟩ (by decide +kernel) rfl ⟨by decide, by decide⟩ rfl (Nat.le_of_ble_eq_true rfl) dL_lay_3 [⟨0, 6, 7, 19⟩] ⟨0, 6, 11, 13⟩ [] (fun _ e => e) rfl (fun z hz => by simp only [List.mem_cons, List.not_mem_nil, or_false] at hz; subst hz; exact ⟨rfl, by decide⟩) (fun _ => ⟨hc_lay_0, Or.inl rfl⟩) (by decide) (by decide) hc_lay_1 (by decide +kernel) rfl (fun qq => ?_)
      refine bx_astore_n (lv' := [(3, .ref qq), (0, .ref (ad 28)), (1, iV (x1)), (2, iV (x2))]) cx dL_lay_11 rfl (by decide) rfl ?_
      refine bx_ldc (z := (-2000000002)) cx dL_lay_12 hk_lay_1 (by decide) ?_
      exact bx_iret cx dL_lay_14 rfl (Nat.le_of_ble_eq_true rfl) ⟨rfl, rfl⟩
def fL_edge (M : Mem) (x1 : Int) : Option (Int) := Option.bind (fX5_edge M x1) (fun T => if T.1 = 0 then some (T.2.1) else none)
def tL_edge (M : Mem) (x1 : Int) : Option (Int) := Option.bind (fX5_edge M x1) (fun T => gd (T.1 = 0 ∨ T.1 = 1) (if T.1 = 0 then some (T.2.1) else some ((-2000000001))))
abbrev rmL_edge : Room := { frames := 8, cells := 0, slots := 0, locals := 131 }
abbrev rtL_edge : Room := { frames := 8, cells := 1, slots := 6, locals := 131 }
theorem hc_edge_0 : Cond.classLink RL 19 "java/lang/IndexOutOfBoundsException" ∈ wsL_edge := by decide +kernel
theorem hk_edge_0 : Cond.constant RL 21 (-2000000001) ∈ wsL_edge := by decide +kernel
set_option maxRecDepth 100000 in
set_option maxHeartbeats 4000000 in
theorem kL_edge (l : Launch) (hl : l.stackTraces = false) (ad : Nat → Nat) (M : Mem) (x1 : Int) (T : Int) (h : fL_edge M x1 = some T) : HK l yL_edge wsL_edge rmL_edge ad [.ref (ad 28), iV (x1)] 0 M (some (iV (T))) M := by
  refine HK.ofW (cc := cL_edge) (nL := 3) (rt := (some .int)) (own := RL) (hh := [(0, 5, 6, 19)]) (by decide +kernel) rfl rfl (Nat.le_of_ble_eq_true rfl) ⟨Nat.le_of_ble_eq_true rfl, Nat.le_of_ble_eq_true rfl⟩ (fun G cx => ?_)
  show G (0, M) 0 [(0, .ref (ad 28)), (1, iV (x1))] []
  unfold fL_edge at h
  obtain ⟨U, e, h⟩ := ob h
  by_cases z : U.1 = 0
  · rw [if_pos z] at h
    cases h
    refine bx_aload_n cx 0 dL_edge_0 rfl rfl ?_
    refine bx_iload_n cx 1 dL_edge_1 rfl rfl ?_
    refine bx_callC (As := [iV (x1)]) (n := 1) (st := []) cx (kX5_edge l ad M x1 _ e z) (Nat.le_of_ble_eq_true rfl) gL_edge_X5_edge rfl ⟨rfl, rfl⟩ (by decide +kernel) rfl ⟨by decide, by decide⟩ rfl (Nat.le_of_ble_eq_true rfl) dL_edge_2 ?_
    exact bx_iret cx dL_edge_5 rfl (Nat.le_of_ble_eq_true rfl) ⟨rfl, rfl⟩
  · rw [if_neg z] at h
    cases h
set_option maxRecDepth 100000 in
set_option maxHeartbeats 4000000 in
theorem tL_edge_k (l : Launch) (hl : l.stackTraces = false) (ad : Nat → Nat) (M : Mem) (x1 : Int) (T : Int) (h : tL_edge M x1 = some T) : HK l yL_edge wsL_edge rtL_edge ad [.ref (ad 28), iV (x1)] 1 M (some (iV (T))) M := by
  refine HK.ofW (cc := cL_edge) (nL := 3) (rt := (some .int)) (own := RL) (hh := [(0, 5, 6, 19)]) (by decide +kernel) rfl rfl (Nat.le_of_ble_eq_true rfl) ⟨Nat.le_of_ble_eq_true rfl, Nat.le_of_ble_eq_true rfl⟩ (fun G cx => ?_)
  show G (0, M) 0 [(0, .ref (ad 28)), (1, iV (x1))] []
  unfold tL_edge at h
  obtain ⟨U, e, h⟩ := ob h
  obtain ⟨hT, h⟩ := gd_some h
  by_cases z : U.1 = 0
  · rw [if_pos z] at h
    cases h
    refine bx_aload_n cx 0 dL_edge_0 rfl rfl ?_
    refine bx_iload_n cx 1 dL_edge_1 rfl rfl ?_
    refine bx_callC (As := [iV (x1)]) (n := 1) (st := []) cx (kX5_edge l ad M x1 _ e z) (Nat.le_of_ble_eq_true rfl) gL_edge_X5_edge rfl ⟨rfl, rfl⟩ (by decide +kernel) rfl ⟨by decide, by decide⟩ rfl (Nat.le_of_ble_eq_true rfl) dL_edge_2 ?_
    exact bx_iret cx dL_edge_5 rfl (Nat.le_of_ble_eq_true rfl) ⟨rfl, rfl⟩
  · rw [if_neg z] at h
    cases h
    have e1 : U.1 = 1 := hT.resolve_left z
    have hx := xX5_edge l hl ad M x1 _ e z
    rw [e1] at hx
    refine bx_aload_n cx 0 dL_edge_0 rfl rfl ?_
    refine bx_iload_n cx 1 dL_edge_1 rfl rfl ?_
    refine bx_callX (As := [iV (x1)]) (n := 1) (st := []) (hp := 6) (ct := 1) (E := "java/lang/IndexOutOfBoundsException") cx hx (Nat.le_of_ble_eq_true rfl) gL_edge_X5_edge rfl ⟨rfl, rfl⟩ (by decide +kernel) rfl ⟨by decide, by decide⟩ rfl (Nat.le_of_ble_eq_true rfl) dL_edge_2 [] ⟨0, 5, 6, 19⟩ [] (fun _ e => e) rfl (fun z hz => by cases hz) (fun h => absurd rfl h) (by decide) (by decide) hc_edge_0 (by decide +kernel) rfl (fun qq => ?_)
    refine bx_astore_n (lv' := [(2, .ref qq), (0, .ref (ad 28)), (1, iV (x1))]) cx dL_edge_6 rfl (by decide) rfl ?_
    refine bx_ldc (z := (-2000000001)) cx dL_edge_7 hk_edge_0 (by decide) ?_
    exact bx_iret cx dL_edge_9 rfl (Nat.le_of_ble_eq_true rfl) ⟨rfl, rfl⟩
def fL_apart (M : Mem) (x1 : Int) (x2 : Int) : Option (Int × Mem) := Option.bind (fX5_apart M x1 x2) (fun T => if T.1 = 0 then some (T.2.1, T.2.2) else none)
def tL_apart (M : Mem) (x1 : Int) (x2 : Int) : Option (Int × Mem) := Option.bind (fX5_apart M x1 x2) (fun T => gd (T.1 = 0 ∨ T.1 = 1) (if T.1 = 0 then some (T.2.1, T.2.2) else some ((-2000000001), T.2.2)))
abbrev rmL_apart : Room := { frames := 8, cells := 0, slots := 0, locals := 132 }
abbrev rtL_apart : Room := { frames := 8, cells := 1, slots := 6, locals := 132 }
theorem hc_apart_0 : Cond.classLink RL 19 "java/lang/IndexOutOfBoundsException" ∈ wsL_apart := by decide +kernel
theorem hk_apart_0 : Cond.constant RL 21 (-2000000001) ∈ wsL_apart := by decide +kernel
set_option maxRecDepth 100000 in
set_option maxHeartbeats 4000000 in
theorem kL_apart (l : Launch) (hl : l.stackTraces = false) (ad : Nat → Nat) (M : Mem) (x1 : Int) (x2 : Int) (T : Int × Mem) (h : fL_apart M x1 x2 = some T) : HK l yL_apart wsL_apart rmL_apart ad [.ref (ad 28), iV (x1), iV (x2)] 0 M (some (iV (T.1))) T.2 := by
  refine HK.ofW (cc := cL_apart) (nL := 4) (rt := (some .int)) (own := RL) (hh := [(0, 6, 7, 19)]) (by decide +kernel) rfl rfl (Nat.le_of_ble_eq_true rfl) ⟨Nat.le_of_ble_eq_true rfl, Nat.le_of_ble_eq_true rfl⟩ (fun G cx => ?_)
  show G (0, M) 0 [(0, .ref (ad 28)), (1, iV (x1)), (2, iV (x2))] []
  unfold fL_apart at h
  obtain ⟨U, e, h⟩ := ob h
  by_cases z : U.1 = 0
  · rw [if_pos z] at h
    cases h
    refine bx_aload_n cx 0 dL_apart_0 rfl rfl ?_
    refine bx_iload_n cx 1 dL_apart_1 rfl rfl ?_
    refine bx_iload_n cx 2 dL_apart_2 rfl rfl ?_
    refine bx_callC (As := [iV (x1), iV (x2)]) (n := 2) (st := []) cx (kX5_apart l ad M x1 x2 _ e z) (Nat.le_of_ble_eq_true rfl) gL_apart_X5_apart rfl ⟨rfl, rfl⟩ (by decide +kernel) rfl ⟨by decide, by decide⟩ rfl (Nat.le_of_ble_eq_true rfl) dL_apart_3 ?_
    exact bx_iret cx dL_apart_6 rfl (Nat.le_of_ble_eq_true rfl) ⟨rfl, rfl⟩
  · rw [if_neg z] at h
    cases h
set_option maxRecDepth 100000 in
set_option maxHeartbeats 4000000 in
theorem tL_apart_k (l : Launch) (hl : l.stackTraces = false) (ad : Nat → Nat) (M : Mem) (x1 : Int) (x2 : Int) (T : Int × Mem) (h : tL_apart M x1 x2 = some T) : HK l yL_apart wsL_apart rtL_apart ad [.ref (ad 28), iV (x1), iV (x2)] 1 M (some (iV (T.1))) T.2 := by
  refine HK.ofW (cc := cL_apart) (nL := 4) (rt := (some .int)) (own := RL) (hh := [(0, 6, 7, 19)]) (by decide +kernel) rfl rfl (Nat.le_of_ble_eq_true rfl) ⟨Nat.le_of_ble_eq_true rfl, Nat.le_of_ble_eq_true rfl⟩ (fun G cx => ?_)
  show G (0, M) 0 [(0, .ref (ad 28)), (1, iV (x1)), (2, iV (x2))] []
  unfold tL_apart at h
  obtain ⟨U, e, h⟩ := ob h
  obtain ⟨hT, h⟩ := gd_some h
  by_cases z : U.1 = 0
  · rw [if_pos z] at h
    cases h
    refine bx_aload_n cx 0 dL_apart_0 rfl rfl ?_
    refine bx_iload_n cx 1 dL_apart_1 rfl rfl ?_
    refine bx_iload_n cx 2 dL_apart_2 rfl rfl ?_
    refine bx_callC (As := [iV (x1), iV (x2)]) (n := 2) (st := []) cx (kX5_apart l ad M x1 x2 _ e z) (Nat.le_of_ble_eq_true rfl) gL_apart_X5_apart rfl ⟨rfl, rfl⟩ (by decide +kernel) rfl ⟨by decide, by decide⟩ rfl (Nat.le_of_ble_eq_true rfl) dL_apart_3 ?_
    exact bx_iret cx dL_apart_6 rfl (Nat.le_of_ble_eq_true rfl) ⟨rfl, rfl⟩
  · rw [if_neg z] at h
    cases h
    have e1 : U.1 = 1 := hT.resolve_left z
    have hx := xX5_apart l hl ad M x1 x2 _ e z
    rw [e1] at hx
    refine bx_aload_n cx 0 dL_apart_0 rfl rfl ?_
    refine bx_iload_n cx 1 dL_apart_1 rfl rfl ?_
    refine bx_iload_n cx 2 dL_apart_2 rfl rfl ?_
    refine bx_callX (As := [iV (x1), iV (x2)]) (n := 2) (st := []) (hp := 7) (ct := 1) (E := "java/lang/IndexOutOfBoundsException") cx hx (Nat.le_of_ble_eq_true rfl) gL_apart_X5_apart rfl ⟨rfl, rfl⟩ (by decide +kernel) rfl ⟨by decide, by decide⟩ rfl (Nat.le_of_ble_eq_true rfl) dL_apart_3 [] ⟨0, 6, 7, 19⟩ [] (fun _ e => e) rfl (fun z hz => by cases hz) (fun h => absurd rfl h) (by decide) (by decide) hc_apart_0 (by decide +kernel) rfl (fun qq => ?_)
    refine bx_astore_n (lv' := [(3, .ref qq), (0, .ref (ad 28)), (1, iV (x1)), (2, iV (x2))]) cx dL_apart_7 rfl (by decide) rfl ?_
    refine bx_ldc (z := (-2000000001)) cx dL_apart_8 hk_apart_0 (by decide) ?_
    exact bx_iret cx dL_apart_10 rfl (Nat.le_of_ble_eq_true rfl) ⟨rfl, rfl⟩
def fL_town (M : Mem) (x1 : Int) : Option (Int × Mem) := Option.bind (fX5_town M x1) (fun T => if T.1 = 0 then some (T.2.1, T.2.2) else none)
def tL_town (M : Mem) (x1 : Int) : Option (Int × Mem) := Option.bind (fX5_town M x1) (fun T => gd (T.1 = 0 ∨ T.1 = 1 ∨ T.1 = 3) (if T.1 = 0 then some (T.2.1, T.2.2) else if T.1 = 1 then some ((-2000000001), T.2.2) else some ((-2000000003), T.2.2)))
abbrev rmL_town : Room := { frames := 8, cells := 0, slots := 0, locals := 131 }
abbrev rtL_town : Room := { frames := 8, cells := 1, slots := 6, locals := 131 }
theorem hc_town_0 : Cond.classLink RL 19 "java/lang/IndexOutOfBoundsException" ∈ wsL_town := by decide +kernel
theorem hk_town_0 : Cond.constant RL 21 (-2000000001) ∈ wsL_town := by decide +kernel
theorem hc_town_1 : Cond.classLink RL 32 "java/lang/IllegalStateException" ∈ wsL_town := by decide +kernel
theorem hk_town_1 : Cond.constant RL 34 (-2000000003) ∈ wsL_town := by decide +kernel
set_option maxRecDepth 100000 in
set_option maxHeartbeats 4000000 in
theorem kL_town (l : Launch) (hl : l.stackTraces = false) (ad : Nat → Nat) (M : Mem) (x1 : Int) (T : Int × Mem) (h : fL_town M x1 = some T) : HK l yL_town wsL_town rmL_town ad [.ref (ad 28), iV (x1)] 0 M (some (iV (T.1))) T.2 := by
  refine HK.ofW (cc := cL_town) (nL := 3) (rt := (some .int)) (own := RL) (hh := [(0, 5, 6, 19), (0, 5, 10, 32)]) (by decide +kernel) rfl rfl (Nat.le_of_ble_eq_true rfl) ⟨Nat.le_of_ble_eq_true rfl, Nat.le_of_ble_eq_true rfl⟩ (fun G cx => ?_)
  show G (0, M) 0 [(0, .ref (ad 28)), (1, iV (x1))] []
  unfold fL_town at h
  obtain ⟨U, e, h⟩ := ob h
  by_cases z : U.1 = 0
  · rw [if_pos z] at h
    cases h
    refine bx_aload_n cx 0 dL_town_0 rfl rfl ?_
    refine bx_iload_n cx 1 dL_town_1 rfl rfl ?_
    refine bx_callC (As := [iV (x1)]) (n := 1) (st := []) cx (kX5_town l ad M x1 _ e z) (Nat.le_of_ble_eq_true rfl) gL_town_X5_town rfl ⟨rfl, rfl⟩ (by decide +kernel) rfl ⟨by decide, by decide⟩ rfl (Nat.le_of_ble_eq_true rfl) dL_town_2 ?_
    exact bx_iret cx dL_town_5 rfl (Nat.le_of_ble_eq_true rfl) ⟨rfl, rfl⟩
  · rw [if_neg z] at h
    cases h
set_option maxRecDepth 100000 in
set_option maxHeartbeats 4000000 in
theorem tL_town_k (l : Launch) (hl : l.stackTraces = false) (ad : Nat → Nat) (M : Mem) (x1 : Int) (T : Int × Mem) (h : tL_town M x1 = some T) : HK l yL_town wsL_town rtL_town ad [.ref (ad 28), iV (x1)] 1 M (some (iV (T.1))) T.2 := by
  refine HK.ofW (cc := cL_town) (nL := 3) (rt := (some .int)) (own := RL) (hh := [(0, 5, 6, 19), (0, 5, 10, 32)]) (by decide +kernel) rfl rfl (Nat.le_of_ble_eq_true rfl) ⟨Nat.le_of_ble_eq_true rfl, Nat.le_of_ble_eq_true rfl⟩ (fun G cx => ?_)
  show G (0, M) 0 [(0, .ref (ad 28)), (1, iV (x1))] []
  unfold tL_town at h
  obtain ⟨U, e, h⟩ := ob h
  obtain ⟨hT, h⟩ := gd_some h
  by_cases z : U.1 = 0
  · rw [if_pos z] at h
    cases h
    refine bx_aload_n cx 0 dL_town_0 rfl rfl ?_
    refine bx_iload_n cx 1 dL_town_1 rfl rfl ?_
    refine bx_callC (As := [iV (x1)]) (n := 1) (st := []) cx (kX5_town l ad M x1 _ e z) (Nat.le_of_ble_eq_true rfl) gL_town_X5_town rfl ⟨rfl, rfl⟩ (by decide +kernel) rfl ⟨by decide, by decide⟩ rfl (Nat.le_of_ble_eq_true rfl) dL_town_2 ?_
    exact bx_iret cx dL_town_5 rfl (Nat.le_of_ble_eq_true rfl) ⟨rfl, rfl⟩
  · rw [if_neg z] at h
    rcases hT.resolve_left z with e1 | e1
    · rw [if_pos e1] at h
      cases h
      have hx := xX5_town l hl ad M x1 _ e z
      rw [e1] at hx
      refine bx_aload_n cx 0 dL_town_0 rfl rfl ?_
      refine bx_iload_n cx 1 dL_town_1 rfl rfl ?_
      refine bx_callX (As := [iV (x1)]) (n := 1) (st := []) (hp := 6) (ct := 1) (E := "java/lang/IndexOutOfBoundsException") cx hx (Nat.le_of_ble_eq_true rfl) gL_town_X5_town rfl ⟨rfl, rfl⟩ (by decide +kernel) rfl ⟨by decide, by decide⟩ rfl (Nat.le_of_ble_eq_true rfl) dL_town_2 [] ⟨0, 5, 6, 19⟩ [⟨0, 5, 10, 32⟩] (fun _ e => e) rfl (fun z hz => by cases hz) (fun h => absurd rfl h) (by decide) (by decide) hc_town_0 (by decide +kernel) rfl (fun qq => ?_)
      refine bx_astore_n (lv' := [(2, .ref qq), (0, .ref (ad 28)), (1, iV (x1))]) cx dL_town_6 rfl (by decide) rfl ?_
      refine bx_ldc (z := (-2000000001)) cx dL_town_7 hk_town_0 (by decide) ?_
      exact bx_iret cx dL_town_9 rfl (Nat.le_of_ble_eq_true rfl) ⟨rfl, rfl⟩
    · rw [if_neg (by rw [e1]; decide)] at h
      cases h
      have hx := xX5_town l hl ad M x1 _ e z
      rw [e1] at hx
      refine bx_aload_n cx 0 dL_town_0 rfl rfl ?_
      refine bx_iload_n cx 1 dL_town_1 rfl rfl ?_
      refine bx_callX (As := [iV (x1)]) (n := 1) (st := []) (hp := 10) (ct := 19) (E := "java/lang/IllegalStateException") cx hx (Nat.le_of_ble_eq_true rfl) gL_town_X5_town rfl ⟨rfl, rfl⟩ (by decide +kernel) rfl ⟨by decide, by decide⟩ rfl (Nat.le_of_ble_eq_true rfl) dL_town_2 [⟨0, 5, 6, 19⟩] ⟨0, 5, 10, 32⟩ [] (fun _ e => e) rfl (fun z hz => by simp only [List.mem_cons, List.not_mem_nil, or_false] at hz; subst hz; exact ⟨rfl, by decide⟩) (fun _ => ⟨hc_town_0, Or.inr rfl⟩) (by decide) (by decide) hc_town_1 (by decide +kernel) rfl (fun qq => ?_)
      refine bx_astore_n (lv' := [(2, .ref qq), (0, .ref (ad 28)), (1, iV (x1))]) cx dL_town_10 rfl (by decide) rfl ?_
      refine bx_ldc (z := (-2000000003)) cx dL_town_11 hk_town_1 (by decide) ?_
      exact bx_iret cx dL_town_13 rfl (Nat.le_of_ble_eq_true rfl) ⟨rfl, rfl⟩
def fL_away (M : Mem) (x1 : Int) : Option (Int × Mem) := Option.bind (fX5_away M x1) (fun T => if T.1 = 0 then some (T.2.1, T.2.2) else none)
def tL_away (M : Mem) (x1 : Int) : Option (Int × Mem) := Option.bind (fX5_away M x1) (fun T => gd (T.1 = 0 ∨ T.1 = 1) (if T.1 = 0 then some (T.2.1, T.2.2) else some ((-2000000001), T.2.2)))
abbrev rmL_away : Room := { frames := 8, cells := 0, slots := 0, locals := 132 }
abbrev rtL_away : Room := { frames := 8, cells := 1, slots := 6, locals := 132 }
theorem hc_away_0 : Cond.classLink RL 19 "java/lang/IndexOutOfBoundsException" ∈ wsL_away := by decide +kernel
theorem hk_away_0 : Cond.constant RL 21 (-2000000001) ∈ wsL_away := by decide +kernel
set_option maxRecDepth 100000 in
set_option maxHeartbeats 4000000 in
theorem kL_away (l : Launch) (hl : l.stackTraces = false) (ad : Nat → Nat) (M : Mem) (x1 : Int) (T : Int × Mem) (h : fL_away M x1 = some T) : HK l yL_away wsL_away rmL_away ad [.ref (ad 28), iV (x1)] 0 M (some (iV (T.1))) T.2 := by
  refine HK.ofW (cc := cL_away) (nL := 3) (rt := (some .int)) (own := RL) (hh := [(0, 5, 6, 19)]) (by decide +kernel) rfl rfl (Nat.le_of_ble_eq_true rfl) ⟨Nat.le_of_ble_eq_true rfl, Nat.le_of_ble_eq_true rfl⟩ (fun G cx => ?_)
  show G (0, M) 0 [(0, .ref (ad 28)), (1, iV (x1))] []
  unfold fL_away at h
  obtain ⟨U, e, h⟩ := ob h
  by_cases z : U.1 = 0
  · rw [if_pos z] at h
    cases h
    refine bx_aload_n cx 0 dL_away_0 rfl rfl ?_
    refine bx_iload_n cx 1 dL_away_1 rfl rfl ?_
    refine bx_callC (As := [iV (x1)]) (n := 1) (st := []) cx (kX5_away l ad M x1 _ e z) (Nat.le_of_ble_eq_true rfl) gL_away_X5_away rfl ⟨rfl, rfl⟩ (by decide +kernel) rfl ⟨by decide, by decide⟩ rfl (Nat.le_of_ble_eq_true rfl) dL_away_2 ?_
    exact bx_iret cx dL_away_5 rfl (Nat.le_of_ble_eq_true rfl) ⟨rfl, rfl⟩
  · rw [if_neg z] at h
    cases h
set_option maxRecDepth 100000 in
set_option maxHeartbeats 4000000 in
theorem tL_away_k (l : Launch) (hl : l.stackTraces = false) (ad : Nat → Nat) (M : Mem) (x1 : Int) (T : Int × Mem) (h : tL_away M x1 = some T) : HK l yL_away wsL_away rtL_away ad [.ref (ad 28), iV (x1)] 1 M (some (iV (T.1))) T.2 := by
  refine HK.ofW (cc := cL_away) (nL := 3) (rt := (some .int)) (own := RL) (hh := [(0, 5, 6, 19)]) (by decide +kernel) rfl rfl (Nat.le_of_ble_eq_true rfl) ⟨Nat.le_of_ble_eq_true rfl, Nat.le_of_ble_eq_true rfl⟩ (fun G cx => ?_)
  show G (0, M) 0 [(0, .ref (ad 28)), (1, iV (x1))] []
  unfold tL_away at h
  obtain ⟨U, e, h⟩ := ob h
  obtain ⟨hT, h⟩ := gd_some h
  by_cases z : U.1 = 0
  · rw [if_pos z] at h
    cases h
    refine bx_aload_n cx 0 dL_away_0 rfl rfl ?_
    refine bx_iload_n cx 1 dL_away_1 rfl rfl ?_
    refine bx_callC (As := [iV (x1)]) (n := 1) (st := []) cx (kX5_away l ad M x1 _ e z) (Nat.le_of_ble_eq_true rfl) gL_away_X5_away rfl ⟨rfl, rfl⟩ (by decide +kernel) rfl ⟨by decide, by decide⟩ rfl (Nat.le_of_ble_eq_true rfl) dL_away_2 ?_
    exact bx_iret cx dL_away_5 rfl (Nat.le_of_ble_eq_true rfl) ⟨rfl, rfl⟩
  · rw [if_neg z] at h
    cases h
    have e1 : U.1 = 1 := hT.resolve_left z
    have hx := xX5_away l hl ad M x1 _ e z
    rw [e1] at hx
    refine bx_aload_n cx 0 dL_away_0 rfl rfl ?_
    refine bx_iload_n cx 1 dL_away_1 rfl rfl ?_
    refine bx_callX (As := [iV (x1)]) (n := 1) (st := []) (hp := 6) (ct := 1) (E := "java/lang/IndexOutOfBoundsException") cx hx (Nat.le_of_ble_eq_true rfl) gL_away_X5_away rfl ⟨rfl, rfl⟩ (by decide +kernel) rfl ⟨by decide, by decide⟩ rfl (Nat.le_of_ble_eq_true rfl) dL_away_2 [] ⟨0, 5, 6, 19⟩ [] (fun _ e => e) rfl (fun z hz => by cases hz) (fun h => absurd rfl h) (by decide) (by decide) hc_away_0 (by decide +kernel) rfl (fun qq => ?_)
    refine bx_astore_n (lv' := [(2, .ref qq), (0, .ref (ad 28)), (1, iV (x1))]) cx dL_away_6 rfl (by decide) rfl ?_
    refine bx_ldc (z := (-2000000001)) cx dL_away_7 hk_away_0 (by decide) ?_
    exact bx_iret cx dL_away_9 rfl (Nat.le_of_ble_eq_true rfl) ⟨rfl, rfl⟩
def fL_townAt (M : Mem) (x1 : Int) : Option (Int) := Option.bind (fX5_townAt M x1) (fun T => if T.1 = 0 then some (T.2.1) else none)
def tL_townAt (M : Mem) (x1 : Int) : Option (Int) := Option.bind (fX5_townAt M x1) (fun T => gd (T.1 = 0 ∨ T.1 = 1) (if T.1 = 0 then some (T.2.1) else some ((-2000000001))))
abbrev rmL_townAt : Room := { frames := 8, cells := 0, slots := 0, locals := 132 }
abbrev rtL_townAt : Room := { frames := 8, cells := 1, slots := 6, locals := 132 }
theorem hc_townAt_0 : Cond.classLink RL 19 "java/lang/IndexOutOfBoundsException" ∈ wsL_townAt := by decide +kernel
theorem hk_townAt_0 : Cond.constant RL 21 (-2000000001) ∈ wsL_townAt := by decide +kernel
set_option maxRecDepth 100000 in
set_option maxHeartbeats 4000000 in
theorem kL_townAt (l : Launch) (hl : l.stackTraces = false) (ad : Nat → Nat) (M : Mem) (x1 : Int) (T : Int) (h : fL_townAt M x1 = some T) : HK l yL_townAt wsL_townAt rmL_townAt ad [.ref (ad 28), iV (x1)] 0 M (some (iV (T))) M := by
  refine HK.ofW (cc := cL_townAt) (nL := 3) (rt := (some .int)) (own := RL) (hh := [(0, 5, 6, 19)]) (by decide +kernel) rfl rfl (Nat.le_of_ble_eq_true rfl) ⟨Nat.le_of_ble_eq_true rfl, Nat.le_of_ble_eq_true rfl⟩ (fun G cx => ?_)
  show G (0, M) 0 [(0, .ref (ad 28)), (1, iV (x1))] []
  unfold fL_townAt at h
  obtain ⟨U, e, h⟩ := ob h
  by_cases z : U.1 = 0
  · rw [if_pos z] at h
    cases h
    refine bx_aload_n cx 0 dL_townAt_0 rfl rfl ?_
    refine bx_iload_n cx 1 dL_townAt_1 rfl rfl ?_
    refine bx_callC (As := [iV (x1)]) (n := 1) (st := []) cx (kX5_townAt l ad M x1 _ e z) (Nat.le_of_ble_eq_true rfl) gL_townAt_X5_townAt rfl ⟨rfl, rfl⟩ (by decide +kernel) rfl ⟨by decide, by decide⟩ rfl (Nat.le_of_ble_eq_true rfl) dL_townAt_2 ?_
    exact bx_iret cx dL_townAt_5 rfl (Nat.le_of_ble_eq_true rfl) ⟨rfl, rfl⟩
  · rw [if_neg z] at h
    cases h
set_option maxRecDepth 100000 in
set_option maxHeartbeats 4000000 in
theorem tL_townAt_k (l : Launch) (hl : l.stackTraces = false) (ad : Nat → Nat) (M : Mem) (x1 : Int) (T : Int) (h : tL_townAt M x1 = some T) : HK l yL_townAt wsL_townAt rtL_townAt ad [.ref (ad 28), iV (x1)] 1 M (some (iV (T))) M := by
  refine HK.ofW (cc := cL_townAt) (nL := 3) (rt := (some .int)) (own := RL) (hh := [(0, 5, 6, 19)]) (by decide +kernel) rfl rfl (Nat.le_of_ble_eq_true rfl) ⟨Nat.le_of_ble_eq_true rfl, Nat.le_of_ble_eq_true rfl⟩ (fun G cx => ?_)
  show G (0, M) 0 [(0, .ref (ad 28)), (1, iV (x1))] []
  unfold tL_townAt at h
  obtain ⟨U, e, h⟩ := ob h
  obtain ⟨hT, h⟩ := gd_some h
  by_cases z : U.1 = 0
  · rw [if_pos z] at h
    cases h
    refine bx_aload_n cx 0 dL_townAt_0 rfl rfl ?_
    refine bx_iload_n cx 1 dL_townAt_1 rfl rfl ?_
    refine bx_callC (As := [iV (x1)]) (n := 1) (st := []) cx (kX5_townAt l ad M x1 _ e z) (Nat.le_of_ble_eq_true rfl) gL_townAt_X5_townAt rfl ⟨rfl, rfl⟩ (by decide +kernel) rfl ⟨by decide, by decide⟩ rfl (Nat.le_of_ble_eq_true rfl) dL_townAt_2 ?_
    exact bx_iret cx dL_townAt_5 rfl (Nat.le_of_ble_eq_true rfl) ⟨rfl, rfl⟩
  · rw [if_neg z] at h
    cases h
    have e1 : U.1 = 1 := hT.resolve_left z
    have hx := xX5_townAt l hl ad M x1 _ e z
    rw [e1] at hx
    refine bx_aload_n cx 0 dL_townAt_0 rfl rfl ?_
    refine bx_iload_n cx 1 dL_townAt_1 rfl rfl ?_
    refine bx_callX (As := [iV (x1)]) (n := 1) (st := []) (hp := 6) (ct := 1) (E := "java/lang/IndexOutOfBoundsException") cx hx (Nat.le_of_ble_eq_true rfl) gL_townAt_X5_townAt rfl ⟨rfl, rfl⟩ (by decide +kernel) rfl ⟨by decide, by decide⟩ rfl (Nat.le_of_ble_eq_true rfl) dL_townAt_2 [] ⟨0, 5, 6, 19⟩ [] (fun _ e => e) rfl (fun z hz => by cases hz) (fun h => absurd rfl h) (by decide) (by decide) hc_townAt_0 (by decide +kernel) rfl (fun qq => ?_)
    refine bx_astore_n (lv' := [(2, .ref qq), (0, .ref (ad 28)), (1, iV (x1))]) cx dL_townAt_6 rfl (by decide) rfl ?_
    refine bx_ldc (z := (-2000000001)) cx dL_townAt_7 hk_townAt_0 (by decide) ?_
    exact bx_iret cx dL_townAt_9 rfl (Nat.le_of_ble_eq_true rfl) ⟨rfl, rfl⟩
def fL_isUsed (M : Mem) (x1 : Int) : Option (Int × Mem) := Option.bind (fX5_isUsed M x1) (fun T => if T.1 = 0 then gd (inR T.2.1) (some ((if T.2.1 = 0 then 0 else 1), T.2.2)) else none)
def tL_isUsed (M : Mem) (x1 : Int) : Option (Int × Mem) := Option.bind (fX5_isUsed M x1) (fun T => gd (T.1 = 0 ∨ T.1 = 1) (if T.1 = 0 then gd (inR T.2.1) (some ((if T.2.1 = 0 then 0 else 1), T.2.2)) else some ((-2000000001), T.2.2)))
abbrev rmL_isUsed : Room := { frames := 8, cells := 0, slots := 0, locals := 147 }
abbrev rtL_isUsed : Room := { frames := 8, cells := 1, slots := 6, locals := 147 }
theorem hc_isUsed_0 : Cond.classLink RL 19 "java/lang/IndexOutOfBoundsException" ∈ wsL_isUsed := by decide +kernel
theorem hk_isUsed_0 : Cond.constant RL 21 (-2000000001) ∈ wsL_isUsed := by decide +kernel
set_option maxRecDepth 100000 in
set_option maxHeartbeats 4000000 in
theorem kL_isUsed (l : Launch) (hl : l.stackTraces = false) (ad : Nat → Nat) (M : Mem) (x1 : Int) (T : Int × Mem) (h : fL_isUsed M x1 = some T) : HK l yL_isUsed wsL_isUsed rmL_isUsed ad [.ref (ad 28), iV (x1)] 0 M (some (iV (T.1))) T.2 := by
  refine HK.ofW (cc := cL_isUsed) (nL := 3) (rt := (some .int)) (own := RL) (hh := [(0, 13, 14, 19)]) (by decide +kernel) rfl rfl (Nat.le_of_ble_eq_true rfl) ⟨Nat.le_of_ble_eq_true rfl, Nat.le_of_ble_eq_true rfl⟩ (fun G cx => ?_)
  show G (0, M) 0 [(0, .ref (ad 28)), (1, iV (x1))] []
  unfold fL_isUsed at h
  obtain ⟨U, e, h⟩ := ob h
  by_cases z : U.1 = 0
  · rw [if_pos z] at h
    obtain ⟨g, h⟩ := gd_some h
    cases h
    refine bx_aload_n cx 0 dL_isUsed_0 rfl rfl ?_
    refine bx_iload_n cx 1 dL_isUsed_1 rfl rfl ?_
    refine bx_callC (As := [iV (x1)]) (n := 1) (st := []) cx (kX5_isUsed l ad M x1 _ e z) (Nat.le_of_ble_eq_true rfl) gL_isUsed_X5_isUsed rfl ⟨rfl, rfl⟩ (by decide +kernel) rfl ⟨by decide, by decide⟩ rfl (Nat.le_of_ble_eq_true rfl) dL_isUsed_2 ?_
    refine bx_if_eq cx 12 dL_isUsed_5 (by decide) g (fun c => ?_) (fun c => ?_)
    · refine bx_iconst cx dL_isUsed_12 ?_
      exact bx_iret cx dL_isUsed_13 rfl (Nat.le_of_ble_eq_true rfl) ⟨by rw [if_pos c], rfl⟩
    · refine bx_iconst cx dL_isUsed_8 ?_
      refine bx_goto cx 13 dL_isUsed_9 (by decide) ?_
      exact bx_iret cx dL_isUsed_13 rfl (Nat.le_of_ble_eq_true rfl) ⟨by rw [if_neg c], rfl⟩
  · rw [if_neg z] at h
    cases h
set_option maxRecDepth 100000 in
set_option maxHeartbeats 4000000 in
theorem tL_isUsed_k (l : Launch) (hl : l.stackTraces = false) (ad : Nat → Nat) (M : Mem) (x1 : Int) (T : Int × Mem) (h : tL_isUsed M x1 = some T) : HK l yL_isUsed wsL_isUsed rtL_isUsed ad [.ref (ad 28), iV (x1)] 1 M (some (iV (T.1))) T.2 := by
  refine HK.ofW (cc := cL_isUsed) (nL := 3) (rt := (some .int)) (own := RL) (hh := [(0, 13, 14, 19)]) (by decide +kernel) rfl rfl (Nat.le_of_ble_eq_true rfl) ⟨Nat.le_of_ble_eq_true rfl, Nat.le_of_ble_eq_true rfl⟩ (fun G cx => ?_)
  show G (0, M) 0 [(0, .ref (ad 28)), (1, iV (x1))] []
  unfold tL_isUsed at h
  obtain ⟨U, e, h⟩ := ob h
  obtain ⟨hT, h⟩ := gd_some h
  by_cases z : U.1 = 0
  · rw [if_pos z] at h
    obtain ⟨g, h⟩ := gd_some h
    cases h
    refine bx_aload_n cx 0 dL_isUsed_0 rfl rfl ?_
    refine bx_iload_n cx 1 dL_isUsed_1 rfl rfl ?_
    refine bx_callC (As := [iV (x1)]) (n := 1) (st := []) cx (kX5_isUsed l ad M x1 _ e z) (Nat.le_of_ble_eq_true rfl) gL_isUsed_X5_isUsed rfl ⟨rfl, rfl⟩ (by decide +kernel) rfl ⟨by decide, by decide⟩ rfl (Nat.le_of_ble_eq_true rfl) dL_isUsed_2 ?_
    refine bx_if_eq cx 12 dL_isUsed_5 (by decide) g (fun c => ?_) (fun c => ?_)
    · refine bx_iconst cx dL_isUsed_12 ?_
      exact bx_iret cx dL_isUsed_13 rfl (Nat.le_of_ble_eq_true rfl) ⟨by rw [if_pos c], rfl⟩
    · refine bx_iconst cx dL_isUsed_8 ?_
      refine bx_goto cx 13 dL_isUsed_9 (by decide) ?_
      exact bx_iret cx dL_isUsed_13 rfl (Nat.le_of_ble_eq_true rfl) ⟨by rw [if_neg c], rfl⟩
  · rw [if_neg z] at h
    cases h
    have e1 : U.1 = 1 := hT.resolve_left z
    have hx := xX5_isUsed l hl ad M x1 _ e z
    rw [e1] at hx
    refine bx_aload_n cx 0 dL_isUsed_0 rfl rfl ?_
    refine bx_iload_n cx 1 dL_isUsed_1 rfl rfl ?_
    refine bx_callX (As := [iV (x1)]) (n := 1) (st := []) (hp := 14) (ct := 1) (E := "java/lang/IndexOutOfBoundsException") cx hx (Nat.le_of_ble_eq_true rfl) gL_isUsed_X5_isUsed rfl ⟨rfl, rfl⟩ (by decide +kernel) rfl ⟨by decide, by decide⟩ rfl (Nat.le_of_ble_eq_true rfl) dL_isUsed_2 [] ⟨0, 13, 14, 19⟩ [] (fun _ e => e) rfl (fun z hz => by cases hz) (fun h => absurd rfl h) (by decide) (by decide) hc_isUsed_0 (by decide +kernel) rfl (fun qq => ?_)
    refine bx_astore_n (lv' := [(2, .ref qq), (0, .ref (ad 28)), (1, iV (x1))]) cx dL_isUsed_14 rfl (by decide) rfl ?_
    refine bx_ldc (z := (-2000000001)) cx dL_isUsed_15 hk_isUsed_0 (by decide) ?_
    exact bx_iret cx dL_isUsed_17 rfl (Nat.le_of_ble_eq_true rfl) ⟨rfl, rfl⟩
def fL_twoWays (M : Mem) (x1 : Int) (x2 : Int) : Option (Int × Mem) := Option.bind (fX5_twoWays M x1 x2) (fun T => if T.1 = 0 then some (T.2.1, T.2.2) else none)
def tL_twoWays (M : Mem) (x1 : Int) (x2 : Int) : Option (Int × Mem) := Option.bind (fX5_twoWays M x1 x2) (fun T => gd (T.1 = 0 ∨ T.1 = 1 ∨ T.1 = 2) (if T.1 = 0 then some (T.2.1, T.2.2) else if T.1 = 1 then some ((-2000000001), T.2.2) else some ((-2000000002), T.2.2)))
abbrev rmL_twoWays : Room := { frames := 8, cells := 0, slots := 0, locals := 144 }
abbrev rtL_twoWays : Room := { frames := 8, cells := 1, slots := 6, locals := 144 }
theorem hc_twoWays_0 : Cond.classLink RL 19 "java/lang/IndexOutOfBoundsException" ∈ wsL_twoWays := by decide +kernel
theorem hk_twoWays_0 : Cond.constant RL 21 (-2000000001) ∈ wsL_twoWays := by decide +kernel
theorem hc_twoWays_1 : Cond.classLink RL 13 "java/lang/IllegalArgumentException" ∈ wsL_twoWays := by decide +kernel
theorem hk_twoWays_1 : Cond.constant RL 15 (-2000000002) ∈ wsL_twoWays := by decide +kernel
set_option maxRecDepth 100000 in
set_option maxHeartbeats 4000000 in
theorem kL_twoWays (l : Launch) (hl : l.stackTraces = false) (ad : Nat → Nat) (M : Mem) (x1 : Int) (x2 : Int) (T : Int × Mem) (h : fL_twoWays M x1 x2 = some T) : HK l yL_twoWays wsL_twoWays rmL_twoWays ad [.ref (ad 28), iV (x1), iV (x2)] 0 M (some (iV (T.1))) T.2 := by
  refine HK.ofW (cc := cL_twoWays) (nL := 4) (rt := (some .int)) (own := RL) (hh := [(0, 6, 7, 19), (0, 6, 11, 13)]) (by decide +kernel) rfl rfl (Nat.le_of_ble_eq_true rfl) ⟨Nat.le_of_ble_eq_true rfl, Nat.le_of_ble_eq_true rfl⟩ (fun G cx => ?_)
  show G (0, M) 0 [(0, .ref (ad 28)), (1, iV (x1)), (2, iV (x2))] []
  unfold fL_twoWays at h
  obtain ⟨U, e, h⟩ := ob h
  by_cases z : U.1 = 0
  · rw [if_pos z] at h
    cases h
    refine bx_aload_n cx 0 dL_twoWays_0 rfl rfl ?_
    refine bx_iload_n cx 1 dL_twoWays_1 rfl rfl ?_
    refine bx_iload_n cx 2 dL_twoWays_2 rfl rfl ?_
    refine bx_callC (As := [iV (x1), iV (x2)]) (n := 2) (st := []) cx (kX5_twoWays l ad M x1 x2 _ e z) (Nat.le_of_ble_eq_true rfl) gL_twoWays_X5_twoWays rfl ⟨rfl, rfl⟩ (by decide +kernel) rfl ⟨by decide, by decide⟩ rfl (Nat.le_of_ble_eq_true rfl) dL_twoWays_3 ?_
    exact bx_iret cx dL_twoWays_6 rfl (Nat.le_of_ble_eq_true rfl) ⟨rfl, rfl⟩
  · rw [if_neg z] at h
    cases h
set_option maxRecDepth 100000 in
set_option maxHeartbeats 4000000 in
theorem tL_twoWays_k (l : Launch) (hl : l.stackTraces = false) (ad : Nat → Nat) (M : Mem) (x1 : Int) (x2 : Int) (T : Int × Mem) (h : tL_twoWays M x1 x2 = some T) : HK l yL_twoWays wsL_twoWays rtL_twoWays ad [.ref (ad 28), iV (x1), iV (x2)] 1 M (some (iV (T.1))) T.2 := by
  refine HK.ofW (cc := cL_twoWays) (nL := 4) (rt := (some .int)) (own := RL) (hh := [(0, 6, 7, 19), (0, 6, 11, 13)]) (by decide +kernel) rfl rfl (Nat.le_of_ble_eq_true rfl) ⟨Nat.le_of_ble_eq_true rfl, Nat.le_of_ble_eq_true rfl⟩ (fun G cx => ?_)
  show G (0, M) 0 [(0, .ref (ad 28)), (1, iV (x1)), (2, iV (x2))] []
  unfold tL_twoWays at h
  obtain ⟨U, e, h⟩ := ob h
  obtain ⟨hT, h⟩ := gd_some h
  by_cases z : U.1 = 0
  · rw [if_pos z] at h
    cases h
    refine bx_aload_n cx 0 dL_twoWays_0 rfl rfl ?_
    refine bx_iload_n cx 1 dL_twoWays_1 rfl rfl ?_
    refine bx_iload_n cx 2 dL_twoWays_2 rfl rfl ?_
    refine bx_callC (As := [iV (x1), iV (x2)]) (n := 2) (st := []) cx (kX5_twoWays l ad M x1 x2 _ e z) (Nat.le_of_ble_eq_true rfl) gL_twoWays_X5_twoWays rfl ⟨rfl, rfl⟩ (by decide +kernel) rfl ⟨by decide, by decide⟩ rfl (Nat.le_of_ble_eq_true rfl) dL_twoWays_3 ?_
    exact bx_iret cx dL_twoWays_6 rfl (Nat.le_of_ble_eq_true rfl) ⟨rfl, rfl⟩
  · rw [if_neg z] at h
    rcases hT.resolve_left z with e1 | e1
    · rw [if_pos e1] at h
      cases h
      have hx := xX5_twoWays l hl ad M x1 x2 _ e z
      rw [e1] at hx
      refine bx_aload_n cx 0 dL_twoWays_0 rfl rfl ?_
      refine bx_iload_n cx 1 dL_twoWays_1 rfl rfl ?_
      refine bx_iload_n cx 2 dL_twoWays_2 rfl rfl ?_
      refine bx_callX (As := [iV (x1), iV (x2)]) (n := 2) (st := []) (hp := 7) (ct := 1) (E := "java/lang/IndexOutOfBoundsException") cx hx (Nat.le_of_ble_eq_true rfl) gL_twoWays_X5_twoWays rfl ⟨rfl, rfl⟩ (by decide +kernel) rfl ⟨by decide, by decide⟩ rfl (Nat.le_of_ble_eq_true rfl) dL_twoWays_3 [] ⟨0, 6, 7, 19⟩ [⟨0, 6, 11, 13⟩] (fun _ e => e) rfl (fun z hz => by cases hz) (fun h => absurd rfl h) (by decide) (by decide) hc_twoWays_0 (by decide +kernel) rfl (fun qq => ?_)
      refine bx_astore_n (lv' := [(3, .ref qq), (0, .ref (ad 28)), (1, iV (x1)), (2, iV (x2))]) cx dL_twoWays_7 rfl (by decide) rfl ?_
      refine bx_ldc (z := (-2000000001)) cx dL_twoWays_8 hk_twoWays_0 (by decide) ?_
      exact bx_iret cx dL_twoWays_10 rfl (Nat.le_of_ble_eq_true rfl) ⟨rfl, rfl⟩
    · rw [if_neg (by rw [e1]; decide)] at h
      cases h
      have hx := xX5_twoWays l hl ad M x1 x2 _ e z
      rw [e1] at hx
      refine bx_aload_n cx 0 dL_twoWays_0 rfl rfl ?_
      refine bx_iload_n cx 1 dL_twoWays_1 rfl rfl ?_
      refine bx_iload_n cx 2 dL_twoWays_2 rfl rfl ?_
      refine bx_callX (As := [iV (x1), iV (x2)]) (n := 2) (st := []) (hp := 11) (ct := 19) (E := "java/lang/IllegalArgumentException") cx hx (Nat.le_of_ble_eq_true rfl) gL_twoWays_X5_twoWays rfl ⟨rfl, rfl⟩ (by decide +kernel) rfl ⟨by decide, by decide⟩ rfl (Nat.le_of_ble_eq_true rfl) dL_twoWays_3 [⟨0, 6, 7, 19⟩] ⟨0, 6, 11, 13⟩ [] (fun _ e => e) rfl (fun z hz => by simp only [List.mem_cons, List.not_mem_nil, or_false] at hz; subst hz; exact ⟨rfl, by decide⟩) (fun _ => ⟨hc_twoWays_0, Or.inl rfl⟩) (by decide) (by decide) hc_twoWays_1 (by decide +kernel) rfl (fun qq => ?_)
      refine bx_astore_n (lv' := [(3, .ref qq), (0, .ref (ad 28)), (1, iV (x1)), (2, iV (x2))]) cx dL_twoWays_11 rfl (by decide) rfl ?_
      refine bx_ldc (z := (-2000000002)) cx dL_twoWays_12 hk_twoWays_1 (by decide) ?_
      exact bx_iret cx dL_twoWays_14 rfl (Nat.le_of_ble_eq_true rfl) ⟨rfl, rfl⟩
def fL_pin (M : Mem) (x1 : Int) (x2 : Int) : Option (Int × Mem) := Option.bind (fX5_pin M x1 x2) (fun T => if T.1 = 0 then some (T.2.1, T.2.2) else none)
def tL_pin (M : Mem) (x1 : Int) (x2 : Int) : Option (Int × Mem) := Option.bind (fX5_pin M x1 x2) (fun T => gd (T.1 = 0 ∨ T.1 = 1 ∨ T.1 = 2) (if T.1 = 0 then some (T.2.1, T.2.2) else if T.1 = 1 then some ((-2000000001), T.2.2) else some ((-2000000002), T.2.2)))
abbrev rmL_pin : Room := { frames := 8, cells := 0, slots := 0, locals := 132 }
abbrev rtL_pin : Room := { frames := 8, cells := 1, slots := 6, locals := 132 }
theorem hc_pin_0 : Cond.classLink RL 19 "java/lang/IndexOutOfBoundsException" ∈ wsL_pin := by decide +kernel
theorem hk_pin_0 : Cond.constant RL 21 (-2000000001) ∈ wsL_pin := by decide +kernel
theorem hc_pin_1 : Cond.classLink RL 13 "java/lang/IllegalArgumentException" ∈ wsL_pin := by decide +kernel
theorem hk_pin_1 : Cond.constant RL 15 (-2000000002) ∈ wsL_pin := by decide +kernel
set_option maxRecDepth 100000 in
set_option maxHeartbeats 4000000 in
theorem kL_pin (l : Launch) (hl : l.stackTraces = false) (ad : Nat → Nat) (M : Mem) (x1 : Int) (x2 : Int) (T : Int × Mem) (h : fL_pin M x1 x2 = some T) : HK l yL_pin wsL_pin rmL_pin ad [.ref (ad 28), iV (x1), iV (x2)] 0 M (some (iV (T.1))) T.2 := by
  refine HK.ofW (cc := cL_pin) (nL := 4) (rt := (some .int)) (own := RL) (hh := [(0, 6, 7, 19), (0, 6, 11, 13)]) (by decide +kernel) rfl rfl (Nat.le_of_ble_eq_true rfl) ⟨Nat.le_of_ble_eq_true rfl, Nat.le_of_ble_eq_true rfl⟩ (fun G cx => ?_)
  show G (0, M) 0 [(0, .ref (ad 28)), (1, iV (x1)), (2, iV (x2))] []
  unfold fL_pin at h
  obtain ⟨U, e, h⟩ := ob h
  by_cases z : U.1 = 0
  · rw [if_pos z] at h
    cases h
    refine bx_aload_n cx 0 dL_pin_0 rfl rfl ?_
    refine bx_iload_n cx 1 dL_pin_1 rfl rfl ?_
    refine bx_iload_n cx 2 dL_pin_2 rfl rfl ?_
    refine bx_callC (As := [iV (x1), iV (x2)]) (n := 2) (st := []) cx (kX5_pin l ad M x1 x2 _ e z) (Nat.le_of_ble_eq_true rfl) gL_pin_X5_pin rfl ⟨rfl, rfl⟩ (by decide +kernel) rfl ⟨by decide, by decide⟩ rfl (Nat.le_of_ble_eq_true rfl) dL_pin_3 ?_
    exact bx_iret cx dL_pin_6 rfl (Nat.le_of_ble_eq_true rfl) ⟨rfl, rfl⟩
  · rw [if_neg z] at h
    cases h
set_option maxRecDepth 100000 in
set_option maxHeartbeats 4000000 in
theorem tL_pin_k (l : Launch) (hl : l.stackTraces = false) (ad : Nat → Nat) (M : Mem) (x1 : Int) (x2 : Int) (T : Int × Mem) (h : tL_pin M x1 x2 = some T) : HK l yL_pin wsL_pin rtL_pin ad [.ref (ad 28), iV (x1), iV (x2)] 1 M (some (iV (T.1))) T.2 := by
  refine HK.ofW (cc := cL_pin) (nL := 4) (rt := (some .int)) (own := RL) (hh := [(0, 6, 7, 19), (0, 6, 11, 13)]) (by decide +kernel) rfl rfl (Nat.le_of_ble_eq_true rfl) ⟨Nat.le_of_ble_eq_true rfl, Nat.le_of_ble_eq_true rfl⟩ (fun G cx => ?_)
  show G (0, M) 0 [(0, .ref (ad 28)), (1, iV (x1)), (2, iV (x2))] []
  unfold tL_pin at h
  obtain ⟨U, e, h⟩ := ob h
  obtain ⟨hT, h⟩ := gd_some h
  by_cases z : U.1 = 0
  · rw [if_pos z] at h
    cases h
    refine bx_aload_n cx 0 dL_pin_0 rfl rfl ?_
    refine bx_iload_n cx 1 dL_pin_1 rfl rfl ?_
    refine bx_iload_n cx 2 dL_pin_2 rfl rfl ?_
    refine bx_callC (As := [iV (x1), iV (x2)]) (n := 2) (st := []) cx (kX5_pin l ad M x1 x2 _ e z) (Nat.le_of_ble_eq_true rfl) gL_pin_X5_pin rfl ⟨rfl, rfl⟩ (by decide +kernel) rfl ⟨by decide, by decide⟩ rfl (Nat.le_of_ble_eq_true rfl) dL_pin_3 ?_
    exact bx_iret cx dL_pin_6 rfl (Nat.le_of_ble_eq_true rfl) ⟨rfl, rfl⟩
  · rw [if_neg z] at h
    rcases hT.resolve_left z with e1 | e1
    · rw [if_pos e1] at h
      cases h
      have hx := xX5_pin l hl ad M x1 x2 _ e z
      rw [e1] at hx
      refine bx_aload_n cx 0 dL_pin_0 rfl rfl ?_
      refine bx_iload_n cx 1 dL_pin_1 rfl rfl ?_
      refine bx_iload_n cx 2 dL_pin_2 rfl rfl ?_
      refine bx_callX (As := [iV (x1), iV (x2)]) (n := 2) (st := []) (hp := 7) (ct := 1) (E := "java/lang/IndexOutOfBoundsException") cx hx (Nat.le_of_ble_eq_true rfl) gL_pin_X5_pin rfl ⟨rfl, rfl⟩ (by decide +kernel) rfl ⟨by decide, by decide⟩ rfl (Nat.le_of_ble_eq_true rfl) dL_pin_3 [] ⟨0, 6, 7, 19⟩ [⟨0, 6, 11, 13⟩] (fun _ e => e) rfl (fun z hz => by cases hz) (fun h => absurd rfl h) (by decide) (by decide) hc_pin_0 (by decide +kernel) rfl (fun qq => ?_)
      refine bx_astore_n (lv' := [(3, .ref qq), (0, .ref (ad 28)), (1, iV (x1)), (2, iV (x2))]) cx dL_pin_7 rfl (by decide) rfl ?_
      refine bx_ldc (z := (-2000000001)) cx dL_pin_8 hk_pin_0 (by decide) ?_
      exact bx_iret cx dL_pin_10 rfl (Nat.le_of_ble_eq_true rfl) ⟨rfl, rfl⟩
    · rw [if_neg (by rw [e1]; decide)] at h
      cases h
      have hx := xX5_pin l hl ad M x1 x2 _ e z
      rw [e1] at hx
      refine bx_aload_n cx 0 dL_pin_0 rfl rfl ?_
      refine bx_iload_n cx 1 dL_pin_1 rfl rfl ?_
      refine bx_iload_n cx 2 dL_pin_2 rfl rfl ?_
      refine bx_callX (As := [iV (x1), iV (x2)]) (n := 2) (st := []) (hp := 11) (ct := 19) (E := "java/lang/IllegalArgumentException") cx hx (Nat.le_of_ble_eq_true rfl) gL_pin_X5_pin rfl ⟨rfl, rfl⟩ (by decide +kernel) rfl ⟨by decide, by decide⟩ rfl (Nat.le_of_ble_eq_true rfl) dL_pin_3 [⟨0, 6, 7, 19⟩] ⟨0, 6, 11, 13⟩ [] (fun _ e => e) rfl (fun z hz => by simp only [List.mem_cons, List.not_mem_nil, or_false] at hz; subst hz; exact ⟨rfl, by decide⟩) (fun _ => ⟨hc_pin_0, Or.inl rfl⟩) (by decide) (by decide) hc_pin_1 (by decide +kernel) rfl (fun qq => ?_)
      refine bx_astore_n (lv' := [(3, .ref qq), (0, .ref (ad 28)), (1, iV (x1)), (2, iV (x2))]) cx dL_pin_11 rfl (by decide) rfl ?_
      refine bx_ldc (z := (-2000000002)) cx dL_pin_12 hk_pin_1 (by decide) ?_
      exact bx_iret cx dL_pin_14 rfl (Nat.le_of_ble_eq_true rfl) ⟨rfl, rfl⟩
def fL_costOf (M : Mem) (x1 : Int64) : Option (Int) := Option.bind (fX5_costOf M x1) (fun T => if T.1 = 0 then some (T.2.1) else none)
def tL_costOf (M : Mem) (x1 : Int64) : Option (Int) := Option.bind (fX5_costOf M x1) (fun T => gd (T.1 = 0 ∨ T.1 = 2) (if T.1 = 0 then some (T.2.1) else some ((-2000000002))))
abbrev rmL_costOf : Room := { frames := 7, cells := 0, slots := 0, locals := 112 }
abbrev rtL_costOf : Room := { frames := 7, cells := 1, slots := 6, locals := 112 }
theorem hc_costOf_0 : Cond.classLink RL 13 "java/lang/IllegalArgumentException" ∈ wsL_costOf := by decide +kernel
theorem hk_costOf_0 : Cond.constant RL 15 (-2000000002) ∈ wsL_costOf := by decide +kernel
set_option maxRecDepth 100000 in
set_option maxHeartbeats 4000000 in
theorem kL_costOf (l : Launch) (hl : l.stackTraces = false) (ad : Nat → Nat) (M : Mem) (x1 : Int64) (T : Int) (h : fL_costOf M x1 = some T) : HK l yL_costOf wsL_costOf rmL_costOf ad [.ref (ad 28), .long (x1)] 0 M (some (iV (T))) M := by
  refine HK.ofW (cc := cL_costOf) (nL := 4) (rt := (some .int)) (own := RL) (hh := [(0, 5, 6, 13)]) (by decide +kernel) rfl rfl (Nat.le_of_ble_eq_true rfl) ⟨Nat.le_of_ble_eq_true rfl, Nat.le_of_ble_eq_true rfl⟩ (fun G cx => ?_)
  show G (0, M) 0 [(0, .ref (ad 28)), (1, .long (x1))] []
  unfold fL_costOf at h
  obtain ⟨U, e, h⟩ := ob h
  by_cases z : U.1 = 0
  · rw [if_pos z] at h
    cases h
    refine bx_aload_n cx 0 dL_costOf_0 rfl rfl ?_
    refine bx_lload_n cx 1 dL_costOf_1 rfl rfl ?_
    refine bx_callC (As := [.long (x1)]) (n := 1) (st := []) cx (kX5_costOf l ad M x1 _ e z) (Nat.le_of_ble_eq_true rfl) gL_costOf_X5_costOf rfl ⟨rfl, rfl⟩ (by decide +kernel) rfl ⟨by decide, by decide⟩ rfl (Nat.le_of_ble_eq_true rfl) dL_costOf_2 ?_
    exact bx_iret cx dL_costOf_5 rfl (Nat.le_of_ble_eq_true rfl) ⟨rfl, rfl⟩
  · rw [if_neg z] at h
    cases h
set_option maxRecDepth 100000 in
set_option maxHeartbeats 4000000 in
theorem tL_costOf_k (l : Launch) (hl : l.stackTraces = false) (ad : Nat → Nat) (M : Mem) (x1 : Int64) (T : Int) (h : tL_costOf M x1 = some T) : HK l yL_costOf wsL_costOf rtL_costOf ad [.ref (ad 28), .long (x1)] 1 M (some (iV (T))) M := by
  refine HK.ofW (cc := cL_costOf) (nL := 4) (rt := (some .int)) (own := RL) (hh := [(0, 5, 6, 13)]) (by decide +kernel) rfl rfl (Nat.le_of_ble_eq_true rfl) ⟨Nat.le_of_ble_eq_true rfl, Nat.le_of_ble_eq_true rfl⟩ (fun G cx => ?_)
  show G (0, M) 0 [(0, .ref (ad 28)), (1, .long (x1))] []
  unfold tL_costOf at h
  obtain ⟨U, e, h⟩ := ob h
  obtain ⟨hT, h⟩ := gd_some h
  by_cases z : U.1 = 0
  · rw [if_pos z] at h
    cases h
    refine bx_aload_n cx 0 dL_costOf_0 rfl rfl ?_
    refine bx_lload_n cx 1 dL_costOf_1 rfl rfl ?_
    refine bx_callC (As := [.long (x1)]) (n := 1) (st := []) cx (kX5_costOf l ad M x1 _ e z) (Nat.le_of_ble_eq_true rfl) gL_costOf_X5_costOf rfl ⟨rfl, rfl⟩ (by decide +kernel) rfl ⟨by decide, by decide⟩ rfl (Nat.le_of_ble_eq_true rfl) dL_costOf_2 ?_
    exact bx_iret cx dL_costOf_5 rfl (Nat.le_of_ble_eq_true rfl) ⟨rfl, rfl⟩
  · rw [if_neg z] at h
    cases h
    have e1 : U.1 = 2 := hT.resolve_left z
    have hx := xX5_costOf l hl ad M x1 _ e z
    rw [e1] at hx
    refine bx_aload_n cx 0 dL_costOf_0 rfl rfl ?_
    refine bx_lload_n cx 1 dL_costOf_1 rfl rfl ?_
    refine bx_callX (As := [.long (x1)]) (n := 1) (st := []) (hp := 6) (ct := 1) (E := "java/lang/IllegalArgumentException") cx hx (Nat.le_of_ble_eq_true rfl) gL_costOf_X5_costOf rfl ⟨rfl, rfl⟩ (by decide +kernel) rfl ⟨by decide, by decide⟩ rfl (Nat.le_of_ble_eq_true rfl) dL_costOf_2 [] ⟨0, 5, 6, 13⟩ [] (fun _ e => e) rfl (fun z hz => by cases hz) (fun h => absurd rfl h) (by decide) (by decide) hc_costOf_0 (by decide +kernel) rfl (fun qq => ?_)
    refine bx_astore_n (lv' := [(3, .ref qq), (0, .ref (ad 28)), (1, .long (x1))]) cx dL_costOf_6 rfl (by decide) rfl ?_
    refine bx_ldc (z := (-2000000002)) cx dL_costOf_7 hk_costOf_0 (by decide) ?_
    exact bx_iret cx dL_costOf_9 rfl (Nat.le_of_ble_eq_true rfl) ⟨rfl, rfl⟩
def fL_pull (M : Mem) (x1 : Int) (x2 : Int) : Option (Int × Mem) := Option.bind (fX5_pull M x1 x2) (fun T => if T.1 = 0 then some (T.2.1, T.2.2) else none)
def tL_pull (M : Mem) (x1 : Int) (x2 : Int) : Option (Int × Mem) := Option.bind (fX5_pull M x1 x2) (fun T => gd (T.1 = 0 ∨ T.1 = 1) (if T.1 = 0 then some (T.2.1, T.2.2) else some ((-2000000001), T.2.2)))
abbrev rmL_pull : Room := { frames := 8, cells := 0, slots := 0, locals := 132 }
abbrev rtL_pull : Room := { frames := 8, cells := 1, slots := 6, locals := 132 }
theorem hc_pull_0 : Cond.classLink RL 19 "java/lang/IndexOutOfBoundsException" ∈ wsL_pull := by decide +kernel
theorem hk_pull_0 : Cond.constant RL 21 (-2000000001) ∈ wsL_pull := by decide +kernel
set_option maxRecDepth 100000 in
set_option maxHeartbeats 4000000 in
theorem kL_pull (l : Launch) (hl : l.stackTraces = false) (ad : Nat → Nat) (M : Mem) (x1 : Int) (x2 : Int) (T : Int × Mem) (h : fL_pull M x1 x2 = some T) : HK l yL_pull wsL_pull rmL_pull ad [.ref (ad 28), iV (x1), iV (x2)] 0 M (some (iV (T.1))) T.2 := by
  refine HK.ofW (cc := cL_pull) (nL := 4) (rt := (some .int)) (own := RL) (hh := [(0, 6, 7, 19)]) (by decide +kernel) rfl rfl (Nat.le_of_ble_eq_true rfl) ⟨Nat.le_of_ble_eq_true rfl, Nat.le_of_ble_eq_true rfl⟩ (fun G cx => ?_)
  show G (0, M) 0 [(0, .ref (ad 28)), (1, iV (x1)), (2, iV (x2))] []
  unfold fL_pull at h
  obtain ⟨U, e, h⟩ := ob h
  by_cases z : U.1 = 0
  · rw [if_pos z] at h
    cases h
    refine bx_aload_n cx 0 dL_pull_0 rfl rfl ?_
    refine bx_iload_n cx 1 dL_pull_1 rfl rfl ?_
    refine bx_iload_n cx 2 dL_pull_2 rfl rfl ?_
    refine bx_callC (As := [iV (x1), iV (x2)]) (n := 2) (st := []) cx (kX5_pull l ad M x1 x2 _ e z) (Nat.le_of_ble_eq_true rfl) gL_pull_X5_pull rfl ⟨rfl, rfl⟩ (by decide +kernel) rfl ⟨by decide, by decide⟩ rfl (Nat.le_of_ble_eq_true rfl) dL_pull_3 ?_
    exact bx_iret cx dL_pull_6 rfl (Nat.le_of_ble_eq_true rfl) ⟨rfl, rfl⟩
  · rw [if_neg z] at h
    cases h
set_option maxRecDepth 100000 in
set_option maxHeartbeats 4000000 in
theorem tL_pull_k (l : Launch) (hl : l.stackTraces = false) (ad : Nat → Nat) (M : Mem) (x1 : Int) (x2 : Int) (T : Int × Mem) (h : tL_pull M x1 x2 = some T) : HK l yL_pull wsL_pull rtL_pull ad [.ref (ad 28), iV (x1), iV (x2)] 1 M (some (iV (T.1))) T.2 := by
  refine HK.ofW (cc := cL_pull) (nL := 4) (rt := (some .int)) (own := RL) (hh := [(0, 6, 7, 19)]) (by decide +kernel) rfl rfl (Nat.le_of_ble_eq_true rfl) ⟨Nat.le_of_ble_eq_true rfl, Nat.le_of_ble_eq_true rfl⟩ (fun G cx => ?_)
  show G (0, M) 0 [(0, .ref (ad 28)), (1, iV (x1)), (2, iV (x2))] []
  unfold tL_pull at h
  obtain ⟨U, e, h⟩ := ob h
  obtain ⟨hT, h⟩ := gd_some h
  by_cases z : U.1 = 0
  · rw [if_pos z] at h
    cases h
    refine bx_aload_n cx 0 dL_pull_0 rfl rfl ?_
    refine bx_iload_n cx 1 dL_pull_1 rfl rfl ?_
    refine bx_iload_n cx 2 dL_pull_2 rfl rfl ?_
    refine bx_callC (As := [iV (x1), iV (x2)]) (n := 2) (st := []) cx (kX5_pull l ad M x1 x2 _ e z) (Nat.le_of_ble_eq_true rfl) gL_pull_X5_pull rfl ⟨rfl, rfl⟩ (by decide +kernel) rfl ⟨by decide, by decide⟩ rfl (Nat.le_of_ble_eq_true rfl) dL_pull_3 ?_
    exact bx_iret cx dL_pull_6 rfl (Nat.le_of_ble_eq_true rfl) ⟨rfl, rfl⟩
  · rw [if_neg z] at h
    cases h
    have e1 : U.1 = 1 := hT.resolve_left z
    have hx := xX5_pull l hl ad M x1 x2 _ e z
    rw [e1] at hx
    refine bx_aload_n cx 0 dL_pull_0 rfl rfl ?_
    refine bx_iload_n cx 1 dL_pull_1 rfl rfl ?_
    refine bx_iload_n cx 2 dL_pull_2 rfl rfl ?_
    refine bx_callX (As := [iV (x1), iV (x2)]) (n := 2) (st := []) (hp := 7) (ct := 1) (E := "java/lang/IndexOutOfBoundsException") cx hx (Nat.le_of_ble_eq_true rfl) gL_pull_X5_pull rfl ⟨rfl, rfl⟩ (by decide +kernel) rfl ⟨by decide, by decide⟩ rfl (Nat.le_of_ble_eq_true rfl) dL_pull_3 [] ⟨0, 6, 7, 19⟩ [] (fun _ e => e) rfl (fun z hz => by cases hz) (fun h => absurd rfl h) (by decide) (by decide) hc_pull_0 (by decide +kernel) rfl (fun qq => ?_)
    refine bx_astore_n (lv' := [(3, .ref qq), (0, .ref (ad 28)), (1, iV (x1)), (2, iV (x2))]) cx dL_pull_7 rfl (by decide) rfl ?_
    refine bx_ldc (z := (-2000000001)) cx dL_pull_8 hk_pull_0 (by decide) ?_
    exact bx_iret cx dL_pull_10 rfl (Nat.le_of_ble_eq_true rfl) ⟨rfl, rfl⟩
def fL_hold (M : Mem) (x1 : Int) (x2 : Int) : Option (Int × Mem) := Option.bind (fX5_hold M x1 x2) (fun T => if T.1 = 0 then gd (inR T.2.1) (some ((if T.2.1 = 0 then 0 else 1), T.2.2)) else none)
def tL_hold (M : Mem) (x1 : Int) (x2 : Int) : Option (Int × Mem) := Option.bind (fX5_hold M x1 x2) (fun T => gd (T.1 = 0 ∨ T.1 = 1) (if T.1 = 0 then gd (inR T.2.1) (some ((if T.2.1 = 0 then 0 else 1), T.2.2)) else some ((-2000000001), T.2.2)))
abbrev rmL_hold : Room := { frames := 8, cells := 0, slots := 0, locals := 132 }
abbrev rtL_hold : Room := { frames := 8, cells := 1, slots := 6, locals := 132 }
theorem hc_hold_0 : Cond.classLink RL 19 "java/lang/IndexOutOfBoundsException" ∈ wsL_hold := by decide +kernel
theorem hk_hold_0 : Cond.constant RL 21 (-2000000001) ∈ wsL_hold := by decide +kernel
set_option maxRecDepth 100000 in
set_option maxHeartbeats 4000000 in
theorem kL_hold (l : Launch) (hl : l.stackTraces = false) (ad : Nat → Nat) (M : Mem) (x1 : Int) (x2 : Int) (T : Int × Mem) (h : fL_hold M x1 x2 = some T) : HK l yL_hold wsL_hold rmL_hold ad [.ref (ad 28), iV (x1), iV (x2)] 0 M (some (iV (T.1))) T.2 := by
  refine HK.ofW (cc := cL_hold) (nL := 4) (rt := (some .int)) (own := RL) (hh := [(0, 14, 15, 19)]) (by decide +kernel) rfl rfl (Nat.le_of_ble_eq_true rfl) ⟨Nat.le_of_ble_eq_true rfl, Nat.le_of_ble_eq_true rfl⟩ (fun G cx => ?_)
  show G (0, M) 0 [(0, .ref (ad 28)), (1, iV (x1)), (2, iV (x2))] []
  unfold fL_hold at h
  obtain ⟨U, e, h⟩ := ob h
  by_cases z : U.1 = 0
  · rw [if_pos z] at h
    obtain ⟨g, h⟩ := gd_some h
    cases h
    refine bx_aload_n cx 0 dL_hold_0 rfl rfl ?_
    refine bx_iload_n cx 1 dL_hold_1 rfl rfl ?_
    refine bx_iload_n cx 2 dL_hold_2 rfl rfl ?_
    refine bx_callC (As := [iV (x1), iV (x2)]) (n := 2) (st := []) cx (kX5_hold l ad M x1 x2 _ e z) (Nat.le_of_ble_eq_true rfl) gL_hold_X5_hold rfl ⟨rfl, rfl⟩ (by decide +kernel) rfl ⟨by decide, by decide⟩ rfl (Nat.le_of_ble_eq_true rfl) dL_hold_3 ?_
    refine bx_if_eq cx 13 dL_hold_6 (by decide) g (fun c => ?_) (fun c => ?_)
    · refine bx_iconst cx dL_hold_13 ?_
      exact bx_iret cx dL_hold_14 rfl (Nat.le_of_ble_eq_true rfl) ⟨by rw [if_pos c], rfl⟩
    · refine bx_iconst cx dL_hold_9 ?_
      refine bx_goto cx 14 dL_hold_10 (by decide) ?_
      exact bx_iret cx dL_hold_14 rfl (Nat.le_of_ble_eq_true rfl) ⟨by rw [if_neg c], rfl⟩
  · rw [if_neg z] at h
    cases h
set_option maxRecDepth 100000 in
set_option maxHeartbeats 4000000 in
theorem tL_hold_k (l : Launch) (hl : l.stackTraces = false) (ad : Nat → Nat) (M : Mem) (x1 : Int) (x2 : Int) (T : Int × Mem) (h : tL_hold M x1 x2 = some T) : HK l yL_hold wsL_hold rtL_hold ad [.ref (ad 28), iV (x1), iV (x2)] 1 M (some (iV (T.1))) T.2 := by
  refine HK.ofW (cc := cL_hold) (nL := 4) (rt := (some .int)) (own := RL) (hh := [(0, 14, 15, 19)]) (by decide +kernel) rfl rfl (Nat.le_of_ble_eq_true rfl) ⟨Nat.le_of_ble_eq_true rfl, Nat.le_of_ble_eq_true rfl⟩ (fun G cx => ?_)
  show G (0, M) 0 [(0, .ref (ad 28)), (1, iV (x1)), (2, iV (x2))] []
  unfold tL_hold at h
  obtain ⟨U, e, h⟩ := ob h
  obtain ⟨hT, h⟩ := gd_some h
  by_cases z : U.1 = 0
  · rw [if_pos z] at h
    obtain ⟨g, h⟩ := gd_some h
    cases h
    refine bx_aload_n cx 0 dL_hold_0 rfl rfl ?_
    refine bx_iload_n cx 1 dL_hold_1 rfl rfl ?_
    refine bx_iload_n cx 2 dL_hold_2 rfl rfl ?_
    refine bx_callC (As := [iV (x1), iV (x2)]) (n := 2) (st := []) cx (kX5_hold l ad M x1 x2 _ e z) (Nat.le_of_ble_eq_true rfl) gL_hold_X5_hold rfl ⟨rfl, rfl⟩ (by decide +kernel) rfl ⟨by decide, by decide⟩ rfl (Nat.le_of_ble_eq_true rfl) dL_hold_3 ?_
    refine bx_if_eq cx 13 dL_hold_6 (by decide) g (fun c => ?_) (fun c => ?_)
    · refine bx_iconst cx dL_hold_13 ?_
      exact bx_iret cx dL_hold_14 rfl (Nat.le_of_ble_eq_true rfl) ⟨by rw [if_pos c], rfl⟩
    · refine bx_iconst cx dL_hold_9 ?_
      refine bx_goto cx 14 dL_hold_10 (by decide) ?_
      exact bx_iret cx dL_hold_14 rfl (Nat.le_of_ble_eq_true rfl) ⟨by rw [if_neg c], rfl⟩
  · rw [if_neg z] at h
    cases h
    have e1 : U.1 = 1 := hT.resolve_left z
    have hx := xX5_hold l hl ad M x1 x2 _ e z
    rw [e1] at hx
    refine bx_aload_n cx 0 dL_hold_0 rfl rfl ?_
    refine bx_iload_n cx 1 dL_hold_1 rfl rfl ?_
    refine bx_iload_n cx 2 dL_hold_2 rfl rfl ?_
    refine bx_callX (As := [iV (x1), iV (x2)]) (n := 2) (st := []) (hp := 15) (ct := 1) (E := "java/lang/IndexOutOfBoundsException") cx hx (Nat.le_of_ble_eq_true rfl) gL_hold_X5_hold rfl ⟨rfl, rfl⟩ (by decide +kernel) rfl ⟨by decide, by decide⟩ rfl (Nat.le_of_ble_eq_true rfl) dL_hold_3 [] ⟨0, 14, 15, 19⟩ [] (fun _ e => e) rfl (fun z hz => by cases hz) (fun h => absurd rfl h) (by decide) (by decide) hc_hold_0 (by decide +kernel) rfl (fun qq => ?_)
    refine bx_astore_n (lv' := [(3, .ref qq), (0, .ref (ad 28)), (1, iV (x1)), (2, iV (x2))]) cx dL_hold_15 rfl (by decide) rfl ?_
    refine bx_ldc (z := (-2000000001)) cx dL_hold_16 hk_hold_0 (by decide) ?_
    exact bx_iret cx dL_hold_18 rfl (Nat.le_of_ble_eq_true rfl) ⟨rfl, rfl⟩
def fL_breathe (M : Mem) (x1 : Int) : Option (Int × Mem) := Option.bind (fX5_breathe M x1) (fun T => if T.1 = 0 then some (T.2.1, T.2.2) else none)
def tL_breathe (M : Mem) (x1 : Int) : Option (Int × Mem) := Option.bind (fX5_breathe M x1) (fun T => gd (T.1 = 0 ∨ T.1 = 2) (if T.1 = 0 then some (T.2.1, T.2.2) else some ((-2000000002), T.2.2)))
abbrev rmL_breathe : Room := { frames := 7, cells := 0, slots := 0, locals := 152 }
abbrev rtL_breathe : Room := { frames := 7, cells := 1, slots := 6, locals := 152 }
theorem hc_breathe_0 : Cond.classLink RL 13 "java/lang/IllegalArgumentException" ∈ wsL_breathe := by decide +kernel
theorem hk_breathe_0 : Cond.constant RL 15 (-2000000002) ∈ wsL_breathe := by decide +kernel
set_option maxRecDepth 100000 in
set_option maxHeartbeats 4000000 in
theorem kL_breathe (l : Launch) (hl : l.stackTraces = false) (ad : Nat → Nat) (M : Mem) (x1 : Int) (T : Int × Mem) (h : fL_breathe M x1 = some T) : HK l yL_breathe wsL_breathe rmL_breathe ad [.ref (ad 28), iV (x1)] 0 M (some (iV (T.1))) T.2 := by
  refine HK.ofW (cc := cL_breathe) (nL := 3) (rt := (some .int)) (own := RL) (hh := [(0, 5, 6, 13)]) (by decide +kernel) rfl rfl (Nat.le_of_ble_eq_true rfl) ⟨Nat.le_of_ble_eq_true rfl, Nat.le_of_ble_eq_true rfl⟩ (fun G cx => ?_)
  show G (0, M) 0 [(0, .ref (ad 28)), (1, iV (x1))] []
  unfold fL_breathe at h
  obtain ⟨U, e, h⟩ := ob h
  by_cases z : U.1 = 0
  · rw [if_pos z] at h
    cases h
    refine bx_aload_n cx 0 dL_breathe_0 rfl rfl ?_
    refine bx_iload_n cx 1 dL_breathe_1 rfl rfl ?_
    refine bx_callC (As := [iV (x1)]) (n := 1) (st := []) cx (kX5_breathe l ad M x1 _ e z) (Nat.le_of_ble_eq_true rfl) gL_breathe_X5_breathe rfl ⟨rfl, rfl⟩ (by decide +kernel) rfl ⟨by decide, by decide⟩ rfl (Nat.le_of_ble_eq_true rfl) dL_breathe_2 ?_
    exact bx_iret cx dL_breathe_5 rfl (Nat.le_of_ble_eq_true rfl) ⟨rfl, rfl⟩
  · rw [if_neg z] at h
    cases h
set_option maxRecDepth 100000 in
set_option maxHeartbeats 4000000 in
theorem tL_breathe_k (l : Launch) (hl : l.stackTraces = false) (ad : Nat → Nat) (M : Mem) (x1 : Int) (T : Int × Mem) (h : tL_breathe M x1 = some T) : HK l yL_breathe wsL_breathe rtL_breathe ad [.ref (ad 28), iV (x1)] 1 M (some (iV (T.1))) T.2 := by
  refine HK.ofW (cc := cL_breathe) (nL := 3) (rt := (some .int)) (own := RL) (hh := [(0, 5, 6, 13)]) (by decide +kernel) rfl rfl (Nat.le_of_ble_eq_true rfl) ⟨Nat.le_of_ble_eq_true rfl, Nat.le_of_ble_eq_true rfl⟩ (fun G cx => ?_)
  show G (0, M) 0 [(0, .ref (ad 28)), (1, iV (x1))] []
  unfold tL_breathe at h
  obtain ⟨U, e, h⟩ := ob h
  obtain ⟨hT, h⟩ := gd_some h
  by_cases z : U.1 = 0
  · rw [if_pos z] at h
    cases h
    refine bx_aload_n cx 0 dL_breathe_0 rfl rfl ?_
    refine bx_iload_n cx 1 dL_breathe_1 rfl rfl ?_
    refine bx_callC (As := [iV (x1)]) (n := 1) (st := []) cx (kX5_breathe l ad M x1 _ e z) (Nat.le_of_ble_eq_true rfl) gL_breathe_X5_breathe rfl ⟨rfl, rfl⟩ (by decide +kernel) rfl ⟨by decide, by decide⟩ rfl (Nat.le_of_ble_eq_true rfl) dL_breathe_2 ?_
    exact bx_iret cx dL_breathe_5 rfl (Nat.le_of_ble_eq_true rfl) ⟨rfl, rfl⟩
  · rw [if_neg z] at h
    cases h
    have e1 : U.1 = 2 := hT.resolve_left z
    have hx := xX5_breathe l hl ad M x1 _ e z
    rw [e1] at hx
    refine bx_aload_n cx 0 dL_breathe_0 rfl rfl ?_
    refine bx_iload_n cx 1 dL_breathe_1 rfl rfl ?_
    refine bx_callX (As := [iV (x1)]) (n := 1) (st := []) (hp := 6) (ct := 1) (E := "java/lang/IllegalArgumentException") cx hx (Nat.le_of_ble_eq_true rfl) gL_breathe_X5_breathe rfl ⟨rfl, rfl⟩ (by decide +kernel) rfl ⟨by decide, by decide⟩ rfl (Nat.le_of_ble_eq_true rfl) dL_breathe_2 [] ⟨0, 5, 6, 13⟩ [] (fun _ e => e) rfl (fun z hz => by cases hz) (fun h => absurd rfl h) (by decide) (by decide) hc_breathe_0 (by decide +kernel) rfl (fun qq => ?_)
    refine bx_astore_n (lv' := [(2, .ref qq), (0, .ref (ad 28)), (1, iV (x1))]) cx dL_breathe_6 rfl (by decide) rfl ?_
    refine bx_ldc (z := (-2000000002)) cx dL_breathe_7 hk_breathe_0 (by decide) ?_
    exact bx_iret cx dL_breathe_9 rfl (Nat.le_of_ble_eq_true rfl) ⟨rfl, rfl⟩
def fL_bubbleAt (M : Mem) (x1 : Int) : Option (Int) := Option.bind (fX5_bubbleAt M x1) (fun T => if T.1 = 0 then some (T.2.1) else none)
def tL_bubbleAt (M : Mem) (x1 : Int) : Option (Int) := Option.bind (fX5_bubbleAt M x1) (fun T => gd (T.1 = 0 ∨ T.1 = 1) (if T.1 = 0 then some (T.2.1) else some ((-2000000001))))
abbrev rmL_bubbleAt : Room := { frames := 8, cells := 0, slots := 0, locals := 131 }
abbrev rtL_bubbleAt : Room := { frames := 8, cells := 1, slots := 6, locals := 131 }
theorem hc_bubbleAt_0 : Cond.classLink RL 19 "java/lang/IndexOutOfBoundsException" ∈ wsL_bubbleAt := by decide +kernel
theorem hk_bubbleAt_0 : Cond.constant RL 21 (-2000000001) ∈ wsL_bubbleAt := by decide +kernel
set_option maxRecDepth 100000 in
set_option maxHeartbeats 4000000 in
theorem kL_bubbleAt (l : Launch) (hl : l.stackTraces = false) (ad : Nat → Nat) (M : Mem) (x1 : Int) (T : Int) (h : fL_bubbleAt M x1 = some T) : HK l yL_bubbleAt wsL_bubbleAt rmL_bubbleAt ad [.ref (ad 28), iV (x1)] 0 M (some (iV (T))) M := by
  refine HK.ofW (cc := cL_bubbleAt) (nL := 3) (rt := (some .int)) (own := RL) (hh := [(0, 5, 6, 19)]) (by decide +kernel) rfl rfl (Nat.le_of_ble_eq_true rfl) ⟨Nat.le_of_ble_eq_true rfl, Nat.le_of_ble_eq_true rfl⟩ (fun G cx => ?_)
  show G (0, M) 0 [(0, .ref (ad 28)), (1, iV (x1))] []
  unfold fL_bubbleAt at h
  obtain ⟨U, e, h⟩ := ob h
  by_cases z : U.1 = 0
  · rw [if_pos z] at h
    cases h
    refine bx_aload_n cx 0 dL_bubbleAt_0 rfl rfl ?_
    refine bx_iload_n cx 1 dL_bubbleAt_1 rfl rfl ?_
    refine bx_callC (As := [iV (x1)]) (n := 1) (st := []) cx (kX5_bubbleAt l ad M x1 _ e z) (Nat.le_of_ble_eq_true rfl) gL_bubbleAt_X5_bubbleAt rfl ⟨rfl, rfl⟩ (by decide +kernel) rfl ⟨by decide, by decide⟩ rfl (Nat.le_of_ble_eq_true rfl) dL_bubbleAt_2 ?_
    exact bx_iret cx dL_bubbleAt_5 rfl (Nat.le_of_ble_eq_true rfl) ⟨rfl, rfl⟩
  · rw [if_neg z] at h
    cases h
set_option maxRecDepth 100000 in
set_option maxHeartbeats 4000000 in
theorem tL_bubbleAt_k (l : Launch) (hl : l.stackTraces = false) (ad : Nat → Nat) (M : Mem) (x1 : Int) (T : Int) (h : tL_bubbleAt M x1 = some T) : HK l yL_bubbleAt wsL_bubbleAt rtL_bubbleAt ad [.ref (ad 28), iV (x1)] 1 M (some (iV (T))) M := by
  refine HK.ofW (cc := cL_bubbleAt) (nL := 3) (rt := (some .int)) (own := RL) (hh := [(0, 5, 6, 19)]) (by decide +kernel) rfl rfl (Nat.le_of_ble_eq_true rfl) ⟨Nat.le_of_ble_eq_true rfl, Nat.le_of_ble_eq_true rfl⟩ (fun G cx => ?_)
  show G (0, M) 0 [(0, .ref (ad 28)), (1, iV (x1))] []
  unfold tL_bubbleAt at h
  obtain ⟨U, e, h⟩ := ob h
  obtain ⟨hT, h⟩ := gd_some h
  by_cases z : U.1 = 0
  · rw [if_pos z] at h
    cases h
    refine bx_aload_n cx 0 dL_bubbleAt_0 rfl rfl ?_
    refine bx_iload_n cx 1 dL_bubbleAt_1 rfl rfl ?_
    refine bx_callC (As := [iV (x1)]) (n := 1) (st := []) cx (kX5_bubbleAt l ad M x1 _ e z) (Nat.le_of_ble_eq_true rfl) gL_bubbleAt_X5_bubbleAt rfl ⟨rfl, rfl⟩ (by decide +kernel) rfl ⟨by decide, by decide⟩ rfl (Nat.le_of_ble_eq_true rfl) dL_bubbleAt_2 ?_
    exact bx_iret cx dL_bubbleAt_5 rfl (Nat.le_of_ble_eq_true rfl) ⟨rfl, rfl⟩
  · rw [if_neg z] at h
    cases h
    have e1 : U.1 = 1 := hT.resolve_left z
    have hx := xX5_bubbleAt l hl ad M x1 _ e z
    rw [e1] at hx
    refine bx_aload_n cx 0 dL_bubbleAt_0 rfl rfl ?_
    refine bx_iload_n cx 1 dL_bubbleAt_1 rfl rfl ?_
    refine bx_callX (As := [iV (x1)]) (n := 1) (st := []) (hp := 6) (ct := 1) (E := "java/lang/IndexOutOfBoundsException") cx hx (Nat.le_of_ble_eq_true rfl) gL_bubbleAt_X5_bubbleAt rfl ⟨rfl, rfl⟩ (by decide +kernel) rfl ⟨by decide, by decide⟩ rfl (Nat.le_of_ble_eq_true rfl) dL_bubbleAt_2 [] ⟨0, 5, 6, 19⟩ [] (fun _ e => e) rfl (fun z hz => by cases hz) (fun h => absurd rfl h) (by decide) (by decide) hc_bubbleAt_0 (by decide +kernel) rfl (fun qq => ?_)
    refine bx_astore_n (lv' := [(2, .ref qq), (0, .ref (ad 28)), (1, iV (x1))]) cx dL_bubbleAt_6 rfl (by decide) rfl ?_
    refine bx_ldc (z := (-2000000001)) cx dL_bubbleAt_7 hk_bubbleAt_0 (by decide) ?_
    exact bx_iret cx dL_bubbleAt_9 rfl (Nat.le_of_ble_eq_true rfl) ⟨rfl, rfl⟩
def fL_bubble (M : Mem) (x1 : Int) (x2 : Int) : Option (Int × Mem) := Option.bind (fX5_bubble M x1 x2) (fun T => if T.1 = 0 then some (T.2.1, T.2.2) else none)
def tL_bubble (M : Mem) (x1 : Int) (x2 : Int) : Option (Int × Mem) := Option.bind (fX5_bubble M x1 x2) (fun T => gd (T.1 = 0 ∨ T.1 = 1 ∨ T.1 = 2) (if T.1 = 0 then some (T.2.1, T.2.2) else if T.1 = 1 then some ((-2000000001), T.2.2) else some ((-2000000002), T.2.2)))
abbrev rmL_bubble : Room := { frames := 8, cells := 0, slots := 0, locals := 132 }
abbrev rtL_bubble : Room := { frames := 8, cells := 1, slots := 6, locals := 132 }
theorem hc_bubble_0 : Cond.classLink RL 19 "java/lang/IndexOutOfBoundsException" ∈ wsL_bubble := by decide +kernel
theorem hk_bubble_0 : Cond.constant RL 21 (-2000000001) ∈ wsL_bubble := by decide +kernel
theorem hc_bubble_1 : Cond.classLink RL 13 "java/lang/IllegalArgumentException" ∈ wsL_bubble := by decide +kernel
theorem hk_bubble_1 : Cond.constant RL 15 (-2000000002) ∈ wsL_bubble := by decide +kernel
set_option maxRecDepth 100000 in
set_option maxHeartbeats 4000000 in
theorem kL_bubble (l : Launch) (hl : l.stackTraces = false) (ad : Nat → Nat) (M : Mem) (x1 : Int) (x2 : Int) (T : Int × Mem) (h : fL_bubble M x1 x2 = some T) : HK l yL_bubble wsL_bubble rmL_bubble ad [.ref (ad 28), iV (x1), iV (x2)] 0 M (some (iV (T.1))) T.2 := by
  refine HK.ofW (cc := cL_bubble) (nL := 4) (rt := (some .int)) (own := RL) (hh := [(0, 6, 7, 19), (0, 6, 11, 13)]) (by decide +kernel) rfl rfl (Nat.le_of_ble_eq_true rfl) ⟨Nat.le_of_ble_eq_true rfl, Nat.le_of_ble_eq_true rfl⟩ (fun G cx => ?_)
  show G (0, M) 0 [(0, .ref (ad 28)), (1, iV (x1)), (2, iV (x2))] []
  unfold fL_bubble at h
  obtain ⟨U, e, h⟩ := ob h
  by_cases z : U.1 = 0
  · rw [if_pos z] at h
    cases h
    refine bx_aload_n cx 0 dL_bubble_0 rfl rfl ?_
    refine bx_iload_n cx 1 dL_bubble_1 rfl rfl ?_
    refine bx_iload_n cx 2 dL_bubble_2 rfl rfl ?_
    refine bx_callC (As := [iV (x1), iV (x2)]) (n := 2) (st := []) cx (kX5_bubble l ad M x1 x2 _ e z) (Nat.le_of_ble_eq_true rfl) gL_bubble_X5_bubble rfl ⟨rfl, rfl⟩ (by decide +kernel) rfl ⟨by decide, by decide⟩ rfl (Nat.le_of_ble_eq_true rfl) dL_bubble_3 ?_
    exact bx_iret cx dL_bubble_6 rfl (Nat.le_of_ble_eq_true rfl) ⟨rfl, rfl⟩
  · rw [if_neg z] at h
    cases h
set_option maxRecDepth 100000 in
set_option maxHeartbeats 4000000 in
theorem tL_bubble_k (l : Launch) (hl : l.stackTraces = false) (ad : Nat → Nat) (M : Mem) (x1 : Int) (x2 : Int) (T : Int × Mem) (h : tL_bubble M x1 x2 = some T) : HK l yL_bubble wsL_bubble rtL_bubble ad [.ref (ad 28), iV (x1), iV (x2)] 1 M (some (iV (T.1))) T.2 := by
  refine HK.ofW (cc := cL_bubble) (nL := 4) (rt := (some .int)) (own := RL) (hh := [(0, 6, 7, 19), (0, 6, 11, 13)]) (by decide +kernel) rfl rfl (Nat.le_of_ble_eq_true rfl) ⟨Nat.le_of_ble_eq_true rfl, Nat.le_of_ble_eq_true rfl⟩ (fun G cx => ?_)
  show G (0, M) 0 [(0, .ref (ad 28)), (1, iV (x1)), (2, iV (x2))] []
  unfold tL_bubble at h
  obtain ⟨U, e, h⟩ := ob h
  obtain ⟨hT, h⟩ := gd_some h
  by_cases z : U.1 = 0
  · rw [if_pos z] at h
    cases h
    refine bx_aload_n cx 0 dL_bubble_0 rfl rfl ?_
    refine bx_iload_n cx 1 dL_bubble_1 rfl rfl ?_
    refine bx_iload_n cx 2 dL_bubble_2 rfl rfl ?_
    refine bx_callC (As := [iV (x1), iV (x2)]) (n := 2) (st := []) cx (kX5_bubble l ad M x1 x2 _ e z) (Nat.le_of_ble_eq_true rfl) gL_bubble_X5_bubble rfl ⟨rfl, rfl⟩ (by decide +kernel) rfl ⟨by decide, by decide⟩ rfl (Nat.le_of_ble_eq_true rfl) dL_bubble_3 ?_
    exact bx_iret cx dL_bubble_6 rfl (Nat.le_of_ble_eq_true rfl) ⟨rfl, rfl⟩
  · rw [if_neg z] at h
    rcases hT.resolve_left z with e1 | e1
    · rw [if_pos e1] at h
      cases h
      have hx := xX5_bubble l hl ad M x1 x2 _ e z
      rw [e1] at hx
      refine bx_aload_n cx 0 dL_bubble_0 rfl rfl ?_
      refine bx_iload_n cx 1 dL_bubble_1 rfl rfl ?_
      refine bx_iload_n cx 2 dL_bubble_2 rfl rfl ?_
      refine bx_callX (As := [iV (x1), iV (x2)]) (n := 2) (st := []) (hp := 7) (ct := 1) (E := "java/lang/IndexOutOfBoundsException") cx hx (Nat.le_of_ble_eq_true rfl) gL_bubble_X5_bubble rfl ⟨rfl, rfl⟩ (by decide +kernel) rfl ⟨by decide, by decide⟩ rfl (Nat.le_of_ble_eq_true rfl) dL_bubble_3 [] ⟨0, 6, 7, 19⟩ [⟨0, 6, 11, 13⟩] (fun _ e => e) rfl (fun z hz => by cases hz) (fun h => absurd rfl h) (by decide) (by decide) hc_bubble_0 (by decide +kernel) rfl (fun qq => ?_)
      refine bx_astore_n (lv' := [(3, .ref qq), (0, .ref (ad 28)), (1, iV (x1)), (2, iV (x2))]) cx dL_bubble_7 rfl (by decide) rfl ?_
      refine bx_ldc (z := (-2000000001)) cx dL_bubble_8 hk_bubble_0 (by decide) ?_
      exact bx_iret cx dL_bubble_10 rfl (Nat.le_of_ble_eq_true rfl) ⟨rfl, rfl⟩
    · rw [if_neg (by rw [e1]; decide)] at h
      cases h
      have hx := xX5_bubble l hl ad M x1 x2 _ e z
      rw [e1] at hx
      refine bx_aload_n cx 0 dL_bubble_0 rfl rfl ?_
      refine bx_iload_n cx 1 dL_bubble_1 rfl rfl ?_
      refine bx_iload_n cx 2 dL_bubble_2 rfl rfl ?_
      refine bx_callX (As := [iV (x1), iV (x2)]) (n := 2) (st := []) (hp := 11) (ct := 19) (E := "java/lang/IllegalArgumentException") cx hx (Nat.le_of_ble_eq_true rfl) gL_bubble_X5_bubble rfl ⟨rfl, rfl⟩ (by decide +kernel) rfl ⟨by decide, by decide⟩ rfl (Nat.le_of_ble_eq_true rfl) dL_bubble_3 [⟨0, 6, 7, 19⟩] ⟨0, 6, 11, 13⟩ [] (fun _ e => e) rfl (fun z hz => by simp only [List.mem_cons, List.not_mem_nil, or_false] at hz; subst hz; exact ⟨rfl, by decide⟩) (fun _ => ⟨hc_bubble_0, Or.inl rfl⟩) (by decide) (by decide) hc_bubble_1 (by decide +kernel) rfl (fun qq => ?_)
      refine bx_astore_n (lv' := [(3, .ref qq), (0, .ref (ad 28)), (1, iV (x1)), (2, iV (x2))]) cx dL_bubble_11 rfl (by decide) rfl ?_
      refine bx_ldc (z := (-2000000002)) cx dL_bubble_12 hk_bubble_1 (by decide) ?_
      exact bx_iret cx dL_bubble_14 rfl (Nat.le_of_ble_eq_true rfl) ⟨rfl, rfl⟩
def fL_wall (M : Mem) (x1 : Int) (x2 : Int) : Option (Int) := Option.bind (fX5_wall M x1 x2) (fun T => if T.1 = 0 then some (T.2.1) else none)
def tL_wall (M : Mem) (x1 : Int) (x2 : Int) : Option (Int) := Option.bind (fX5_wall M x1 x2) (fun T => gd (T.1 = 0 ∨ T.1 = 1) (if T.1 = 0 then some (T.2.1) else some ((-2000000001))))
abbrev rmL_wall : Room := { frames := 8, cells := 0, slots := 0, locals := 132 }
abbrev rtL_wall : Room := { frames := 8, cells := 1, slots := 6, locals := 132 }
theorem hc_wall_0 : Cond.classLink RL 19 "java/lang/IndexOutOfBoundsException" ∈ wsL_wall := by decide +kernel
theorem hk_wall_0 : Cond.constant RL 21 (-2000000001) ∈ wsL_wall := by decide +kernel
set_option maxRecDepth 100000 in
set_option maxHeartbeats 4000000 in
theorem kL_wall (l : Launch) (hl : l.stackTraces = false) (ad : Nat → Nat) (M : Mem) (x1 : Int) (x2 : Int) (T : Int) (h : fL_wall M x1 x2 = some T) : HK l yL_wall wsL_wall rmL_wall ad [.ref (ad 28), iV (x1), iV (x2)] 0 M (some (iV (T))) M := by
  refine HK.ofW (cc := cL_wall) (nL := 4) (rt := (some .int)) (own := RL) (hh := [(0, 6, 7, 19)]) (by decide +kernel) rfl rfl (Nat.le_of_ble_eq_true rfl) ⟨Nat.le_of_ble_eq_true rfl, Nat.le_of_ble_eq_true rfl⟩ (fun G cx => ?_)
  show G (0, M) 0 [(0, .ref (ad 28)), (1, iV (x1)), (2, iV (x2))] []
  unfold fL_wall at h
  obtain ⟨U, e, h⟩ := ob h
  by_cases z : U.1 = 0
  · rw [if_pos z] at h
    cases h
    refine bx_aload_n cx 0 dL_wall_0 rfl rfl ?_
    refine bx_iload_n cx 1 dL_wall_1 rfl rfl ?_
    refine bx_iload_n cx 2 dL_wall_2 rfl rfl ?_
    refine bx_callC (As := [iV (x1), iV (x2)]) (n := 2) (st := []) cx (kX5_wall l ad M x1 x2 _ e z) (Nat.le_of_ble_eq_true rfl) gL_wall_X5_wall rfl ⟨rfl, rfl⟩ (by decide +kernel) rfl ⟨by decide, by decide⟩ rfl (Nat.le_of_ble_eq_true rfl) dL_wall_3 ?_
    exact bx_iret cx dL_wall_6 rfl (Nat.le_of_ble_eq_true rfl) ⟨rfl, rfl⟩
  · rw [if_neg z] at h
    cases h
set_option maxRecDepth 100000 in
set_option maxHeartbeats 4000000 in
theorem tL_wall_k (l : Launch) (hl : l.stackTraces = false) (ad : Nat → Nat) (M : Mem) (x1 : Int) (x2 : Int) (T : Int) (h : tL_wall M x1 x2 = some T) : HK l yL_wall wsL_wall rtL_wall ad [.ref (ad 28), iV (x1), iV (x2)] 1 M (some (iV (T))) M := by
  refine HK.ofW (cc := cL_wall) (nL := 4) (rt := (some .int)) (own := RL) (hh := [(0, 6, 7, 19)]) (by decide +kernel) rfl rfl (Nat.le_of_ble_eq_true rfl) ⟨Nat.le_of_ble_eq_true rfl, Nat.le_of_ble_eq_true rfl⟩ (fun G cx => ?_)
  show G (0, M) 0 [(0, .ref (ad 28)), (1, iV (x1)), (2, iV (x2))] []
  unfold tL_wall at h
  obtain ⟨U, e, h⟩ := ob h
  obtain ⟨hT, h⟩ := gd_some h
  by_cases z : U.1 = 0
  · rw [if_pos z] at h
    cases h
    refine bx_aload_n cx 0 dL_wall_0 rfl rfl ?_
    refine bx_iload_n cx 1 dL_wall_1 rfl rfl ?_
    refine bx_iload_n cx 2 dL_wall_2 rfl rfl ?_
    refine bx_callC (As := [iV (x1), iV (x2)]) (n := 2) (st := []) cx (kX5_wall l ad M x1 x2 _ e z) (Nat.le_of_ble_eq_true rfl) gL_wall_X5_wall rfl ⟨rfl, rfl⟩ (by decide +kernel) rfl ⟨by decide, by decide⟩ rfl (Nat.le_of_ble_eq_true rfl) dL_wall_3 ?_
    exact bx_iret cx dL_wall_6 rfl (Nat.le_of_ble_eq_true rfl) ⟨rfl, rfl⟩
  · rw [if_neg z] at h
    cases h
    have e1 : U.1 = 1 := hT.resolve_left z
    have hx := xX5_wall l hl ad M x1 x2 _ e z
    rw [e1] at hx
    refine bx_aload_n cx 0 dL_wall_0 rfl rfl ?_
    refine bx_iload_n cx 1 dL_wall_1 rfl rfl ?_
    refine bx_iload_n cx 2 dL_wall_2 rfl rfl ?_
    refine bx_callX (As := [iV (x1), iV (x2)]) (n := 2) (st := []) (hp := 7) (ct := 1) (E := "java/lang/IndexOutOfBoundsException") cx hx (Nat.le_of_ble_eq_true rfl) gL_wall_X5_wall rfl ⟨rfl, rfl⟩ (by decide +kernel) rfl ⟨by decide, by decide⟩ rfl (Nat.le_of_ble_eq_true rfl) dL_wall_3 [] ⟨0, 6, 7, 19⟩ [] (fun _ e => e) rfl (fun z hz => by cases hz) (fun h => absurd rfl h) (by decide) (by decide) hc_wall_0 (by decide +kernel) rfl (fun qq => ?_)
    refine bx_astore_n (lv' := [(3, .ref qq), (0, .ref (ad 28)), (1, iV (x1)), (2, iV (x2))]) cx dL_wall_7 rfl (by decide) rfl ?_
    refine bx_ldc (z := (-2000000001)) cx dL_wall_8 hk_wall_0 (by decide) ?_
    exact bx_iret cx dL_wall_10 rfl (Nat.le_of_ble_eq_true rfl) ⟨rfl, rfl⟩
def fL_corners (M : Mem) (x1 : Int) : Option (Int) := Option.bind (fX5_corners M x1) (fun T => if T.1 = 0 then some (T.2.1) else none)
def tL_corners (M : Mem) (x1 : Int) : Option (Int) := Option.bind (fX5_corners M x1) (fun T => gd (T.1 = 0 ∨ T.1 = 2) (if T.1 = 0 then some (T.2.1) else some ((-2000000002))))
abbrev rmL_corners : Room := { frames := 7, cells := 0, slots := 0, locals := 111 }
abbrev rtL_corners : Room := { frames := 7, cells := 1, slots := 6, locals := 111 }
theorem hc_corners_0 : Cond.classLink RL 13 "java/lang/IllegalArgumentException" ∈ wsL_corners := by decide +kernel
theorem hk_corners_0 : Cond.constant RL 15 (-2000000002) ∈ wsL_corners := by decide +kernel
set_option maxRecDepth 100000 in
set_option maxHeartbeats 4000000 in
theorem kL_corners (l : Launch) (hl : l.stackTraces = false) (ad : Nat → Nat) (M : Mem) (x1 : Int) (T : Int) (h : fL_corners M x1 = some T) : HK l yL_corners wsL_corners rmL_corners ad [.ref (ad 28), iV (x1)] 0 M (some (iV (T))) M := by
  refine HK.ofW (cc := cL_corners) (nL := 3) (rt := (some .int)) (own := RL) (hh := [(0, 5, 6, 13)]) (by decide +kernel) rfl rfl (Nat.le_of_ble_eq_true rfl) ⟨Nat.le_of_ble_eq_true rfl, Nat.le_of_ble_eq_true rfl⟩ (fun G cx => ?_)
  show G (0, M) 0 [(0, .ref (ad 28)), (1, iV (x1))] []
  unfold fL_corners at h
  obtain ⟨U, e, h⟩ := ob h
  by_cases z : U.1 = 0
  · rw [if_pos z] at h
    cases h
    refine bx_aload_n cx 0 dL_corners_0 rfl rfl ?_
    refine bx_iload_n cx 1 dL_corners_1 rfl rfl ?_
    refine bx_callC (As := [iV (x1)]) (n := 1) (st := []) cx (kX5_corners l ad M x1 _ e z) (Nat.le_of_ble_eq_true rfl) gL_corners_X5_corners rfl ⟨rfl, rfl⟩ (by decide +kernel) rfl ⟨by decide, by decide⟩ rfl (Nat.le_of_ble_eq_true rfl) dL_corners_2 ?_
    exact bx_iret cx dL_corners_5 rfl (Nat.le_of_ble_eq_true rfl) ⟨rfl, rfl⟩
  · rw [if_neg z] at h
    cases h
set_option maxRecDepth 100000 in
set_option maxHeartbeats 4000000 in
theorem tL_corners_k (l : Launch) (hl : l.stackTraces = false) (ad : Nat → Nat) (M : Mem) (x1 : Int) (T : Int) (h : tL_corners M x1 = some T) : HK l yL_corners wsL_corners rtL_corners ad [.ref (ad 28), iV (x1)] 1 M (some (iV (T))) M := by
  refine HK.ofW (cc := cL_corners) (nL := 3) (rt := (some .int)) (own := RL) (hh := [(0, 5, 6, 13)]) (by decide +kernel) rfl rfl (Nat.le_of_ble_eq_true rfl) ⟨Nat.le_of_ble_eq_true rfl, Nat.le_of_ble_eq_true rfl⟩ (fun G cx => ?_)
  show G (0, M) 0 [(0, .ref (ad 28)), (1, iV (x1))] []
  unfold tL_corners at h
  obtain ⟨U, e, h⟩ := ob h
  obtain ⟨hT, h⟩ := gd_some h
  by_cases z : U.1 = 0
  · rw [if_pos z] at h
    cases h
    refine bx_aload_n cx 0 dL_corners_0 rfl rfl ?_
    refine bx_iload_n cx 1 dL_corners_1 rfl rfl ?_
    refine bx_callC (As := [iV (x1)]) (n := 1) (st := []) cx (kX5_corners l ad M x1 _ e z) (Nat.le_of_ble_eq_true rfl) gL_corners_X5_corners rfl ⟨rfl, rfl⟩ (by decide +kernel) rfl ⟨by decide, by decide⟩ rfl (Nat.le_of_ble_eq_true rfl) dL_corners_2 ?_
    exact bx_iret cx dL_corners_5 rfl (Nat.le_of_ble_eq_true rfl) ⟨rfl, rfl⟩
  · rw [if_neg z] at h
    cases h
    have e1 : U.1 = 2 := hT.resolve_left z
    have hx := xX5_corners l hl ad M x1 _ e z
    rw [e1] at hx
    refine bx_aload_n cx 0 dL_corners_0 rfl rfl ?_
    refine bx_iload_n cx 1 dL_corners_1 rfl rfl ?_
    refine bx_callX (As := [iV (x1)]) (n := 1) (st := []) (hp := 6) (ct := 1) (E := "java/lang/IllegalArgumentException") cx hx (Nat.le_of_ble_eq_true rfl) gL_corners_X5_corners rfl ⟨rfl, rfl⟩ (by decide +kernel) rfl ⟨by decide, by decide⟩ rfl (Nat.le_of_ble_eq_true rfl) dL_corners_2 [] ⟨0, 5, 6, 13⟩ [] (fun _ e => e) rfl (fun z hz => by cases hz) (fun h => absurd rfl h) (by decide) (by decide) hc_corners_0 (by decide +kernel) rfl (fun qq => ?_)
    refine bx_astore_n (lv' := [(2, .ref qq), (0, .ref (ad 28)), (1, iV (x1))]) cx dL_corners_6 rfl (by decide) rfl ?_
    refine bx_ldc (z := (-2000000002)) cx dL_corners_7 hk_corners_0 (by decide) ?_
    exact bx_iret cx dL_corners_9 rfl (Nat.le_of_ble_eq_true rfl) ⟨rfl, rfl⟩
def fL_energy (M : Mem) (x1 : Int) : Option (Int × Mem) := Option.bind (fX5_energy M x1) (fun T => if T.1 = 0 then some (T.2.1, T.2.2) else none)
def tL_energy (M : Mem) (x1 : Int) : Option (Int × Mem) := Option.bind (fX5_energy M x1) (fun T => gd (T.1 = 0 ∨ T.1 = 2) (if T.1 = 0 then some (T.2.1, T.2.2) else some ((-2000000002), T.2.2)))
abbrev rmL_energy : Room := { frames := 7, cells := 0, slots := 0, locals := 168 }
abbrev rtL_energy : Room := { frames := 7, cells := 1, slots := 6, locals := 168 }
theorem hc_energy_0 : Cond.classLink RL 13 "java/lang/IllegalArgumentException" ∈ wsL_energy := by decide +kernel
theorem hk_energy_0 : Cond.constant RL 15 (-2000000002) ∈ wsL_energy := by decide +kernel
set_option maxRecDepth 100000 in
set_option maxHeartbeats 4000000 in
theorem kL_energy (l : Launch) (hl : l.stackTraces = false) (ad : Nat → Nat) (M : Mem) (x1 : Int) (T : Int × Mem) (h : fL_energy M x1 = some T) : HK l yL_energy wsL_energy rmL_energy ad [.ref (ad 28), iV (x1)] 0 M (some (iV (T.1))) T.2 := by
  refine HK.ofW (cc := cL_energy) (nL := 3) (rt := (some .int)) (own := RL) (hh := [(0, 5, 6, 13)]) (by decide +kernel) rfl rfl (Nat.le_of_ble_eq_true rfl) ⟨Nat.le_of_ble_eq_true rfl, Nat.le_of_ble_eq_true rfl⟩ (fun G cx => ?_)
  show G (0, M) 0 [(0, .ref (ad 28)), (1, iV (x1))] []
  unfold fL_energy at h
  obtain ⟨U, e, h⟩ := ob h
  by_cases z : U.1 = 0
  · rw [if_pos z] at h
    cases h
    refine bx_aload_n cx 0 dL_energy_0 rfl rfl ?_
    refine bx_iload_n cx 1 dL_energy_1 rfl rfl ?_
    refine bx_callC (As := [iV (x1)]) (n := 1) (st := []) cx (kX5_energy l ad M x1 _ e z) (Nat.le_of_ble_eq_true rfl) gL_energy_X5_energy rfl ⟨rfl, rfl⟩ (by decide +kernel) rfl ⟨by decide, by decide⟩ rfl (Nat.le_of_ble_eq_true rfl) dL_energy_2 ?_
    exact bx_iret cx dL_energy_5 rfl (Nat.le_of_ble_eq_true rfl) ⟨rfl, rfl⟩
  · rw [if_neg z] at h
    cases h
set_option maxRecDepth 100000 in
set_option maxHeartbeats 4000000 in
theorem tL_energy_k (l : Launch) (hl : l.stackTraces = false) (ad : Nat → Nat) (M : Mem) (x1 : Int) (T : Int × Mem) (h : tL_energy M x1 = some T) : HK l yL_energy wsL_energy rtL_energy ad [.ref (ad 28), iV (x1)] 1 M (some (iV (T.1))) T.2 := by
  refine HK.ofW (cc := cL_energy) (nL := 3) (rt := (some .int)) (own := RL) (hh := [(0, 5, 6, 13)]) (by decide +kernel) rfl rfl (Nat.le_of_ble_eq_true rfl) ⟨Nat.le_of_ble_eq_true rfl, Nat.le_of_ble_eq_true rfl⟩ (fun G cx => ?_)
  show G (0, M) 0 [(0, .ref (ad 28)), (1, iV (x1))] []
  unfold tL_energy at h
  obtain ⟨U, e, h⟩ := ob h
  obtain ⟨hT, h⟩ := gd_some h
  by_cases z : U.1 = 0
  · rw [if_pos z] at h
    cases h
    refine bx_aload_n cx 0 dL_energy_0 rfl rfl ?_
    refine bx_iload_n cx 1 dL_energy_1 rfl rfl ?_
    refine bx_callC (As := [iV (x1)]) (n := 1) (st := []) cx (kX5_energy l ad M x1 _ e z) (Nat.le_of_ble_eq_true rfl) gL_energy_X5_energy rfl ⟨rfl, rfl⟩ (by decide +kernel) rfl ⟨by decide, by decide⟩ rfl (Nat.le_of_ble_eq_true rfl) dL_energy_2 ?_
    exact bx_iret cx dL_energy_5 rfl (Nat.le_of_ble_eq_true rfl) ⟨rfl, rfl⟩
  · rw [if_neg z] at h
    cases h
    have e1 : U.1 = 2 := hT.resolve_left z
    have hx := xX5_energy l hl ad M x1 _ e z
    rw [e1] at hx
    refine bx_aload_n cx 0 dL_energy_0 rfl rfl ?_
    refine bx_iload_n cx 1 dL_energy_1 rfl rfl ?_
    refine bx_callX (As := [iV (x1)]) (n := 1) (st := []) (hp := 6) (ct := 1) (E := "java/lang/IllegalArgumentException") cx hx (Nat.le_of_ble_eq_true rfl) gL_energy_X5_energy rfl ⟨rfl, rfl⟩ (by decide +kernel) rfl ⟨by decide, by decide⟩ rfl (Nat.le_of_ble_eq_true rfl) dL_energy_2 [] ⟨0, 5, 6, 13⟩ [] (fun _ e => e) rfl (fun z hz => by cases hz) (fun h => absurd rfl h) (by decide) (by decide) hc_energy_0 (by decide +kernel) rfl (fun qq => ?_)
    refine bx_astore_n (lv' := [(2, .ref qq), (0, .ref (ad 28)), (1, iV (x1))]) cx dL_energy_6 rfl (by decide) rfl ?_
    refine bx_ldc (z := (-2000000002)) cx dL_energy_7 hk_energy_0 (by decide) ?_
    exact bx_iret cx dL_energy_9 rfl (Nat.le_of_ble_eq_true rfl) ⟨rfl, rfl⟩
