abbrev rmL_cost : Room := { frames := 7, cells := 1, slots := 6, locals := 114 }
theorem hc_cost_0 : Cond.classLink RL 13 "java/lang/IllegalArgumentException" ∈ wsL_cost := by decide +kernel
set_option maxRecDepth 100000 in
set_option maxHeartbeats 4000000 in
theorem hL_cost (l : Launch) (hl : l.stackTraces = false) (adC adM : Nat → Nat) (ao : Nat) (S : LSt) (x1 : Int) (x2 : Int) (T : Nat × Int × Mem) (h : fX5_cost S.2.1 x1 x2 = some T) (hT : T.1 = 0 ∨ T.1 = 2) : HM l yL_cost wsL_cost rmL_cost adC adM ao [.ref (adC 26), iV (x1), iV (x2), .ref ao] S (if T.1 = 0 then 0 else 1) (S.1 + 1, T.2.2, S.2.2.1, if T.1 = 0 then vp_updL S.2.2.2 0 (Int32.ofInt T.2.1).toInt64 else S.2.2.2) := by
  refine HM.of (cc := cL_cost) (nL := 5) (own := RL) (hh := [(0, 10, 13, 13)]) (by decide +kernel) rfl rfl (Nat.le_of_ble_eq_true rfl) ⟨by decide, by decide⟩ (fun G cx => ?_)
  show G (0, S.2) 0 [(0, .ref (adC 26)), (1, iV (x1)), (2, iV (x2)), (3, .ref ao)] []
  refine lx_aload_n cx 3 dL_cost_0 rfl rfl ?_
  refine lx_iconst cx dL_cost_1 ?_
  refine lx_aload_n cx 0 dL_cost_2 rfl rfl ?_
  refine lx_iload_n cx 1 dL_cost_3 rfl rfl ?_
  refine lx_iload_n cx 2 dL_cost_4 rfl rfl ?_
  by_cases z : T.1 = 0
  · rw [if_pos z, if_pos z] at cx
    refine lx_callC (As := [iV (x1), iV (x2)]) (n := 2) (st := [iV 0, .ref ao]) cx (kX5_cost l adC S.2.1 x1 x2 _ h z) (Nat.le_of_ble_eq_true rfl) gL_cost_X5_cost rfl ⟨rfl, rfl⟩ (by decide +kernel) rfl ⟨by decide, by decide⟩ rfl (Nat.le_of_ble_eq_true rfl) dL_cost_5 ?_
    refine lx_i2l cx dL_cost_8 ?_
    refine lx_last cx dL_cost_9 ?_
    refine lx_goto cx 17 dL_cost_10 (by decide) ?_
    refine lx_iconst cx dL_cost_17 ?_
    exact lx_ret cx dL_cost_18 (Nat.le_of_ble_eq_true rfl) ⟨rfl, rfl⟩
  · rw [if_neg z, if_neg z] at cx
    have e1 : T.1 = 2 := hT.resolve_left z
    have hx := xX5_cost l hl adC S.2.1 x1 x2 _ h z
    rw [e1] at hx
    refine lx_callX (As := [iV (x1), iV (x2)]) (n := 2) (st := [iV 0, .ref ao]) (hp := 13) (ct := 1) (E := "java/lang/IllegalArgumentException") cx hx (Nat.le_of_ble_eq_true rfl) gL_cost_X5_cost rfl ⟨rfl, rfl⟩ (by decide +kernel) rfl ⟨by decide, by decide⟩ rfl (Nat.le_of_ble_eq_true rfl) dL_cost_5 [] ⟨0, 10, 13, 13⟩ [] (fun _ e => e) rfl (fun z hz => by cases hz) (fun h => absurd rfl h) (by decide) (by decide) hc_cost_0 (by decide +kernel) rfl (fun qq => ?_)
    refine lx_astore (lv' := [(4, .ref qq), (0, .ref (adC 26)), (1, iV (x1)), (2, iV (x2)), (3, .ref ao)]) cx dL_cost_13 (by decide) rfl ?_
    refine lx_iconst cx dL_cost_15 ?_
    exact lx_ret cx dL_cost_16 (Nat.le_of_ble_eq_true rfl) ⟨rfl, rfl⟩
abbrev rmL_lay : Room := { frames := 8, cells := 1, slots := 6, locals := 134 }
theorem hc_lay_0 : Cond.classLink RL 18 "java/lang/IndexOutOfBoundsException" ∈ wsL_lay := by decide +kernel
theorem hc_lay_1 : Cond.classLink RL 13 "java/lang/IllegalArgumentException" ∈ wsL_lay := by decide +kernel
set_option maxRecDepth 100000 in
set_option maxHeartbeats 4000000 in
theorem hL_lay (l : Launch) (hl : l.stackTraces = false) (adC adM : Nat → Nat) (ao : Nat) (S : LSt) (x1 : Int) (x2 : Int) (T : Nat × Int × Mem) (h : fX5_lay S.2.1 x1 x2 = some T) (hT : T.1 = 0 ∨ T.1 = 1 ∨ T.1 = 2) : HM l yL_lay wsL_lay rmL_lay adC adM ao [.ref (adC 26), iV (x1), iV (x2), .ref ao] S (if T.1 = 0 then 0 else if T.1 = 1 then 1 else 2) (S.1 + 1, T.2.2, S.2.2.1, if T.1 = 0 then vp_updL S.2.2.2 0 (Int32.ofInt T.2.1).toInt64 else S.2.2.2) := by
  refine HM.of (cc := cL_lay) (nL := 5) (own := RL) (hh := [(0, 10, 13, 18), (0, 10, 17, 13)]) (by decide +kernel) rfl rfl (Nat.le_of_ble_eq_true rfl) ⟨by decide, by decide⟩ (fun G cx => ?_)
  show G (0, S.2) 0 [(0, .ref (adC 26)), (1, iV (x1)), (2, iV (x2)), (3, .ref ao)] []
  refine lx_aload_n cx 3 dL_lay_0 rfl rfl ?_
  refine lx_iconst cx dL_lay_1 ?_
  refine lx_aload_n cx 0 dL_lay_2 rfl rfl ?_
  refine lx_iload_n cx 1 dL_lay_3 rfl rfl ?_
  refine lx_iload_n cx 2 dL_lay_4 rfl rfl ?_
  by_cases z : T.1 = 0
  · rw [if_pos z, if_pos z] at cx
    refine lx_callC (As := [iV (x1), iV (x2)]) (n := 2) (st := [iV 0, .ref ao]) cx (kX5_lay l adC S.2.1 x1 x2 _ h z) (Nat.le_of_ble_eq_true rfl) gL_lay_X5_lay rfl ⟨rfl, rfl⟩ (by decide +kernel) rfl ⟨by decide, by decide⟩ rfl (Nat.le_of_ble_eq_true rfl) dL_lay_5 ?_
    refine lx_i2l cx dL_lay_8 ?_
    refine lx_last cx dL_lay_9 ?_
    refine lx_goto cx 21 dL_lay_10 (by decide) ?_
    refine lx_iconst cx dL_lay_21 ?_
    exact lx_ret cx dL_lay_22 (Nat.le_of_ble_eq_true rfl) ⟨rfl, rfl⟩
  · rw [if_neg z, if_neg z] at cx
    rcases hT.resolve_left z with e1 | e1
    · rw [if_pos e1] at cx
      have hx := xX5_lay l hl adC S.2.1 x1 x2 _ h z
      rw [e1] at hx
      refine lx_callX (As := [iV (x1), iV (x2)]) (n := 2) (st := [iV 0, .ref ao]) (hp := 13) (ct := 1) (E := "java/lang/IndexOutOfBoundsException") cx hx (Nat.le_of_ble_eq_true rfl) gL_lay_X5_lay rfl ⟨rfl, rfl⟩ (by decide +kernel) rfl ⟨by decide, by decide⟩ rfl (Nat.le_of_ble_eq_true rfl) dL_lay_5 [] ⟨0, 10, 13, 18⟩ [⟨0, 10, 17, 13⟩] (fun _ e => e) rfl (fun z hz => by cases hz) (fun h => absurd rfl h) (by decide) (by decide) hc_lay_0 (by decide +kernel) rfl (fun qq => ?_)
      refine lx_astore (lv' := [(4, .ref qq), (0, .ref (adC 26)), (1, iV (x1)), (2, iV (x2)), (3, .ref ao)]) cx dL_lay_13 (by decide) rfl ?_
      refine lx_iconst cx dL_lay_15 ?_
      exact lx_ret cx dL_lay_16 (Nat.le_of_ble_eq_true rfl) ⟨rfl, rfl⟩
    · rw [if_neg (by rw [e1]; decide)] at cx
      have hx := xX5_lay l hl adC S.2.1 x1 x2 _ h z
      rw [e1] at hx
      refine lx_callX (As := [iV (x1), iV (x2)]) (n := 2) (st := [iV 0, .ref ao]) (hp := 17) (ct := 18) (E := "java/lang/IllegalArgumentException") cx hx (Nat.le_of_ble_eq_true rfl) gL_lay_X5_lay rfl ⟨rfl, rfl⟩ (by decide +kernel) rfl ⟨by decide, by decide⟩ rfl (Nat.le_of_ble_eq_true rfl) dL_lay_5 [⟨0, 10, 13, 18⟩] ⟨0, 10, 17, 13⟩ [] (fun _ e => e) rfl (fun z hz => by simp only [List.mem_cons, List.not_mem_nil, or_false] at hz; subst hz; exact ⟨rfl, by decide⟩) (fun _ => ⟨hc_lay_0, Or.inl rfl⟩) (by decide) (by decide) hc_lay_1 (by decide +kernel) rfl (fun qq => ?_)
      refine lx_astore (lv' := [(4, .ref qq), (0, .ref (adC 26)), (1, iV (x1)), (2, iV (x2)), (3, .ref ao)]) cx dL_lay_17 (by decide) rfl ?_
      refine lx_iconst cx dL_lay_19 ?_
      exact lx_ret cx dL_lay_20 (Nat.le_of_ble_eq_true rfl) ⟨rfl, rfl⟩
abbrev rmL_edge : Room := { frames := 8, cells := 1, slots := 6, locals := 131 }
theorem hc_edge_0 : Cond.classLink RL 18 "java/lang/IndexOutOfBoundsException" ∈ wsL_edge := by decide +kernel
set_option maxRecDepth 100000 in
set_option maxHeartbeats 4000000 in
theorem hL_edge (l : Launch) (hl : l.stackTraces = false) (adC adM : Nat → Nat) (ao : Nat) (S : LSt) (x1 : Int) (T : Nat × Int × Mem) (h : fX5_edge S.2.1 x1 = some T) (hT : T.1 = 0 ∨ T.1 = 1) : HM l yL_edge wsL_edge rmL_edge adC adM ao [.ref (adC 26), iV (x1), .ref ao] S (if T.1 = 0 then 0 else 1) (S.1 + 1, S.2.1, S.2.2.1, if T.1 = 0 then vp_updL S.2.2.2 0 (Int32.ofInt T.2.1).toInt64 else S.2.2.2) := by
  refine HM.of (cc := cL_edge) (nL := 4) (own := RL) (hh := [(0, 9, 12, 18)]) (by decide +kernel) rfl rfl (Nat.le_of_ble_eq_true rfl) ⟨by decide, by decide⟩ (fun G cx => ?_)
  show G (0, S.2) 0 [(0, .ref (adC 26)), (1, iV (x1)), (2, .ref ao)] []
  refine lx_aload_n cx 2 dL_edge_0 rfl rfl ?_
  refine lx_iconst cx dL_edge_1 ?_
  refine lx_aload_n cx 0 dL_edge_2 rfl rfl ?_
  refine lx_iload_n cx 1 dL_edge_3 rfl rfl ?_
  by_cases z : T.1 = 0
  · rw [if_pos z, if_pos z] at cx
    refine lx_callC (As := [iV (x1)]) (n := 1) (st := [iV 0, .ref ao]) cx (kX5_edge l adC S.2.1 x1 _ h z) (Nat.le_of_ble_eq_true rfl) gL_edge_X5_edge rfl ⟨rfl, rfl⟩ (by decide +kernel) rfl ⟨by decide, by decide⟩ rfl (Nat.le_of_ble_eq_true rfl) dL_edge_4 ?_
    refine lx_i2l cx dL_edge_7 ?_
    refine lx_last cx dL_edge_8 ?_
    refine lx_goto cx 15 dL_edge_9 (by decide) ?_
    refine lx_iconst cx dL_edge_15 ?_
    exact lx_ret cx dL_edge_16 (Nat.le_of_ble_eq_true rfl) ⟨rfl, rfl⟩
  · rw [if_neg z, if_neg z] at cx
    have e1 : T.1 = 1 := hT.resolve_left z
    have hx := xX5_edge l hl adC S.2.1 x1 _ h z
    rw [e1] at hx
    refine lx_callX (As := [iV (x1)]) (n := 1) (st := [iV 0, .ref ao]) (hp := 12) (ct := 1) (E := "java/lang/IndexOutOfBoundsException") cx hx (Nat.le_of_ble_eq_true rfl) gL_edge_X5_edge rfl ⟨rfl, rfl⟩ (by decide +kernel) rfl ⟨by decide, by decide⟩ rfl (Nat.le_of_ble_eq_true rfl) dL_edge_4 [] ⟨0, 9, 12, 18⟩ [] (fun _ e => e) rfl (fun z hz => by cases hz) (fun h => absurd rfl h) (by decide) (by decide) hc_edge_0 (by decide +kernel) rfl (fun qq => ?_)
    refine lx_astore_n (lv' := [(3, .ref qq), (0, .ref (adC 26)), (1, iV (x1)), (2, .ref ao)]) cx dL_edge_12 rfl (by decide) rfl ?_
    refine lx_iconst cx dL_edge_13 ?_
    exact lx_ret cx dL_edge_14 (Nat.le_of_ble_eq_true rfl) ⟨rfl, rfl⟩
abbrev rmL_apart : Room := { frames := 8, cells := 1, slots := 6, locals := 132 }
theorem hc_apart_0 : Cond.classLink RL 18 "java/lang/IndexOutOfBoundsException" ∈ wsL_apart := by decide +kernel
set_option maxRecDepth 100000 in
set_option maxHeartbeats 4000000 in
theorem hL_apart (l : Launch) (hl : l.stackTraces = false) (adC adM : Nat → Nat) (ao : Nat) (S : LSt) (x1 : Int) (x2 : Int) (T : Nat × Int × Mem) (h : fX5_apart S.2.1 x1 x2 = some T) (hT : T.1 = 0 ∨ T.1 = 1) : HM l yL_apart wsL_apart rmL_apart adC adM ao [.ref (adC 26), iV (x1), iV (x2), .ref ao] S (if T.1 = 0 then 0 else 1) (S.1 + 1, T.2.2, S.2.2.1, if T.1 = 0 then vp_updL S.2.2.2 0 (Int32.ofInt T.2.1).toInt64 else S.2.2.2) := by
  refine HM.of (cc := cL_apart) (nL := 5) (own := RL) (hh := [(0, 10, 13, 18)]) (by decide +kernel) rfl rfl (Nat.le_of_ble_eq_true rfl) ⟨by decide, by decide⟩ (fun G cx => ?_)
  show G (0, S.2) 0 [(0, .ref (adC 26)), (1, iV (x1)), (2, iV (x2)), (3, .ref ao)] []
  refine lx_aload_n cx 3 dL_apart_0 rfl rfl ?_
  refine lx_iconst cx dL_apart_1 ?_
  refine lx_aload_n cx 0 dL_apart_2 rfl rfl ?_
  refine lx_iload_n cx 1 dL_apart_3 rfl rfl ?_
  refine lx_iload_n cx 2 dL_apart_4 rfl rfl ?_
  by_cases z : T.1 = 0
  · rw [if_pos z, if_pos z] at cx
    refine lx_callC (As := [iV (x1), iV (x2)]) (n := 2) (st := [iV 0, .ref ao]) cx (kX5_apart l adC S.2.1 x1 x2 _ h z) (Nat.le_of_ble_eq_true rfl) gL_apart_X5_apart rfl ⟨rfl, rfl⟩ (by decide +kernel) rfl ⟨by decide, by decide⟩ rfl (Nat.le_of_ble_eq_true rfl) dL_apart_5 ?_
    refine lx_i2l cx dL_apart_8 ?_
    refine lx_last cx dL_apart_9 ?_
    refine lx_goto cx 17 dL_apart_10 (by decide) ?_
    refine lx_iconst cx dL_apart_17 ?_
    exact lx_ret cx dL_apart_18 (Nat.le_of_ble_eq_true rfl) ⟨rfl, rfl⟩
  · rw [if_neg z, if_neg z] at cx
    have e1 : T.1 = 1 := hT.resolve_left z
    have hx := xX5_apart l hl adC S.2.1 x1 x2 _ h z
    rw [e1] at hx
    refine lx_callX (As := [iV (x1), iV (x2)]) (n := 2) (st := [iV 0, .ref ao]) (hp := 13) (ct := 1) (E := "java/lang/IndexOutOfBoundsException") cx hx (Nat.le_of_ble_eq_true rfl) gL_apart_X5_apart rfl ⟨rfl, rfl⟩ (by decide +kernel) rfl ⟨by decide, by decide⟩ rfl (Nat.le_of_ble_eq_true rfl) dL_apart_5 [] ⟨0, 10, 13, 18⟩ [] (fun _ e => e) rfl (fun z hz => by cases hz) (fun h => absurd rfl h) (by decide) (by decide) hc_apart_0 (by decide +kernel) rfl (fun qq => ?_)
    refine lx_astore (lv' := [(4, .ref qq), (0, .ref (adC 26)), (1, iV (x1)), (2, iV (x2)), (3, .ref ao)]) cx dL_apart_13 (by decide) rfl ?_
    refine lx_iconst cx dL_apart_15 ?_
    exact lx_ret cx dL_apart_16 (Nat.le_of_ble_eq_true rfl) ⟨rfl, rfl⟩
abbrev rmL_town : Room := { frames := 8, cells := 1, slots := 6, locals := 131 }
theorem hc_town_0 : Cond.classLink RL 18 "java/lang/IndexOutOfBoundsException" ∈ wsL_town := by decide +kernel
theorem hc_town_1 : Cond.classLink RL 30 "java/lang/IllegalStateException" ∈ wsL_town := by decide +kernel
set_option maxRecDepth 100000 in
set_option maxHeartbeats 4000000 in
theorem hL_town (l : Launch) (hl : l.stackTraces = false) (adC adM : Nat → Nat) (ao : Nat) (S : LSt) (x1 : Int) (T : Nat × Int × Mem) (h : fX5_town S.2.1 x1 = some T) (hT : T.1 = 0 ∨ T.1 = 1 ∨ T.1 = 3) : HM l yL_town wsL_town rmL_town adC adM ao [.ref (adC 26), iV (x1), .ref ao] S (if T.1 = 0 then 0 else if T.1 = 1 then 1 else 2) (S.1 + 1, T.2.2, S.2.2.1, if T.1 = 0 then vp_updL S.2.2.2 0 (Int32.ofInt T.2.1).toInt64 else S.2.2.2) := by
  refine HM.of (cc := cL_town) (nL := 4) (own := RL) (hh := [(0, 9, 12, 18), (0, 9, 15, 30)]) (by decide +kernel) rfl rfl (Nat.le_of_ble_eq_true rfl) ⟨by decide, by decide⟩ (fun G cx => ?_)
  show G (0, S.2) 0 [(0, .ref (adC 26)), (1, iV (x1)), (2, .ref ao)] []
  refine lx_aload_n cx 2 dL_town_0 rfl rfl ?_
  refine lx_iconst cx dL_town_1 ?_
  refine lx_aload_n cx 0 dL_town_2 rfl rfl ?_
  refine lx_iload_n cx 1 dL_town_3 rfl rfl ?_
  by_cases z : T.1 = 0
  · rw [if_pos z, if_pos z] at cx
    refine lx_callC (As := [iV (x1)]) (n := 1) (st := [iV 0, .ref ao]) cx (kX5_town l adC S.2.1 x1 _ h z) (Nat.le_of_ble_eq_true rfl) gL_town_X5_town rfl ⟨rfl, rfl⟩ (by decide +kernel) rfl ⟨by decide, by decide⟩ rfl (Nat.le_of_ble_eq_true rfl) dL_town_4 ?_
    refine lx_i2l cx dL_town_7 ?_
    refine lx_last cx dL_town_8 ?_
    refine lx_goto cx 18 dL_town_9 (by decide) ?_
    refine lx_iconst cx dL_town_18 ?_
    exact lx_ret cx dL_town_19 (Nat.le_of_ble_eq_true rfl) ⟨rfl, rfl⟩
  · rw [if_neg z, if_neg z] at cx
    rcases hT.resolve_left z with e1 | e1
    · rw [if_pos e1] at cx
      have hx := xX5_town l hl adC S.2.1 x1 _ h z
      rw [e1] at hx
      refine lx_callX (As := [iV (x1)]) (n := 1) (st := [iV 0, .ref ao]) (hp := 12) (ct := 1) (E := "java/lang/IndexOutOfBoundsException") cx hx (Nat.le_of_ble_eq_true rfl) gL_town_X5_town rfl ⟨rfl, rfl⟩ (by decide +kernel) rfl ⟨by decide, by decide⟩ rfl (Nat.le_of_ble_eq_true rfl) dL_town_4 [] ⟨0, 9, 12, 18⟩ [⟨0, 9, 15, 30⟩] (fun _ e => e) rfl (fun z hz => by cases hz) (fun h => absurd rfl h) (by decide) (by decide) hc_town_0 (by decide +kernel) rfl (fun qq => ?_)
      refine lx_astore_n (lv' := [(3, .ref qq), (0, .ref (adC 26)), (1, iV (x1)), (2, .ref ao)]) cx dL_town_12 rfl (by decide) rfl ?_
      refine lx_iconst cx dL_town_13 ?_
      exact lx_ret cx dL_town_14 (Nat.le_of_ble_eq_true rfl) ⟨rfl, rfl⟩
    · rw [if_neg (by rw [e1]; decide)] at cx
      have hx := xX5_town l hl adC S.2.1 x1 _ h z
      rw [e1] at hx
      refine lx_callX (As := [iV (x1)]) (n := 1) (st := [iV 0, .ref ao]) (hp := 15) (ct := 18) (E := "java/lang/IllegalStateException") cx hx (Nat.le_of_ble_eq_true rfl) gL_town_X5_town rfl ⟨rfl, rfl⟩ (by decide +kernel) rfl ⟨by decide, by decide⟩ rfl (Nat.le_of_ble_eq_true rfl) dL_town_4 [⟨0, 9, 12, 18⟩] ⟨0, 9, 15, 30⟩ [] (fun _ e => e) rfl (fun z hz => by simp only [List.mem_cons, List.not_mem_nil, or_false] at hz; subst hz; exact ⟨rfl, by decide⟩) (fun _ => ⟨hc_town_0, Or.inr rfl⟩) (by decide) (by decide) hc_town_1 (by decide +kernel) rfl (fun qq => ?_)
      refine lx_astore_n (lv' := [(3, .ref qq), (0, .ref (adC 26)), (1, iV (x1)), (2, .ref ao)]) cx dL_town_15 rfl (by decide) rfl ?_
      refine lx_iconst cx dL_town_16 ?_
      exact lx_ret cx dL_town_17 (Nat.le_of_ble_eq_true rfl) ⟨rfl, rfl⟩
abbrev rmL_away : Room := { frames := 8, cells := 1, slots := 6, locals := 132 }
theorem hc_away_0 : Cond.classLink RL 18 "java/lang/IndexOutOfBoundsException" ∈ wsL_away := by decide +kernel
set_option maxRecDepth 100000 in
set_option maxHeartbeats 4000000 in
theorem hL_away (l : Launch) (hl : l.stackTraces = false) (adC adM : Nat → Nat) (ao : Nat) (S : LSt) (x1 : Int) (T : Nat × Int × Mem) (h : fX5_away S.2.1 x1 = some T) (hT : T.1 = 0 ∨ T.1 = 1) : HM l yL_away wsL_away rmL_away adC adM ao [.ref (adC 26), iV (x1), .ref ao] S (if T.1 = 0 then 0 else 1) (S.1 + 1, T.2.2, S.2.2.1, if T.1 = 0 then vp_updL S.2.2.2 0 (Int32.ofInt T.2.1).toInt64 else S.2.2.2) := by
  refine HM.of (cc := cL_away) (nL := 4) (own := RL) (hh := [(0, 9, 12, 18)]) (by decide +kernel) rfl rfl (Nat.le_of_ble_eq_true rfl) ⟨by decide, by decide⟩ (fun G cx => ?_)
  show G (0, S.2) 0 [(0, .ref (adC 26)), (1, iV (x1)), (2, .ref ao)] []
  refine lx_aload_n cx 2 dL_away_0 rfl rfl ?_
  refine lx_iconst cx dL_away_1 ?_
  refine lx_aload_n cx 0 dL_away_2 rfl rfl ?_
  refine lx_iload_n cx 1 dL_away_3 rfl rfl ?_
  by_cases z : T.1 = 0
  · rw [if_pos z, if_pos z] at cx
    refine lx_callC (As := [iV (x1)]) (n := 1) (st := [iV 0, .ref ao]) cx (kX5_away l adC S.2.1 x1 _ h z) (Nat.le_of_ble_eq_true rfl) gL_away_X5_away rfl ⟨rfl, rfl⟩ (by decide +kernel) rfl ⟨by decide, by decide⟩ rfl (Nat.le_of_ble_eq_true rfl) dL_away_4 ?_
    refine lx_i2l cx dL_away_7 ?_
    refine lx_last cx dL_away_8 ?_
    refine lx_goto cx 15 dL_away_9 (by decide) ?_
    refine lx_iconst cx dL_away_15 ?_
    exact lx_ret cx dL_away_16 (Nat.le_of_ble_eq_true rfl) ⟨rfl, rfl⟩
  · rw [if_neg z, if_neg z] at cx
    have e1 : T.1 = 1 := hT.resolve_left z
    have hx := xX5_away l hl adC S.2.1 x1 _ h z
    rw [e1] at hx
    refine lx_callX (As := [iV (x1)]) (n := 1) (st := [iV 0, .ref ao]) (hp := 12) (ct := 1) (E := "java/lang/IndexOutOfBoundsException") cx hx (Nat.le_of_ble_eq_true rfl) gL_away_X5_away rfl ⟨rfl, rfl⟩ (by decide +kernel) rfl ⟨by decide, by decide⟩ rfl (Nat.le_of_ble_eq_true rfl) dL_away_4 [] ⟨0, 9, 12, 18⟩ [] (fun _ e => e) rfl (fun z hz => by cases hz) (fun h => absurd rfl h) (by decide) (by decide) hc_away_0 (by decide +kernel) rfl (fun qq => ?_)
    refine lx_astore_n (lv' := [(3, .ref qq), (0, .ref (adC 26)), (1, iV (x1)), (2, .ref ao)]) cx dL_away_12 rfl (by decide) rfl ?_
    refine lx_iconst cx dL_away_13 ?_
    exact lx_ret cx dL_away_14 (Nat.le_of_ble_eq_true rfl) ⟨rfl, rfl⟩
abbrev rmL_townAt : Room := { frames := 8, cells := 1, slots := 6, locals := 132 }
theorem hc_townAt_0 : Cond.classLink RL 18 "java/lang/IndexOutOfBoundsException" ∈ wsL_townAt := by decide +kernel
set_option maxRecDepth 100000 in
set_option maxHeartbeats 4000000 in
theorem hL_townAt (l : Launch) (hl : l.stackTraces = false) (adC adM : Nat → Nat) (ao : Nat) (S : LSt) (x1 : Int) (T : Nat × Int × Mem) (h : fX5_townAt S.2.1 x1 = some T) (hT : T.1 = 0 ∨ T.1 = 1) : HM l yL_townAt wsL_townAt rmL_townAt adC adM ao [.ref (adC 26), iV (x1), .ref ao] S (if T.1 = 0 then 0 else 1) (S.1 + 1, S.2.1, S.2.2.1, if T.1 = 0 then vp_updL S.2.2.2 0 (Int32.ofInt T.2.1).toInt64 else S.2.2.2) := by
  refine HM.of (cc := cL_townAt) (nL := 4) (own := RL) (hh := [(0, 9, 12, 18)]) (by decide +kernel) rfl rfl (Nat.le_of_ble_eq_true rfl) ⟨by decide, by decide⟩ (fun G cx => ?_)
  show G (0, S.2) 0 [(0, .ref (adC 26)), (1, iV (x1)), (2, .ref ao)] []
  refine lx_aload_n cx 2 dL_townAt_0 rfl rfl ?_
  refine lx_iconst cx dL_townAt_1 ?_
  refine lx_aload_n cx 0 dL_townAt_2 rfl rfl ?_
  refine lx_iload_n cx 1 dL_townAt_3 rfl rfl ?_
  by_cases z : T.1 = 0
  · rw [if_pos z, if_pos z] at cx
    refine lx_callC (As := [iV (x1)]) (n := 1) (st := [iV 0, .ref ao]) cx (kX5_townAt l adC S.2.1 x1 _ h z) (Nat.le_of_ble_eq_true rfl) gL_townAt_X5_townAt rfl ⟨rfl, rfl⟩ (by decide +kernel) rfl ⟨by decide, by decide⟩ rfl (Nat.le_of_ble_eq_true rfl) dL_townAt_4 ?_
    refine lx_i2l cx dL_townAt_7 ?_
    refine lx_last cx dL_townAt_8 ?_
    refine lx_goto cx 15 dL_townAt_9 (by decide) ?_
    refine lx_iconst cx dL_townAt_15 ?_
    exact lx_ret cx dL_townAt_16 (Nat.le_of_ble_eq_true rfl) ⟨rfl, rfl⟩
  · rw [if_neg z, if_neg z] at cx
    have e1 : T.1 = 1 := hT.resolve_left z
    have hx := xX5_townAt l hl adC S.2.1 x1 _ h z
    rw [e1] at hx
    refine lx_callX (As := [iV (x1)]) (n := 1) (st := [iV 0, .ref ao]) (hp := 12) (ct := 1) (E := "java/lang/IndexOutOfBoundsException") cx hx (Nat.le_of_ble_eq_true rfl) gL_townAt_X5_townAt rfl ⟨rfl, rfl⟩ (by decide +kernel) rfl ⟨by decide, by decide⟩ rfl (Nat.le_of_ble_eq_true rfl) dL_townAt_4 [] ⟨0, 9, 12, 18⟩ [] (fun _ e => e) rfl (fun z hz => by cases hz) (fun h => absurd rfl h) (by decide) (by decide) hc_townAt_0 (by decide +kernel) rfl (fun qq => ?_)
    refine lx_astore_n (lv' := [(3, .ref qq), (0, .ref (adC 26)), (1, iV (x1)), (2, .ref ao)]) cx dL_townAt_12 rfl (by decide) rfl ?_
    refine lx_iconst cx dL_townAt_13 ?_
    exact lx_ret cx dL_townAt_14 (Nat.le_of_ble_eq_true rfl) ⟨rfl, rfl⟩
abbrev rmL_isUsed : Room := { frames := 8, cells := 1, slots := 6, locals := 147 }
theorem hc_isUsed_0 : Cond.classLink RL 18 "java/lang/IndexOutOfBoundsException" ∈ wsL_isUsed := by decide +kernel
set_option maxRecDepth 100000 in
set_option maxHeartbeats 4000000 in
theorem hL_isUsed (l : Launch) (hl : l.stackTraces = false) (adC adM : Nat → Nat) (ao : Nat) (S : LSt) (x1 : Int) (T : Nat × Int × Mem) (h : fX5_isUsed S.2.1 x1 = some T) (hT : T.1 = 0 ∨ T.1 = 1) (hz : T.1 = 0 → T.2.1 = 0 ∨ T.2.1 = 1) : HM l yL_isUsed wsL_isUsed rmL_isUsed adC adM ao [.ref (adC 26), iV (x1), .ref ao] S (if T.1 = 0 then 0 else 1) (S.1 + 1, T.2.2, S.2.2.1, if T.1 = 0 then vp_updL S.2.2.2 0 (if T.2.1 = 0 then 0 else 1) else S.2.2.2) := by
  refine HM.of (cc := cL_isUsed) (nL := 4) (own := RL) (hh := [(0, 16, 19, 18)]) (by decide +kernel) rfl rfl (Nat.le_of_ble_eq_true rfl) ⟨by decide, by decide⟩ (fun G cx => ?_)
  show G (0, S.2) 0 [(0, .ref (adC 26)), (1, iV (x1)), (2, .ref ao)] []
  refine lx_aload_n cx 2 dL_isUsed_0 rfl rfl ?_
  refine lx_iconst cx dL_isUsed_1 ?_
  refine lx_aload_n cx 0 dL_isUsed_2 rfl rfl ?_
  refine lx_iload_n cx 1 dL_isUsed_3 rfl rfl ?_
  by_cases z : T.1 = 0
  · rw [if_pos z, if_pos z] at cx
    refine lx_callC (As := [iV (x1)]) (n := 1) (st := [iV 0, .ref ao]) cx (kX5_isUsed l adC S.2.1 x1 _ h z) (Nat.le_of_ble_eq_true rfl) gL_isUsed_X5_isUsed rfl ⟨rfl, rfl⟩ (by decide +kernel) rfl ⟨by decide, by decide⟩ rfl (Nat.le_of_ble_eq_true rfl) dL_isUsed_4 ?_
    refine lx_if_eq cx 14 dL_isUsed_7 (by decide) (by rcases hz z with e | e <;> rw [e] <;> exact ⟨by decide, by decide⟩) (fun c => ?_) (fun c => ?_)
    · rw [if_pos c] at cx
      refine lx_lconst (v := 0) cx dL_isUsed_14 rfl ?_
      refine lx_last cx dL_isUsed_15 ?_
      refine lx_goto cx 22 dL_isUsed_16 (by decide) ?_
      refine lx_iconst cx dL_isUsed_22 ?_
      exact lx_ret cx dL_isUsed_23 (Nat.le_of_ble_eq_true rfl) ⟨rfl, rfl⟩
    · rw [if_neg c] at cx
      refine lx_lconst (v := 1) cx dL_isUsed_10 rfl ?_
      refine lx_goto cx 15 dL_isUsed_11 (by decide) ?_
      refine lx_last cx dL_isUsed_15 ?_
      refine lx_goto cx 22 dL_isUsed_16 (by decide) ?_
      refine lx_iconst cx dL_isUsed_22 ?_
      exact lx_ret cx dL_isUsed_23 (Nat.le_of_ble_eq_true rfl) ⟨rfl, rfl⟩
  · rw [if_neg z, if_neg z] at cx
    have e1 : T.1 = 1 := hT.resolve_left z
    have hx := xX5_isUsed l hl adC S.2.1 x1 _ h z
    rw [e1] at hx
    refine lx_callX (As := [iV (x1)]) (n := 1) (st := [iV 0, .ref ao]) (hp := 19) (ct := 1) (E := "java/lang/IndexOutOfBoundsException") cx hx (Nat.le_of_ble_eq_true rfl) gL_isUsed_X5_isUsed rfl ⟨rfl, rfl⟩ (by decide +kernel) rfl ⟨by decide, by decide⟩ rfl (Nat.le_of_ble_eq_true rfl) dL_isUsed_4 [] ⟨0, 16, 19, 18⟩ [] (fun _ e => e) rfl (fun z hz => by cases hz) (fun h => absurd rfl h) (by decide) (by decide) hc_isUsed_0 (by decide +kernel) rfl (fun qq => ?_)
    refine lx_astore_n (lv' := [(3, .ref qq), (0, .ref (adC 26)), (1, iV (x1)), (2, .ref ao)]) cx dL_isUsed_19 rfl (by decide) rfl ?_
    refine lx_iconst cx dL_isUsed_20 ?_
    exact lx_ret cx dL_isUsed_21 (Nat.le_of_ble_eq_true rfl) ⟨rfl, rfl⟩
abbrev rmL_twoWays : Room := { frames := 8, cells := 1, slots := 6, locals := 144 }
theorem hc_twoWays_0 : Cond.classLink RL 18 "java/lang/IndexOutOfBoundsException" ∈ wsL_twoWays := by decide +kernel
theorem hc_twoWays_1 : Cond.classLink RL 13 "java/lang/IllegalArgumentException" ∈ wsL_twoWays := by decide +kernel
set_option maxRecDepth 100000 in
set_option maxHeartbeats 4000000 in
theorem hL_twoWays (l : Launch) (hl : l.stackTraces = false) (adC adM : Nat → Nat) (ao : Nat) (S : LSt) (x1 : Int) (x2 : Int) (T : Nat × Int × Mem) (h : fX5_twoWays S.2.1 x1 x2 = some T) (hT : T.1 = 0 ∨ T.1 = 1 ∨ T.1 = 2) : HM l yL_twoWays wsL_twoWays rmL_twoWays adC adM ao [.ref (adC 26), iV (x1), iV (x2), .ref ao] S (if T.1 = 0 then 0 else if T.1 = 1 then 1 else 2) (S.1 + 1, T.2.2, S.2.2.1, if T.1 = 0 then vp_updL S.2.2.2 0 (Int32.ofInt T.2.1).toInt64 else S.2.2.2) := by
  refine HM.of (cc := cL_twoWays) (nL := 5) (own := RL) (hh := [(0, 10, 13, 18), (0, 10, 17, 13)]) (by decide +kernel) rfl rfl (Nat.le_of_ble_eq_true rfl) ⟨by decide, by decide⟩ (fun G cx => ?_)
  show G (0, S.2) 0 [(0, .ref (adC 26)), (1, iV (x1)), (2, iV (x2)), (3, .ref ao)] []
  refine lx_aload_n cx 3 dL_twoWays_0 rfl rfl ?_
  refine lx_iconst cx dL_twoWays_1 ?_
  refine lx_aload_n cx 0 dL_twoWays_2 rfl rfl ?_
  refine lx_iload_n cx 1 dL_twoWays_3 rfl rfl ?_
  refine lx_iload_n cx 2 dL_twoWays_4 rfl rfl ?_
  by_cases z : T.1 = 0
  · rw [if_pos z, if_pos z] at cx
    refine lx_callC (As := [iV (x1), iV (x2)]) (n := 2) (st := [iV 0, .ref ao]) cx (kX5_twoWays l adC S.2.1 x1 x2 _ h z) (Nat.le_of_ble_eq_true rfl) gL_twoWays_X5_twoWays rfl ⟨rfl, rfl⟩ (by decide +kernel) rfl ⟨by decide, by decide⟩ rfl (Nat.le_of_ble_eq_true rfl) dL_twoWays_5 ?_
    refine lx_i2l cx dL_twoWays_8 ?_
    refine lx_last cx dL_twoWays_9 ?_
    refine lx_goto cx 21 dL_twoWays_10 (by decide) ?_
    refine lx_iconst cx dL_twoWays_21 ?_
    exact lx_ret cx dL_twoWays_22 (Nat.le_of_ble_eq_true rfl) ⟨rfl, rfl⟩
  · rw [if_neg z, if_neg z] at cx
    rcases hT.resolve_left z with e1 | e1
    · rw [if_pos e1] at cx
      have hx := xX5_twoWays l hl adC S.2.1 x1 x2 _ h z
      rw [e1] at hx
      refine lx_callX (As := [iV (x1), iV (x2)]) (n := 2) (st := [iV 0, .ref ao]) (hp := 13) (ct := 1) (E := "java/lang/IndexOutOfBoundsException") cx hx (Nat.le_of_ble_eq_true rfl) gL_twoWays_X5_twoWays rfl ⟨rfl, rfl⟩ (by decide +kernel) rfl ⟨by decide, by decide⟩ rfl (Nat.le_of_ble_eq_true rfl) dL_twoWays_5 [] ⟨0, 10, 13, 18⟩ [⟨0, 10, 17, 13⟩] (fun _ e => e) rfl (fun z hz => by cases hz) (fun h => absurd rfl h) (by decide) (by decide) hc_twoWays_0 (by decide +kernel) rfl (fun qq => ?_)
      refine lx_astore (lv' := [(4, .ref qq), (0, .ref (adC 26)), (1, iV (x1)), (2, iV (x2)), (3, .ref ao)]) cx dL_twoWays_13 (by decide) rfl ?_
      refine lx_iconst cx dL_twoWays_15 ?_
      exact lx_ret cx dL_twoWays_16 (Nat.le_of_ble_eq_true rfl) ⟨rfl, rfl⟩
    · rw [if_neg (by rw [e1]; decide)] at cx
      have hx := xX5_twoWays l hl adC S.2.1 x1 x2 _ h z
      rw [e1] at hx
      refine lx_callX (As := [iV (x1), iV (x2)]) (n := 2) (st := [iV 0, .ref ao]) (hp := 17) (ct := 18) (E := "java/lang/IllegalArgumentException") cx hx (Nat.le_of_ble_eq_true rfl) gL_twoWays_X5_twoWays rfl ⟨rfl, rfl⟩ (by decide +kernel) rfl ⟨by decide, by decide⟩ rfl (Nat.le_of_ble_eq_true rfl) dL_twoWays_5 [⟨0, 10, 13, 18⟩] ⟨0, 10, 17, 13⟩ [] (fun _ e => e) rfl (fun z hz => by simp only [List.mem_cons, List.not_mem_nil, or_false] at hz; subst hz; exact ⟨rfl, by decide⟩) (fun _ => ⟨hc_twoWays_0, Or.inl rfl⟩) (by decide) (by decide) hc_twoWays_1 (by decide +kernel) rfl (fun qq => ?_)
      refine lx_astore (lv' := [(4, .ref qq), (0, .ref (adC 26)), (1, iV (x1)), (2, iV (x2)), (3, .ref ao)]) cx dL_twoWays_17 (by decide) rfl ?_
      refine lx_iconst cx dL_twoWays_19 ?_
      exact lx_ret cx dL_twoWays_20 (Nat.le_of_ble_eq_true rfl) ⟨rfl, rfl⟩
abbrev rmL_pin : Room := { frames := 8, cells := 1, slots := 6, locals := 132 }
theorem hc_pin_0 : Cond.classLink RL 18 "java/lang/IndexOutOfBoundsException" ∈ wsL_pin := by decide +kernel
theorem hc_pin_1 : Cond.classLink RL 13 "java/lang/IllegalArgumentException" ∈ wsL_pin := by decide +kernel
set_option maxRecDepth 100000 in
set_option maxHeartbeats 4000000 in
theorem hL_pin (l : Launch) (hl : l.stackTraces = false) (adC adM : Nat → Nat) (ao : Nat) (S : LSt) (x1 : Int) (x2 : Int) (T : Nat × Int × Mem) (h : fX5_pin S.2.1 x1 x2 = some T) (hT : T.1 = 0 ∨ T.1 = 1 ∨ T.1 = 2) : HM l yL_pin wsL_pin rmL_pin adC adM ao [.ref (adC 26), iV (x1), iV (x2), .ref ao] S (if T.1 = 0 then 0 else if T.1 = 1 then 1 else 2) (S.1 + 1, T.2.2, S.2.2.1, if T.1 = 0 then vp_updL S.2.2.2 0 (Int32.ofInt T.2.1).toInt64 else S.2.2.2) := by
  refine HM.of (cc := cL_pin) (nL := 5) (own := RL) (hh := [(0, 10, 13, 18), (0, 10, 17, 13)]) (by decide +kernel) rfl rfl (Nat.le_of_ble_eq_true rfl) ⟨by decide, by decide⟩ (fun G cx => ?_)
  show G (0, S.2) 0 [(0, .ref (adC 26)), (1, iV (x1)), (2, iV (x2)), (3, .ref ao)] []
  refine lx_aload_n cx 3 dL_pin_0 rfl rfl ?_
  refine lx_iconst cx dL_pin_1 ?_
  refine lx_aload_n cx 0 dL_pin_2 rfl rfl ?_
  refine lx_iload_n cx 1 dL_pin_3 rfl rfl ?_
  refine lx_iload_n cx 2 dL_pin_4 rfl rfl ?_
  by_cases z : T.1 = 0
  · rw [if_pos z, if_pos z] at cx
    refine lx_callC (As := [iV (x1), iV (x2)]) (n := 2) (st := [iV 0, .ref ao]) cx (kX5_pin l adC S.2.1 x1 x2 _ h z) (Nat.le_of_ble_eq_true rfl) gL_pin_X5_pin rfl ⟨rfl, rfl⟩ (by decide +kernel) rfl ⟨by decide, by decide⟩ rfl (Nat.le_of_ble_eq_true rfl) dL_pin_5 ?_
    refine lx_i2l cx dL_pin_8 ?_
    refine lx_last cx dL_pin_9 ?_
    refine lx_goto cx 21 dL_pin_10 (by decide) ?_
    refine lx_iconst cx dL_pin_21 ?_
    exact lx_ret cx dL_pin_22 (Nat.le_of_ble_eq_true rfl) ⟨rfl, rfl⟩
  · rw [if_neg z, if_neg z] at cx
    rcases hT.resolve_left z with e1 | e1
    · rw [if_pos e1] at cx
      have hx := xX5_pin l hl adC S.2.1 x1 x2 _ h z
      rw [e1] at hx
      refine lx_callX (As := [iV (x1), iV (x2)]) (n := 2) (st := [iV 0, .ref ao]) (hp := 13) (ct := 1) (E := "java/lang/IndexOutOfBoundsException") cx hx (Nat.le_of_ble_eq_true rfl) gL_pin_X5_pin rfl ⟨rfl, rfl⟩ (by decide +kernel) rfl ⟨by decide, by decide⟩ rfl (Nat.le_of_ble_eq_true rfl) dL_pin_5 [] ⟨0, 10, 13, 18⟩ [⟨0, 10, 17, 13⟩] (fun _ e => e) rfl (fun z hz => by cases hz) (fun h => absurd rfl h) (by decide) (by decide) hc_pin_0 (by decide +kernel) rfl (fun qq => ?_)
      refine lx_astore (lv' := [(4, .ref qq), (0, .ref (adC 26)), (1, iV (x1)), (2, iV (x2)), (3, .ref ao)]) cx dL_pin_13 (by decide) rfl ?_
      refine lx_iconst cx dL_pin_15 ?_
      exact lx_ret cx dL_pin_16 (Nat.le_of_ble_eq_true rfl) ⟨rfl, rfl⟩
    · rw [if_neg (by rw [e1]; decide)] at cx
      have hx := xX5_pin l hl adC S.2.1 x1 x2 _ h z
      rw [e1] at hx
      refine lx_callX (As := [iV (x1), iV (x2)]) (n := 2) (st := [iV 0, .ref ao]) (hp := 17) (ct := 18) (E := "java/lang/IllegalArgumentException") cx hx (Nat.le_of_ble_eq_true rfl) gL_pin_X5_pin rfl ⟨rfl, rfl⟩ (by decide +kernel) rfl ⟨by decide, by decide⟩ rfl (Nat.le_of_ble_eq_true rfl) dL_pin_5 [⟨0, 10, 13, 18⟩] ⟨0, 10, 17, 13⟩ [] (fun _ e => e) rfl (fun z hz => by simp only [List.mem_cons, List.not_mem_nil, or_false] at hz; subst hz; exact ⟨rfl, by decide⟩) (fun _ => ⟨hc_pin_0, Or.inl rfl⟩) (by decide) (by decide) hc_pin_1 (by decide +kernel) rfl (fun qq => ?_)
      refine lx_astore (lv' := [(4, .ref qq), (0, .ref (adC 26)), (1, iV (x1)), (2, iV (x2)), (3, .ref ao)]) cx dL_pin_17 (by decide) rfl ?_
      refine lx_iconst cx dL_pin_19 ?_
      exact lx_ret cx dL_pin_20 (Nat.le_of_ble_eq_true rfl) ⟨rfl, rfl⟩
abbrev rmL_costOf : Room := { frames := 7, cells := 1, slots := 6, locals := 112 }
theorem hc_costOf_0 : Cond.classLink RL 13 "java/lang/IllegalArgumentException" ∈ wsL_costOf := by decide +kernel
set_option maxRecDepth 100000 in
set_option maxHeartbeats 4000000 in
theorem hL_costOf (l : Launch) (hl : l.stackTraces = false) (adC adM : Nat → Nat) (ao : Nat) (S : LSt) (x1 : Int64) (T : Nat × Int × Mem) (h : fX5_costOf S.2.1 x1 = some T) (hT : T.1 = 0 ∨ T.1 = 2) : HM l yL_costOf wsL_costOf rmL_costOf adC adM ao [.ref (adC 26), .long (x1), .ref ao] S (if T.1 = 0 then 0 else 1) (S.1 + 1, S.2.1, S.2.2.1, if T.1 = 0 then vp_updL S.2.2.2 0 (Int32.ofInt T.2.1).toInt64 else S.2.2.2) := by
  refine HM.of (cc := cL_costOf) (nL := 5) (own := RL) (hh := [(0, 9, 12, 13)]) (by decide +kernel) rfl rfl (Nat.le_of_ble_eq_true rfl) ⟨by decide, by decide⟩ (fun G cx => ?_)
  show G (0, S.2) 0 [(0, .ref (adC 26)), (1, .long (x1)), (3, .ref ao)] []
  refine lx_aload_n cx 2 dL_costOf_0 rfl rfl ?_
  refine lx_iconst cx dL_costOf_1 ?_
  refine lx_aload_n cx 0 dL_costOf_2 rfl rfl ?_
  refine lx_lload_n cx 1 dL_costOf_3 rfl rfl ?_
  by_cases z : T.1 = 0
  · rw [if_pos z, if_pos z] at cx
    refine lx_callC (As := [.long (x1)]) (n := 1) (st := [iV 0, .ref ao]) cx (kX5_costOf l adC S.2.1 x1 _ h z) (Nat.le_of_ble_eq_true rfl) gL_costOf_X5_costOf rfl ⟨rfl, rfl⟩ (by decide +kernel) rfl ⟨by decide, by decide⟩ rfl (Nat.le_of_ble_eq_true rfl) dL_costOf_4 ?_
    refine lx_i2l cx dL_costOf_7 ?_
    refine lx_last cx dL_costOf_8 ?_
    refine lx_goto cx 16 dL_costOf_9 (by decide) ?_
    refine lx_iconst cx dL_costOf_16 ?_
    exact lx_ret cx dL_costOf_17 (Nat.le_of_ble_eq_true rfl) ⟨rfl, rfl⟩
  · rw [if_neg z, if_neg z] at cx
    have e1 : T.1 = 2 := hT.resolve_left z
    have hx := xX5_costOf l hl adC S.2.1 x1 _ h z
    rw [e1] at hx
    refine lx_callX (As := [.long (x1)]) (n := 1) (st := [iV 0, .ref ao]) (hp := 12) (ct := 1) (E := "java/lang/IllegalArgumentException") cx hx (Nat.le_of_ble_eq_true rfl) gL_costOf_X5_costOf rfl ⟨rfl, rfl⟩ (by decide +kernel) rfl ⟨by decide, by decide⟩ rfl (Nat.le_of_ble_eq_true rfl) dL_costOf_4 [] ⟨0, 9, 12, 13⟩ [] (fun _ e => e) rfl (fun z hz => by cases hz) (fun h => absurd rfl h) (by decide) (by decide) hc_costOf_0 (by decide +kernel) rfl (fun qq => ?_)
    refine lx_astore (lv' := [(4, .ref qq), (0, .ref (adC 26)), (1, .long (x1)), (3, .ref ao)]) cx dL_costOf_12 (by decide) rfl ?_
    refine lx_iconst cx dL_costOf_14 ?_
    exact lx_ret cx dL_costOf_15 (Nat.le_of_ble_eq_true rfl) ⟨rfl, rfl⟩
abbrev rmL_pull : Room := { frames := 8, cells := 1, slots := 6, locals := 132 }
theorem hc_pull_0 : Cond.classLink RL 18 "java/lang/IndexOutOfBoundsException" ∈ wsL_pull := by decide +kernel
set_option maxRecDepth 100000 in
set_option maxHeartbeats 4000000 in
theorem hL_pull (l : Launch) (hl : l.stackTraces = false) (adC adM : Nat → Nat) (ao : Nat) (S : LSt) (x1 : Int) (x2 : Int) (T : Nat × Int × Mem) (h : fX5_pull S.2.1 x1 x2 = some T) (hT : T.1 = 0 ∨ T.1 = 1) : HM l yL_pull wsL_pull rmL_pull adC adM ao [.ref (adC 26), iV (x1), iV (x2), .ref ao] S (if T.1 = 0 then 0 else 1) (S.1 + 1, T.2.2, S.2.2.1, if T.1 = 0 then vp_updL S.2.2.2 0 (Int32.ofInt T.2.1).toInt64 else S.2.2.2) := by
  refine HM.of (cc := cL_pull) (nL := 5) (own := RL) (hh := [(0, 10, 13, 18)]) (by decide +kernel) rfl rfl (Nat.le_of_ble_eq_true rfl) ⟨by decide, by decide⟩ (fun G cx => ?_)
  show G (0, S.2) 0 [(0, .ref (adC 26)), (1, iV (x1)), (2, iV (x2)), (3, .ref ao)] []
  refine lx_aload_n cx 3 dL_pull_0 rfl rfl ?_
  refine lx_iconst cx dL_pull_1 ?_
  refine lx_aload_n cx 0 dL_pull_2 rfl rfl ?_
  refine lx_iload_n cx 1 dL_pull_3 rfl rfl ?_
  refine lx_iload_n cx 2 dL_pull_4 rfl rfl ?_
  by_cases z : T.1 = 0
  · rw [if_pos z, if_pos z] at cx
    refine lx_callC (As := [iV (x1), iV (x2)]) (n := 2) (st := [iV 0, .ref ao]) cx (kX5_pull l adC S.2.1 x1 x2 _ h z) (Nat.le_of_ble_eq_true rfl) gL_pull_X5_pull rfl ⟨rfl, rfl⟩ (by decide +kernel) rfl ⟨by decide, by decide⟩ rfl (Nat.le_of_ble_eq_true rfl) dL_pull_5 ?_
    refine lx_i2l cx dL_pull_8 ?_
    refine lx_last cx dL_pull_9 ?_
    refine lx_goto cx 17 dL_pull_10 (by decide) ?_
    refine lx_iconst cx dL_pull_17 ?_
    exact lx_ret cx dL_pull_18 (Nat.le_of_ble_eq_true rfl) ⟨rfl, rfl⟩
  · rw [if_neg z, if_neg z] at cx
    have e1 : T.1 = 1 := hT.resolve_left z
    have hx := xX5_pull l hl adC S.2.1 x1 x2 _ h z
    rw [e1] at hx
    refine lx_callX (As := [iV (x1), iV (x2)]) (n := 2) (st := [iV 0, .ref ao]) (hp := 13) (ct := 1) (E := "java/lang/IndexOutOfBoundsException") cx hx (Nat.le_of_ble_eq_true rfl) gL_pull_X5_pull rfl ⟨rfl, rfl⟩ (by decide +kernel) rfl ⟨by decide, by decide⟩ rfl (Nat.le_of_ble_eq_true rfl) dL_pull_5 [] ⟨0, 10, 13, 18⟩ [] (fun _ e => e) rfl (fun z hz => by cases hz) (fun h => absurd rfl h) (by decide) (by decide) hc_pull_0 (by decide +kernel) rfl (fun qq => ?_)
    refine lx_astore (lv' := [(4, .ref qq), (0, .ref (adC 26)), (1, iV (x1)), (2, iV (x2)), (3, .ref ao)]) cx dL_pull_13 (by decide) rfl ?_
    refine lx_iconst cx dL_pull_15 ?_
    exact lx_ret cx dL_pull_16 (Nat.le_of_ble_eq_true rfl) ⟨rfl, rfl⟩
abbrev rmL_hold : Room := { frames := 8, cells := 1, slots := 6, locals := 132 }
theorem hc_hold_0 : Cond.classLink RL 18 "java/lang/IndexOutOfBoundsException" ∈ wsL_hold := by decide +kernel
set_option maxRecDepth 100000 in
set_option maxHeartbeats 4000000 in
theorem hL_hold (l : Launch) (hl : l.stackTraces = false) (adC adM : Nat → Nat) (ao : Nat) (S : LSt) (x1 : Int) (x2 : Int) (T : Nat × Int × Mem) (h : fX5_hold S.2.1 x1 x2 = some T) (hT : T.1 = 0 ∨ T.1 = 1) (hz : T.1 = 0 → T.2.1 = 0 ∨ T.2.1 = 1) : HM l yL_hold wsL_hold rmL_hold adC adM ao [.ref (adC 26), iV (x1), iV (x2), .ref ao] S (if T.1 = 0 then 0 else 1) (S.1 + 1, T.2.2, S.2.2.1, if T.1 = 0 then vp_updL S.2.2.2 0 (if T.2.1 = 0 then 0 else 1) else S.2.2.2) := by
  refine HM.of (cc := cL_hold) (nL := 5) (own := RL) (hh := [(0, 17, 20, 18)]) (by decide +kernel) rfl rfl (Nat.le_of_ble_eq_true rfl) ⟨by decide, by decide⟩ (fun G cx => ?_)
  show G (0, S.2) 0 [(0, .ref (adC 26)), (1, iV (x1)), (2, iV (x2)), (3, .ref ao)] []
  refine lx_aload_n cx 3 dL_hold_0 rfl rfl ?_
  refine lx_iconst cx dL_hold_1 ?_
  refine lx_aload_n cx 0 dL_hold_2 rfl rfl ?_
  refine lx_iload_n cx 1 dL_hold_3 rfl rfl ?_
  refine lx_iload_n cx 2 dL_hold_4 rfl rfl ?_
  by_cases z : T.1 = 0
  · rw [if_pos z, if_pos z] at cx
    refine lx_callC (As := [iV (x1), iV (x2)]) (n := 2) (st := [iV 0, .ref ao]) cx (kX5_hold l adC S.2.1 x1 x2 _ h z) (Nat.le_of_ble_eq_true rfl) gL_hold_X5_hold rfl ⟨rfl, rfl⟩ (by decide +kernel) rfl ⟨by decide, by decide⟩ rfl (Nat.le_of_ble_eq_true rfl) dL_hold_5 ?_
    refine lx_if_eq cx 15 dL_hold_8 (by decide) (by rcases hz z with e | e <;> rw [e] <;> exact ⟨by decide, by decide⟩) (fun c => ?_) (fun c => ?_)
    · rw [if_pos c] at cx
      refine lx_lconst (v := 0) cx dL_hold_15 rfl ?_
      refine lx_last cx dL_hold_16 ?_
      refine lx_goto cx 24 dL_hold_17 (by decide) ?_
      refine lx_iconst cx dL_hold_24 ?_
      exact lx_ret cx dL_hold_25 (Nat.le_of_ble_eq_true rfl) ⟨rfl, rfl⟩
    · rw [if_neg c] at cx
      refine lx_lconst (v := 1) cx dL_hold_11 rfl ?_
      refine lx_goto cx 16 dL_hold_12 (by decide) ?_
      refine lx_last cx dL_hold_16 ?_
      refine lx_goto cx 24 dL_hold_17 (by decide) ?_
      refine lx_iconst cx dL_hold_24 ?_
      exact lx_ret cx dL_hold_25 (Nat.le_of_ble_eq_true rfl) ⟨rfl, rfl⟩
  · rw [if_neg z, if_neg z] at cx
    have e1 : T.1 = 1 := hT.resolve_left z
    have hx := xX5_hold l hl adC S.2.1 x1 x2 _ h z
    rw [e1] at hx
    refine lx_callX (As := [iV (x1), iV (x2)]) (n := 2) (st := [iV 0, .ref ao]) (hp := 20) (ct := 1) (E := "java/lang/IndexOutOfBoundsException") cx hx (Nat.le_of_ble_eq_true rfl) gL_hold_X5_hold rfl ⟨rfl, rfl⟩ (by decide +kernel) rfl ⟨by decide, by decide⟩ rfl (Nat.le_of_ble_eq_true rfl) dL_hold_5 [] ⟨0, 17, 20, 18⟩ [] (fun _ e => e) rfl (fun z hz => by cases hz) (fun h => absurd rfl h) (by decide) (by decide) hc_hold_0 (by decide +kernel) rfl (fun qq => ?_)
    refine lx_astore (lv' := [(4, .ref qq), (0, .ref (adC 26)), (1, iV (x1)), (2, iV (x2)), (3, .ref ao)]) cx dL_hold_20 (by decide) rfl ?_
    refine lx_iconst cx dL_hold_22 ?_
    exact lx_ret cx dL_hold_23 (Nat.le_of_ble_eq_true rfl) ⟨rfl, rfl⟩
abbrev rmL_breathe : Room := { frames := 7, cells := 1, slots := 6, locals := 152 }
theorem hc_breathe_0 : Cond.classLink RL 13 "java/lang/IllegalArgumentException" ∈ wsL_breathe := by decide +kernel
set_option maxRecDepth 100000 in
set_option maxHeartbeats 4000000 in
theorem hL_breathe (l : Launch) (hl : l.stackTraces = false) (adC adM : Nat → Nat) (ao : Nat) (S : LSt) (x1 : Int) (T : Nat × Int × Mem) (h : fX5_breathe S.2.1 x1 = some T) (hT : T.1 = 0 ∨ T.1 = 2) : HM l yL_breathe wsL_breathe rmL_breathe adC adM ao [.ref (adC 26), iV (x1), .ref ao] S (if T.1 = 0 then 0 else 1) (S.1 + 1, T.2.2, S.2.2.1, if T.1 = 0 then vp_updL S.2.2.2 0 (Int32.ofInt T.2.1).toInt64 else S.2.2.2) := by
  refine HM.of (cc := cL_breathe) (nL := 4) (own := RL) (hh := [(0, 9, 12, 13)]) (by decide +kernel) rfl rfl (Nat.le_of_ble_eq_true rfl) ⟨by decide, by decide⟩ (fun G cx => ?_)
  show G (0, S.2) 0 [(0, .ref (adC 26)), (1, iV (x1)), (2, .ref ao)] []
  refine lx_aload_n cx 2 dL_breathe_0 rfl rfl ?_
  refine lx_iconst cx dL_breathe_1 ?_
  refine lx_aload_n cx 0 dL_breathe_2 rfl rfl ?_
  refine lx_iload_n cx 1 dL_breathe_3 rfl rfl ?_
  by_cases z : T.1 = 0
  · rw [if_pos z, if_pos z] at cx
    refine lx_callC (As := [iV (x1)]) (n := 1) (st := [iV 0, .ref ao]) cx (kX5_breathe l adC S.2.1 x1 _ h z) (Nat.le_of_ble_eq_true rfl) gL_breathe_X5_breathe rfl ⟨rfl, rfl⟩ (by decide +kernel) rfl ⟨by decide, by decide⟩ rfl (Nat.le_of_ble_eq_true rfl) dL_breathe_4 ?_
    refine lx_i2l cx dL_breathe_7 ?_
    refine lx_last cx dL_breathe_8 ?_
    refine lx_goto cx 15 dL_breathe_9 (by decide) ?_
    refine lx_iconst cx dL_breathe_15 ?_
    exact lx_ret cx dL_breathe_16 (Nat.le_of_ble_eq_true rfl) ⟨rfl, rfl⟩
  · rw [if_neg z, if_neg z] at cx
    have e1 : T.1 = 2 := hT.resolve_left z
    have hx := xX5_breathe l hl adC S.2.1 x1 _ h z
    rw [e1] at hx
    refine lx_callX (As := [iV (x1)]) (n := 1) (st := [iV 0, .ref ao]) (hp := 12) (ct := 1) (E := "java/lang/IllegalArgumentException") cx hx (Nat.le_of_ble_eq_true rfl) gL_breathe_X5_breathe rfl ⟨rfl, rfl⟩ (by decide +kernel) rfl ⟨by decide, by decide⟩ rfl (Nat.le_of_ble_eq_true rfl) dL_breathe_4 [] ⟨0, 9, 12, 13⟩ [] (fun _ e => e) rfl (fun z hz => by cases hz) (fun h => absurd rfl h) (by decide) (by decide) hc_breathe_0 (by decide +kernel) rfl (fun qq => ?_)
    refine lx_astore_n (lv' := [(3, .ref qq), (0, .ref (adC 26)), (1, iV (x1)), (2, .ref ao)]) cx dL_breathe_12 rfl (by decide) rfl ?_
    refine lx_iconst cx dL_breathe_13 ?_
    exact lx_ret cx dL_breathe_14 (Nat.le_of_ble_eq_true rfl) ⟨rfl, rfl⟩
abbrev rmL_bubbleAt : Room := { frames := 8, cells := 1, slots := 6, locals := 131 }
theorem hc_bubbleAt_0 : Cond.classLink RL 18 "java/lang/IndexOutOfBoundsException" ∈ wsL_bubbleAt := by decide +kernel
set_option maxRecDepth 100000 in
set_option maxHeartbeats 4000000 in
theorem hL_bubbleAt (l : Launch) (hl : l.stackTraces = false) (adC adM : Nat → Nat) (ao : Nat) (S : LSt) (x1 : Int) (T : Nat × Int × Mem) (h : fX5_bubbleAt S.2.1 x1 = some T) (hT : T.1 = 0 ∨ T.1 = 1) : HM l yL_bubbleAt wsL_bubbleAt rmL_bubbleAt adC adM ao [.ref (adC 26), iV (x1), .ref ao] S (if T.1 = 0 then 0 else 1) (S.1 + 1, S.2.1, S.2.2.1, if T.1 = 0 then vp_updL S.2.2.2 0 (Int32.ofInt T.2.1).toInt64 else S.2.2.2) := by
  refine HM.of (cc := cL_bubbleAt) (nL := 4) (own := RL) (hh := [(0, 9, 12, 18)]) (by decide +kernel) rfl rfl (Nat.le_of_ble_eq_true rfl) ⟨by decide, by decide⟩ (fun G cx => ?_)
  show G (0, S.2) 0 [(0, .ref (adC 26)), (1, iV (x1)), (2, .ref ao)] []
  refine lx_aload_n cx 2 dL_bubbleAt_0 rfl rfl ?_
  refine lx_iconst cx dL_bubbleAt_1 ?_
  refine lx_aload_n cx 0 dL_bubbleAt_2 rfl rfl ?_
  refine lx_iload_n cx 1 dL_bubbleAt_3 rfl rfl ?_
  by_cases z : T.1 = 0
  · rw [if_pos z, if_pos z] at cx
    refine lx_callC (As := [iV (x1)]) (n := 1) (st := [iV 0, .ref ao]) cx (kX5_bubbleAt l adC S.2.1 x1 _ h z) (Nat.le_of_ble_eq_true rfl) gL_bubbleAt_X5_bubbleAt rfl ⟨rfl, rfl⟩ (by decide +kernel) rfl ⟨by decide, by decide⟩ rfl (Nat.le_of_ble_eq_true rfl) dL_bubbleAt_4 ?_
    refine lx_i2l cx dL_bubbleAt_7 ?_
    refine lx_last cx dL_bubbleAt_8 ?_
    refine lx_goto cx 15 dL_bubbleAt_9 (by decide) ?_
    refine lx_iconst cx dL_bubbleAt_15 ?_
    exact lx_ret cx dL_bubbleAt_16 (Nat.le_of_ble_eq_true rfl) ⟨rfl, rfl⟩
  · rw [if_neg z, if_neg z] at cx
    have e1 : T.1 = 1 := hT.resolve_left z
    have hx := xX5_bubbleAt l hl adC S.2.1 x1 _ h z
    rw [e1] at hx
    refine lx_callX (As := [iV (x1)]) (n := 1) (st := [iV 0, .ref ao]) (hp := 12) (ct := 1) (E := "java/lang/IndexOutOfBoundsException") cx hx (Nat.le_of_ble_eq_true rfl) gL_bubbleAt_X5_bubbleAt rfl ⟨rfl, rfl⟩ (by decide +kernel) rfl ⟨by decide, by decide⟩ rfl (Nat.le_of_ble_eq_true rfl) dL_bubbleAt_4 [] ⟨0, 9, 12, 18⟩ [] (fun _ e => e) rfl (fun z hz => by cases hz) (fun h => absurd rfl h) (by decide) (by decide) hc_bubbleAt_0 (by decide +kernel) rfl (fun qq => ?_)
    refine lx_astore_n (lv' := [(3, .ref qq), (0, .ref (adC 26)), (1, iV (x1)), (2, .ref ao)]) cx dL_bubbleAt_12 rfl (by decide) rfl ?_
    refine lx_iconst cx dL_bubbleAt_13 ?_
    exact lx_ret cx dL_bubbleAt_14 (Nat.le_of_ble_eq_true rfl) ⟨rfl, rfl⟩
abbrev rmL_bubble : Room := { frames := 8, cells := 1, slots := 6, locals := 132 }
theorem hc_bubble_0 : Cond.classLink RL 18 "java/lang/IndexOutOfBoundsException" ∈ wsL_bubble := by decide +kernel
theorem hc_bubble_1 : Cond.classLink RL 13 "java/lang/IllegalArgumentException" ∈ wsL_bubble := by decide +kernel
set_option maxRecDepth 100000 in
set_option maxHeartbeats 4000000 in
theorem hL_bubble (l : Launch) (hl : l.stackTraces = false) (adC adM : Nat → Nat) (ao : Nat) (S : LSt) (x1 : Int) (x2 : Int) (T : Nat × Int × Mem) (h : fX5_bubble S.2.1 x1 x2 = some T) (hT : T.1 = 0 ∨ T.1 = 1 ∨ T.1 = 2) : HM l yL_bubble wsL_bubble rmL_bubble adC adM ao [.ref (adC 26), iV (x1), iV (x2), .ref ao] S (if T.1 = 0 then 0 else if T.1 = 1 then 1 else 2) (S.1 + 1, T.2.2, S.2.2.1, if T.1 = 0 then vp_updL S.2.2.2 0 (Int32.ofInt T.2.1).toInt64 else S.2.2.2) := by
  refine HM.of (cc := cL_bubble) (nL := 5) (own := RL) (hh := [(0, 10, 13, 18), (0, 10, 17, 13)]) (by decide +kernel) rfl rfl (Nat.le_of_ble_eq_true rfl) ⟨by decide, by decide⟩ (fun G cx => ?_)
  show G (0, S.2) 0 [(0, .ref (adC 26)), (1, iV (x1)), (2, iV (x2)), (3, .ref ao)] []
  refine lx_aload_n cx 3 dL_bubble_0 rfl rfl ?_
  refine lx_iconst cx dL_bubble_1 ?_
  refine lx_aload_n cx 0 dL_bubble_2 rfl rfl ?_
  refine lx_iload_n cx 1 dL_bubble_3 rfl rfl ?_
  refine lx_iload_n cx 2 dL_bubble_4 rfl rfl ?_
  by_cases z : T.1 = 0
  · rw [if_pos z, if_pos z] at cx
    refine lx_callC (As := [iV (x1), iV (x2)]) (n := 2) (st := [iV 0, .ref ao]) cx (kX5_bubble l adC S.2.1 x1 x2 _ h z) (Nat.le_of_ble_eq_true rfl) gL_bubble_X5_bubble rfl ⟨rfl, rfl⟩ (by decide +kernel) rfl ⟨by decide, by decide⟩ rfl (Nat.le_of_ble_eq_true rfl) dL_bubble_5 ?_
    refine lx_i2l cx dL_bubble_8 ?_
    refine lx_last cx dL_bubble_9 ?_
    refine lx_goto cx 21 dL_bubble_10 (by decide) ?_
    refine lx_iconst cx dL_bubble_21 ?_
    exact lx_ret cx dL_bubble_22 (Nat.le_of_ble_eq_true rfl) ⟨rfl, rfl⟩
  · rw [if_neg z, if_neg z] at cx
    rcases hT.resolve_left z with e1 | e1
    · rw [if_pos e1] at cx
      have hx := xX5_bubble l hl adC S.2.1 x1 x2 _ h z
      rw [e1] at hx
      refine lx_callX (As := [iV (x1), iV (x2)]) (n := 2) (st := [iV 0, .ref ao]) (hp := 13) (ct := 1) (E := "java/lang/IndexOutOfBoundsException") cx hx (Nat.le_of_ble_eq_true rfl) gL_bubble_X5_bubble rfl ⟨rfl, rfl⟩ (by decide +kernel) rfl ⟨by decide, by decide⟩ rfl (Nat.le_of_ble_eq_true rfl) dL_bubble_5 [] ⟨0, 10, 13, 18⟩ [⟨0, 10, 17, 13⟩] (fun _ e => e) rfl (fun z hz => by cases hz) (fun h => absurd rfl h) (by decide) (by decide) hc_bubble_0 (by decide +kernel) rfl (fun qq => ?_)
      refine lx_astore (lv' := [(4, .ref qq), (0, .ref (adC 26)), (1, iV (x1)), (2, iV (x2)), (3, .ref ao)]) cx dL_bubble_13 (by decide) rfl ?_
      refine lx_iconst cx dL_bubble_15 ?_
      exact lx_ret cx dL_bubble_16 (Nat.le_of_ble_eq_true rfl) ⟨rfl, rfl⟩
    · rw [if_neg (by rw [e1]; decide)] at cx
      have hx := xX5_bubble l hl adC S.2.1 x1 x2 _ h z
      rw [e1] at hx
      refine lx_callX (As := [iV (x1), iV (x2)]) (n := 2) (st := [iV 0, .ref ao]) (hp := 17) (ct := 18) (E := "java/lang/IllegalArgumentException") cx hx (Nat.le_of_ble_eq_true rfl) gL_bubble_X5_bubble rfl ⟨rfl, rfl⟩ (by decide +kernel) rfl ⟨by decide, by decide⟩ rfl (Nat.le_of_ble_eq_true rfl) dL_bubble_5 [⟨0, 10, 13, 18⟩] ⟨0, 10, 17, 13⟩ [] (fun _ e => e) rfl (fun z hz => by simp only [List.mem_cons, List.not_mem_nil, or_false] at hz; subst hz; exact ⟨rfl, by decide⟩) (fun _ => ⟨hc_bubble_0, Or.inl rfl⟩) (by decide) (by decide) hc_bubble_1 (by decide +kernel) rfl (fun qq => ?_)
      refine lx_astore (lv' := [(4, .ref qq), (0, .ref (adC 26)), (1, iV (x1)), (2, iV (x2)), (3, .ref ao)]) cx dL_bubble_17 (by decide) rfl ?_
      refine lx_iconst cx dL_bubble_19 ?_
      exact lx_ret cx dL_bubble_20 (Nat.le_of_ble_eq_true rfl) ⟨rfl, rfl⟩
abbrev rmL_wall : Room := { frames := 8, cells := 1, slots := 6, locals := 132 }
theorem hc_wall_0 : Cond.classLink RL 18 "java/lang/IndexOutOfBoundsException" ∈ wsL_wall := by decide +kernel
set_option maxRecDepth 100000 in
set_option maxHeartbeats 4000000 in
theorem hL_wall (l : Launch) (hl : l.stackTraces = false) (adC adM : Nat → Nat) (ao : Nat) (S : LSt) (x1 : Int) (x2 : Int) (T : Nat × Int × Mem) (h : fX5_wall S.2.1 x1 x2 = some T) (hT : T.1 = 0 ∨ T.1 = 1) : HM l yL_wall wsL_wall rmL_wall adC adM ao [.ref (adC 26), iV (x1), iV (x2), .ref ao] S (if T.1 = 0 then 0 else 1) (S.1 + 1, S.2.1, S.2.2.1, if T.1 = 0 then vp_updL S.2.2.2 0 (Int32.ofInt T.2.1).toInt64 else S.2.2.2) := by
  refine HM.of (cc := cL_wall) (nL := 5) (own := RL) (hh := [(0, 10, 13, 18)]) (by decide +kernel) rfl rfl (Nat.le_of_ble_eq_true rfl) ⟨by decide, by decide⟩ (fun G cx => ?_)
  show G (0, S.2) 0 [(0, .ref (adC 26)), (1, iV (x1)), (2, iV (x2)), (3, .ref ao)] []
  refine lx_aload_n cx 3 dL_wall_0 rfl rfl ?_
  refine lx_iconst cx dL_wall_1 ?_
  refine lx_aload_n cx 0 dL_wall_2 rfl rfl ?_
  refine lx_iload_n cx 1 dL_wall_3 rfl rfl ?_
  refine lx_iload_n cx 2 dL_wall_4 rfl rfl ?_
  by_cases z : T.1 = 0
  · rw [if_pos z, if_pos z] at cx
    refine lx_callC (As := [iV (x1), iV (x2)]) (n := 2) (st := [iV 0, .ref ao]) cx (kX5_wall l adC S.2.1 x1 x2 _ h z) (Nat.le_of_ble_eq_true rfl) gL_wall_X5_wall rfl ⟨rfl, rfl⟩ (by decide +kernel) rfl ⟨by decide, by decide⟩ rfl (Nat.le_of_ble_eq_true rfl) dL_wall_5 ?_
    refine lx_i2l cx dL_wall_8 ?_
    refine lx_last cx dL_wall_9 ?_
    refine lx_goto cx 17 dL_wall_10 (by decide) ?_
    refine lx_iconst cx dL_wall_17 ?_
    exact lx_ret cx dL_wall_18 (Nat.le_of_ble_eq_true rfl) ⟨rfl, rfl⟩
  · rw [if_neg z, if_neg z] at cx
    have e1 : T.1 = 1 := hT.resolve_left z
    have hx := xX5_wall l hl adC S.2.1 x1 x2 _ h z
    rw [e1] at hx
    refine lx_callX (As := [iV (x1), iV (x2)]) (n := 2) (st := [iV 0, .ref ao]) (hp := 13) (ct := 1) (E := "java/lang/IndexOutOfBoundsException") cx hx (Nat.le_of_ble_eq_true rfl) gL_wall_X5_wall rfl ⟨rfl, rfl⟩ (by decide +kernel) rfl ⟨by decide, by decide⟩ rfl (Nat.le_of_ble_eq_true rfl) dL_wall_5 [] ⟨0, 10, 13, 18⟩ [] (fun _ e => e) rfl (fun z hz => by cases hz) (fun h => absurd rfl h) (by decide) (by decide) hc_wall_0 (by decide +kernel) rfl (fun qq => ?_)
    refine lx_astore (lv' := [(4, .ref qq), (0, .ref (adC 26)), (1, iV (x1)), (2, iV (x2)), (3, .ref ao)]) cx dL_wall_13 (by decide) rfl ?_
    refine lx_iconst cx dL_wall_15 ?_
    exact lx_ret cx dL_wall_16 (Nat.le_of_ble_eq_true rfl) ⟨rfl, rfl⟩
abbrev rmL_corners : Room := { frames := 7, cells := 1, slots := 6, locals := 111 }
theorem hc_corners_0 : Cond.classLink RL 13 "java/lang/IllegalArgumentException" ∈ wsL_corners := by decide +kernel
set_option maxRecDepth 100000 in
set_option maxHeartbeats 4000000 in
theorem hL_corners (l : Launch) (hl : l.stackTraces = false) (adC adM : Nat → Nat) (ao : Nat) (S : LSt) (x1 : Int) (T : Nat × Int × Mem) (h : fX5_corners S.2.1 x1 = some T) (hT : T.1 = 0 ∨ T.1 = 2) : HM l yL_corners wsL_corners rmL_corners adC adM ao [.ref (adC 26), iV (x1), .ref ao] S (if T.1 = 0 then 0 else 1) (S.1 + 1, S.2.1, S.2.2.1, if T.1 = 0 then vp_updL S.2.2.2 0 (Int32.ofInt T.2.1).toInt64 else S.2.2.2) := by
  refine HM.of (cc := cL_corners) (nL := 4) (own := RL) (hh := [(0, 9, 12, 13)]) (by decide +kernel) rfl rfl (Nat.le_of_ble_eq_true rfl) ⟨by decide, by decide⟩ (fun G cx => ?_)
  show G (0, S.2) 0 [(0, .ref (adC 26)), (1, iV (x1)), (2, .ref ao)] []
  refine lx_aload_n cx 2 dL_corners_0 rfl rfl ?_
  refine lx_iconst cx dL_corners_1 ?_
  refine lx_aload_n cx 0 dL_corners_2 rfl rfl ?_
  refine lx_iload_n cx 1 dL_corners_3 rfl rfl ?_
  by_cases z : T.1 = 0
  · rw [if_pos z, if_pos z] at cx
    refine lx_callC (As := [iV (x1)]) (n := 1) (st := [iV 0, .ref ao]) cx (kX5_corners l adC S.2.1 x1 _ h z) (Nat.le_of_ble_eq_true rfl) gL_corners_X5_corners rfl ⟨rfl, rfl⟩ (by decide +kernel) rfl ⟨by decide, by decide⟩ rfl (Nat.le_of_ble_eq_true rfl) dL_corners_4 ?_
    refine lx_i2l cx dL_corners_7 ?_
    refine lx_last cx dL_corners_8 ?_
    refine lx_goto cx 15 dL_corners_9 (by decide) ?_
    refine lx_iconst cx dL_corners_15 ?_
    exact lx_ret cx dL_corners_16 (Nat.le_of_ble_eq_true rfl) ⟨rfl, rfl⟩
  · rw [if_neg z, if_neg z] at cx
    have e1 : T.1 = 2 := hT.resolve_left z
    have hx := xX5_corners l hl adC S.2.1 x1 _ h z
    rw [e1] at hx
    refine lx_callX (As := [iV (x1)]) (n := 1) (st := [iV 0, .ref ao]) (hp := 12) (ct := 1) (E := "java/lang/IllegalArgumentException") cx hx (Nat.le_of_ble_eq_true rfl) gL_corners_X5_corners rfl ⟨rfl, rfl⟩ (by decide +kernel) rfl ⟨by decide, by decide⟩ rfl (Nat.le_of_ble_eq_true rfl) dL_corners_4 [] ⟨0, 9, 12, 13⟩ [] (fun _ e => e) rfl (fun z hz => by cases hz) (fun h => absurd rfl h) (by decide) (by decide) hc_corners_0 (by decide +kernel) rfl (fun qq => ?_)
    refine lx_astore_n (lv' := [(3, .ref qq), (0, .ref (adC 26)), (1, iV (x1)), (2, .ref ao)]) cx dL_corners_12 rfl (by decide) rfl ?_
    refine lx_iconst cx dL_corners_13 ?_
    exact lx_ret cx dL_corners_14 (Nat.le_of_ble_eq_true rfl) ⟨rfl, rfl⟩
abbrev rmL_energy : Room := { frames := 7, cells := 1, slots := 6, locals := 168 }
theorem hc_energy_0 : Cond.classLink RL 13 "java/lang/IllegalArgumentException" ∈ wsL_energy := by decide +kernel
set_option maxRecDepth 100000 in
set_option maxHeartbeats 4000000 in
theorem hL_energy (l : Launch) (hl : l.stackTraces = false) (adC adM : Nat → Nat) (ao : Nat) (S : LSt) (x1 : Int) (T : Nat × Int × Mem) (h : fX5_energy S.2.1 x1 = some T) (hT : T.1 = 0 ∨ T.1 = 2) : HM l yL_energy wsL_energy rmL_energy adC adM ao [.ref (adC 26), iV (x1), .ref ao] S (if T.1 = 0 then 0 else 1) (S.1 + 1, T.2.2, S.2.2.1, if T.1 = 0 then vp_updL S.2.2.2 0 (Int32.ofInt T.2.1).toInt64 else S.2.2.2) := by
  refine HM.of (cc := cL_energy) (nL := 4) (own := RL) (hh := [(0, 9, 12, 13)]) (by decide +kernel) rfl rfl (Nat.le_of_ble_eq_true rfl) ⟨by decide, by decide⟩ (fun G cx => ?_)
  show G (0, S.2) 0 [(0, .ref (adC 26)), (1, iV (x1)), (2, .ref ao)] []
  refine lx_aload_n cx 2 dL_energy_0 rfl rfl ?_
  refine lx_iconst cx dL_energy_1 ?_
  refine lx_aload_n cx 0 dL_energy_2 rfl rfl ?_
  refine lx_iload_n cx 1 dL_energy_3 rfl rfl ?_
  by_cases z : T.1 = 0
  · rw [if_pos z, if_pos z] at cx
    refine lx_callC (As := [iV (x1)]) (n := 1) (st := [iV 0, .ref ao]) cx (kX5_energy l adC S.2.1 x1 _ h z) (Nat.le_of_ble_eq_true rfl) gL_energy_X5_energy rfl ⟨rfl, rfl⟩ (by decide +kernel) rfl ⟨by decide, by decide⟩ rfl (Nat.le_of_ble_eq_true rfl) dL_energy_4 ?_
    refine lx_i2l cx dL_energy_7 ?_
    refine lx_last cx dL_energy_8 ?_
    refine lx_goto cx 15 dL_energy_9 (by decide) ?_
    refine lx_iconst cx dL_energy_15 ?_
    exact lx_ret cx dL_energy_16 (Nat.le_of_ble_eq_true rfl) ⟨rfl, rfl⟩
  · rw [if_neg z, if_neg z] at cx
    have e1 : T.1 = 2 := hT.resolve_left z
    have hx := xX5_energy l hl adC S.2.1 x1 _ h z
    rw [e1] at hx
    refine lx_callX (As := [iV (x1)]) (n := 1) (st := [iV 0, .ref ao]) (hp := 12) (ct := 1) (E := "java/lang/IllegalArgumentException") cx hx (Nat.le_of_ble_eq_true rfl) gL_energy_X5_energy rfl ⟨rfl, rfl⟩ (by decide +kernel) rfl ⟨by decide, by decide⟩ rfl (Nat.le_of_ble_eq_true rfl) dL_energy_4 [] ⟨0, 9, 12, 13⟩ [] (fun _ e => e) rfl (fun z hz => by cases hz) (fun h => absurd rfl h) (by decide) (by decide) hc_energy_0 (by decide +kernel) rfl (fun qq => ?_)
    refine lx_astore_n (lv' := [(3, .ref qq), (0, .ref (adC 26)), (1, iV (x1)), (2, .ref ao)]) cx dL_energy_12 rfl (by decide) rfl ?_
    refine lx_iconst cx dL_energy_13 ?_
    exact lx_ret cx dL_energy_14 (Nat.le_of_ble_eq_true rfl) ⟨rfl, rfl⟩
