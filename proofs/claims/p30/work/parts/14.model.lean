/-! a second program as pure functions over a memory of its own: it is used as a ghost, for the arithmetic parts alone -/
def fX6_thrown (M : Mem)  : Option (Int) :=
    some (M 100 0)
def fX6_in (M : Mem) (x0 : Int) (x1 : Int) (x2 : Int) : Option (Int) :=
    gd (inR (x0)) (
    gd (inR (x1)) (
    Option.bind (if x0 < x1 then (
      some (0))
    else (
      gd (inR (x2)) (
      if x2 < x0 then (
        some (0))
      else (
        some (1))))) (fun t6 =>
    gd (t6 = 0 ∨ t6 = 1) (
    some (t6)))))
def fX6_refused (M : Mem) (x1 : Int) : Option (Int × Mem) :=
    gd (inR (x1)) (
    Option.bind (if x1 = 0 then (
      some (0))
    else (
      some (1))) (fun t3 =>
    gd (t3 = 0 ∨ t3 = 1) (
    some (t3, (wr M 100 0 x1)))))
def fX6_isNode (M : Mem) (x0 : Int) : Option (Int) :=
    Option.bind (fX6_in M x0 0 35) (fun t1 =>
    gd (t1 = 0 ∨ t1 = 1) (
    some (t1)))
def fX6_isEdge (M : Mem) (x0 : Int) : Option (Int) :=
    Option.bind (fX6_in M x0 0 59) (fun t1 =>
    gd (t1 = 0 ∨ t1 = 1) (
    some (t1)))
def fX6_isBubble (M : Mem) (x0 : Int) : Option (Int) :=
    Option.bind (fX6_in M x0 0 7) (fun t1 =>
    gd (t1 = 0 ∨ t1 = 1) (
    some (t1)))
def fX6_first (M : Mem) (x0 : Int) : Option (Int) :=
    gd (inR (x0)) (
    Option.bind (if 30 ≤ x0 then (
      some (x0 - 30))
    else (
      gd (0 ≤ x0 ∧ x0 < 2147483648) (
      gd (0 ≤ x0 ∧ x0 < 2147483648) (
      some ((6 * (x0 / 5)) + (x0 % 5)))))) (fun t5 =>
    some (t5)))
def fX6_second (M : Mem) (x0 : Int) : Option (Int) :=
    gd (inR (x0)) (
    Option.bind (if 30 ≤ x0 then (
      Option.bind (fX6_first M x0) (fun t3 =>
      some (t3 + 6)))
    else (
      Option.bind (fX6_first M x0) (fun t5 =>
      some (t5 + 1)))) (fun t7 =>
    some (t7)))
def fX6_costOfEdge (M : Mem) (x1 : Int) : Option (Int) :=
    gd (inR (x1)) (
    Option.bind (if 30 ≤ x1 then (
      some (1))
    else (
      some (0))) (fun t3 =>
    gd (inB (t3) 2) (
    gd (inB (x1) 60) (
    some ((M 0 t3.toNat) + (M 1 x1.toNat))))))
def fX6_energyNow_L4 : Nat → Mem → Int → Int → Option (Int)
  | 0, _, _, _ => none
  | n + 1, M, x1, x2 =>
    gd (inR (x2)) (
    if 60 ≤ x2 then (
      some (x1))
    else (
      Option.bind (fX6_first M x2) (fun t3 =>
      gd (inB (t3) 36) (
      Option.bind (fX6_second M x2) (fun t6 =>
      gd (inB (t6) 36) (
      gd (inR (M 4 t3.toNat)) (
      gd (inR (M 4 t6.toNat)) (
      Option.bind (if M 4 t3.toNat = M 4 t6.toNat then (
        some (0))
      else (
        Option.bind (fX6_costOfEdge M x2) (fun t12 =>
        some (t12)))) (fun t14 =>
      fX6_energyNow_L4 n M (x1 + t14) (x2 + 1))))))))))
def fX6_energyNow (M : Mem)  : Option (Int) :=
    Option.bind (fX6_energyNow_L4 FU M 0 0) (fun t18 =>
    some (t18))
def fX6_cost (M : Mem) (x1 : Int) (x2 : Int) : Option (Int × Mem) :=
    Option.bind (fX6_in M x1 0 1) (fun t1 =>
    gd (inR (t1)) (
    Option.bind (if t1 = 0 then (
      some (1))
    else (
      Option.bind (fX6_in M x2 1 9) (fun t5 =>
      gd (inR (t5)) (
      if t5 = 0 then (
        some (1))
      else (
        some (0)))))) (fun t9 =>
    Option.bind (fX6_refused M t9) (fun t12 =>
    gd (inR (t12.1)) (
    if t12.1 = 0 then (
      gd (inB (x1) 2) (
      Option.bind (fX6_energyNow t12.2) (fun t17 =>
      gd (inB (x1) 2) (
      Option.bind (fX6_energyNow (wr t12.2 0 x1.toNat x2)) (fun t20 =>
      some (t12.2 0 x1.toNat, (wr (wr t12.2 0 x1.toNat x2) 102 0 (((wr t12.2 0 x1.toNat x2) 102 0) + (t20 - t17)))))))))
    else (
      some (0, t12.2)))))))
def fX6_lay (M : Mem) (x1 : Int) (x2 : Int) : Option (Int × Mem) :=
    Option.bind (fX6_isEdge M x1) (fun t1 =>
    gd (inR (t1)) (
    Option.bind (if t1 = 0 then (
      some (1))
    else (
      Option.bind (fX6_in M x2 0 50) (fun t5 =>
      gd (inR (t5)) (
      if t5 = 0 then (
        some (2))
      else (
        some (0)))))) (fun t9 =>
    Option.bind (fX6_refused M t9) (fun t12 =>
    gd (inR (t12.1)) (
    if t12.1 = 0 then (
      gd (inB (x1) 60) (
      Option.bind (fX6_energyNow t12.2) (fun t17 =>
      gd (inB (x1) 60) (
      Option.bind (fX6_energyNow (wr t12.2 1 x1.toNat x2)) (fun t20 =>
      some (t12.2 1 x1.toNat, (wr (wr t12.2 1 x1.toNat x2) 102 0 (((wr t12.2 1 x1.toNat x2) 102 0) + (t20 - t17)))))))))
    else (
      some (0, t12.2)))))))
def fX6_edge (M : Mem) (x1 : Int) : Option (Int × Mem) :=
    Option.bind (fX6_isEdge M x1) (fun t1 =>
    gd (inR (t1)) (
    Option.bind (if t1 = 0 then (
      some (1))
    else (
      some (0))) (fun t5 =>
    Option.bind (fX6_refused M t5) (fun t8 =>
    gd (inR (t8.1)) (
    Option.bind (if t8.1 = 0 then (
      Option.bind (fX6_costOfEdge t8.2 x1) (fun t12 =>
      some (t12)))
    else (
      some (0))) (fun t14 =>
    some (t14, t8.2)))))))
def fX6_findFar_L2 : Nat → Mem → Int → Int → Option (Mem)
  | 0, _, _, _ => none
  | n + 1, M, x1, x2 =>
    gd (inR (x2)) (
    if 36 ≤ x2 then (
      some (M))
    else (
      gd (inR (x1)) (
      Option.bind (if x2 = x1 then (
        some (0))
      else (
        some (1000000000))) (fun t5 =>
      gd (inB (x2) 36) (
      fX6_findFar_L2 n (wr M 6 x2.toNat t5) x1 (x2 + 1))))))
def fX6_findFar_L41 : Nat → Mem → Int → Int → Option (Mem)
  | 0, _, _, _ => none
  | n + 1, M, x2, x3 =>
    gd (inR (x3)) (
    if 60 ≤ x3 then (
      some (M))
    else (
      Option.bind (fX6_first M x3) (fun t17 =>
      Option.bind (fX6_second M x3) (fun t19 =>
      gd (inB (t17) 36) (
      Option.bind (fX6_costOfEdge M x3) (fun t22 =>
      gd (inB (t19) 36) (
      gd (inR ((M 6 t17.toNat) + t22)) (
      gd (inR (M 6 t19.toNat)) (
      Option.bind (if M 6 t19.toNat ≤ (M 6 t17.toNat) + t22 then (
        gd (inB (t19) 36) (
        some (M 6 t19.toNat)))
      else (
        gd (inB (t17) 36) (
        Option.bind (fX6_costOfEdge M x3) (fun t30 =>
        some ((M 6 t17.toNat) + t30))))) (fun t32 =>
      gd (inB (t19) 36) (
      gd (inB (t19) 36) (
      Option.bind (fX6_costOfEdge (wr M 6 t19.toNat t32) x3) (fun t37 =>
      gd (inB (t17) 36) (
      gd (inR (((wr M 6 t19.toNat t32) 6 t19.toNat) + t37)) (
      gd (inR ((wr M 6 t19.toNat t32) 6 t17.toNat)) (
      Option.bind (if (wr M 6 t19.toNat t32) 6 t17.toNat ≤ ((wr M 6 t19.toNat t32) 6 t19.toNat) + t37 then (
        gd (inB (t17) 36) (
        some ((wr M 6 t19.toNat t32) 6 t17.toNat)))
      else (
        gd (inB (t19) 36) (
        Option.bind (fX6_costOfEdge (wr M 6 t19.toNat t32) x3) (fun t45 =>
        some (((wr M 6 t19.toNat t32) 6 t19.toNat) + t45))))) (fun t47 =>
      gd (inB (t17) 36) (
      fX6_findFar_L41 n (wr (wr M 6 t19.toNat t32) 6 t17.toNat t47) x2 (x3 + 1)))))))))))))))))))
def fX6_findFar_L33 : Nat → Mem → Int → Option (Mem)
  | 0, _, _ => none
  | n + 1, M, x2 =>
    gd (inR (x2)) (
    if 36 ≤ x2 then (
      some (M))
    else (
      Option.bind (fX6_findFar_L41 FU M x2 0) (fun t52 =>
      fX6_findFar_L33 n t52 (x2 + 1))))
def fX6_findFar (M : Mem) (x1 : Int) : Option (Mem) :=
    Option.bind (fX6_findFar_L2 FU M x1 0) (fun t10 =>
    Option.bind (fX6_findFar_L33 FU t10 0) (fun t56 =>
    some (t56)))
def fX6_apartFrom (M : Mem) (x1 : Int) (x2 : Int) : Option (Int × Mem) :=
    Option.bind (fX6_findFar M x1) (fun t1 =>
    gd (inB (x2) 36) (
    some (t1 6 x2.toNat, t1)))
def fX6_apart (M : Mem) (x1 : Int) (x2 : Int) : Option (Int × Mem) :=
    Option.bind (fX6_isNode M x1) (fun t1 =>
    gd (inR (t1)) (
    Option.bind (if t1 = 0 then (
      some (1))
    else (
      Option.bind (fX6_isNode M x2) (fun t5 =>
      gd (inR (t5)) (
      if t5 = 0 then (
        some (1))
      else (
        some (0)))))) (fun t9 =>
    Option.bind (fX6_refused M t9) (fun t12 =>
    gd (inR (t12.1)) (
    Option.bind (if t12.1 = 0 then (
      Option.bind (fX6_apartFrom t12.2 x1 x2) (fun t16 =>
      some (t16.1, t16.2)))
    else (
      some (0, t12.2))) (fun t18 =>
    some (t18.1, t18.2)))))))
def fX6_isTown_L4 : Nat → Mem → Int → Int → Int → Option (Int)
  | 0, _, _, _, _ => none
  | n + 1, M, x1, x2, x3 =>
    gd (inR (x3)) (
    gd (inR (M 101 0)) (
    if M 101 0 ≤ x3 then (
      some (x2))
    else (
      gd (inR (x2)) (
      Option.bind (if x2 = 0 then (
        gd (inB (x3) 6) (
        gd (inR (M 2 x3.toNat)) (
        gd (inR (x1)) (
        if M 2 x3.toNat = x1 then (
          some (1))
        else (
          some (0))))))
      else (
        some (1))) (fun t10 =>
      fX6_isTown_L4 n M x1 t10 (x3 + 1))))))
def fX6_isTown (M : Mem) (x1 : Int) : Option (Int) :=
    Option.bind (fX6_isTown_L4 FU M x1 0 0) (fun t14 =>
    gd (t14 = 0 ∨ t14 = 1) (
    some (t14)))
def fX6_town (M : Mem) (x1 : Int) : Option (Int × Mem) :=
    Option.bind (fX6_isNode M x1) (fun t1 =>
    gd (inR (t1)) (
    Option.bind (if t1 = 0 then (
      some (1))
    else (
      Option.bind (fX6_isTown M x1) (fun t5 =>
      gd (inR (t5)) (
      if t5 = 0 then (
        gd (inR (M 101 0)) (
        if M 101 0 = 6 then (
          some (2))
        else (
          some (0))))
      else (
        some (2)))))) (fun t11 =>
    Option.bind (fX6_refused M t11) (fun t14 =>
    gd (inR (t14.1)) (
    if t14.1 = 0 then (
      gd (inB (t14.2 101 0) 6) (
      some (((wr (wr t14.2 2 (t14.2 101 0).toNat x1) 101 0 (((wr t14.2 2 (t14.2 101 0).toNat x1) 101 0) + 1)) 101 0) - 1, (wr (wr t14.2 2 (t14.2 101 0).toNat x1) 101 0 (((wr t14.2 2 (t14.2 101 0).toNat x1) 101 0) + 1)))))
    else (
      some (0, t14.2)))))))
def fX6_away_L47 : Nat → Mem → Int → Int → Option (Mem)
  | 0, _, _, _ => none
  | n + 1, M, x2, x3 =>
    gd (inR (x3)) (
    gd (inR (M 101 0)) (
    if M 101 0 ≤ x3 then (
      some (M))
    else (
      gd (inB (x3 + 1) 6) (
      gd (inB (x3) 6) (
      fX6_away_L47 n (wr M 2 x3.toNat (M 2 (x3 + 1).toNat)) x2 (x3 + 1))))))
def fX6_away (M : Mem) (x1 : Int) : Option (Int × Mem) :=
    Option.bind (fX6_in M x1 0 ((M 101 0) - 1)) (fun t1 =>
    gd (inR (t1)) (
    Option.bind (if t1 = 0 then (
      some (1))
    else (
      some (0))) (fun t5 =>
    Option.bind (fX6_refused M t5) (fun t8 =>
    gd (inR (t8.1)) (
    if t8.1 = 0 then (
      gd (inB (x1) 6) (
      Option.bind (fX6_away_L47 FU (wr t8.2 101 0 ((t8.2 101 0) - 1)) (t8.2 2 x1.toNat) x1) (fun t19 =>
      some (t8.2 2 x1.toNat, t19))))
    else (
      some (0, t8.2)))))))
def fX6_townAt (M : Mem) (x1 : Int) : Option (Int × Mem) :=
    Option.bind (fX6_in M x1 0 ((M 101 0) - 1)) (fun t1 =>
    gd (inR (t1)) (
    Option.bind (if t1 = 0 then (
      some (1))
    else (
      some (0))) (fun t5 =>
    Option.bind (fX6_refused M t5) (fun t8 =>
    gd (inR (t8.1)) (
    Option.bind (if t8.1 = 0 then (
      gd (inB (x1) 6) (
      some (t8.2 2 x1.toNat)))
    else (
      some (0))) (fun t13 =>
    some (t13, t8.2)))))))
def fX6_spread_L10 : Nat → Mem → Int → Int → Int → Option (Int × Mem)
  | 0, _, _, _, _ => none
  | n + 1, M, x1, x2, x3 =>
    gd (inR (x3)) (
    if 60 ≤ x3 then (
      some (x2, M))
    else (
      Option.bind (fX6_first M x3) (fun t5 =>
      Option.bind (fX6_second M x3) (fun t7 =>
      gd (inR (M 104 0)) (
      Option.bind (if x3 = M 104 0 then (
        some (0))
      else (
        Option.bind (fX6_costOfEdge M x3) (fun t11 =>
        some (t11)))) (fun t13 =>
      gd (inB ((36 * x1) + t5) 4608) (
      gd (inB ((36 * x1) + t7) 4608) (
      gd (inR ((M 8 ((36 * x1) + t5).toNat) + t13)) (
      gd (inR (M 8 ((36 * x1) + t7).toNat)) (
      Option.bind (if M 8 ((36 * x1) + t7).toNat ≤ (M 8 ((36 * x1) + t5).toNat) + t13 then (
        some (x2, M))
      else (
        gd (inB ((36 * x1) + t5) 4608) (
        gd (inB ((36 * x1) + t7) 4608) (
        some (1, (wr M 8 ((36 * x1) + t7).toNat ((M 8 ((36 * x1) + t5).toNat) + t13))))))) (fun t23 =>
      gd (inB ((36 * x1) + t7) 4608) (
      gd (inB ((36 * x1) + t5) 4608) (
      gd (inR ((t23.2 8 ((36 * x1) + t7).toNat) + t13)) (
      gd (inR (t23.2 8 ((36 * x1) + t5).toNat)) (
      Option.bind (if t23.2 8 ((36 * x1) + t5).toNat ≤ (t23.2 8 ((36 * x1) + t7).toNat) + t13 then (
        some (t23.1, t23.2))
      else (
        gd (inB ((36 * x1) + t7) 4608) (
        gd (inB ((36 * x1) + t5) 4608) (
        some (1, (wr t23.2 8 ((36 * x1) + t5).toNat ((t23.2 8 ((36 * x1) + t7).toNat) + t13))))))) (fun t33 =>
      fX6_spread_L10 n t33.2 x1 t33.1 (x3 + 1)))))))))))))))))
def fX6_spread_L2 : Nat → Mem → Int → Int → Option (Mem)
  | 0, _, _, _ => none
  | n + 1, M, x1, x2 =>
    gd (inR (x2)) (
    if x2 = 0 then (
      some (M))
    else (
      Option.bind (fX6_spread_L10 FU M x1 0 0) (fun t37 =>
      fX6_spread_L2 n t37.2 x1 t37.1)))
def fX6_spread (M : Mem) (x1 : Int) : Option (Mem) :=
    Option.bind (fX6_spread_L2 FU M x1 1) (fun t41 =>
    some (t41))
def fX6_leastOf_L31 : Nat → Mem → Int → Int → Int → Int → Int → Option (Int)
  | 0, _, _, _, _, _, _ => none
  | n + 1, M, x1, x2, x3, x4, x5 =>
    gd (inR (x5)) (
    gd (inR (x1)) (
    if x1 ≤ x5 then (
      some (x4))
    else (
      gd (inR (x2)) (
      gd (inR (zshl 1 x5)) (
      Option.bind (if x2 = zshl 1 x5 then (
        gd (inB (x5) 7) (
        gd (inR (M 7 x5.toNat)) (
        gd (inR (x3)) (
        if M 7 x5.toNat = x3 then (
          some (0))
        else (
          some (x4))))))
      else (
        some (x4))) (fun t18 =>
      fX6_leastOf_L31 n M x1 x2 x3 t18 (x5 + 1)))))))
def fX6_leastOf_L73 : Nat → Mem → Int → Int → Int → Int → Int → Option (Int)
  | 0, _, _, _, _, _, _ => none
  | n + 1, M, x1, x2, x3, x4, x5 =>
    gd (inR (x5)) (
    gd (inR (x2)) (
    if x2 ≤ x5 then (
      some (x4))
    else (
      gd (inR (zand x5 (zxor x2 ((-1))))) (
      Option.bind (if zand x5 (zxor x2 ((-1))) = 0 then (
        gd (inB ((36 * x5) + x3) 4608) (
        gd (inB ((36 * (x2 - x5)) + x3) 4608) (
        gd (inR ((M 8 ((36 * x5) + x3).toNat) + (M 8 ((36 * (x2 - x5)) + x3).toNat))) (
        gd (inR (x4)) (
        Option.bind (if x4 ≤ (M 8 ((36 * x5) + x3).toNat) + (M 8 ((36 * (x2 - x5)) + x3).toNat) then (
          some (x4))
        else (
          some ((M 8 ((36 * x5) + x3).toNat) + (M 8 ((36 * (x2 - x5)) + x3).toNat)))) (fun t35 =>
        some (t35)))))))
      else (
        some (x4))) (fun t38 =>
      fX6_leastOf_L73 n M x1 x2 x3 t38 (x5 + 1))))))
def fX6_leastOf_L18 : Nat → Mem → Int → Int → Int → Option (Mem)
  | 0, _, _, _, _ => none
  | n + 1, M, x1, x2, x3 =>
    gd (inR (x3)) (
    if 36 ≤ x3 then (
      some (M))
    else (
      Option.bind (fX6_leastOf_L31 FU M x1 x2 x3 1000000000 0) (fun t22 =>
      Option.bind (fX6_leastOf_L73 FU M x1 x2 x3 t22 1) (fun t42 =>
      gd (inB ((36 * x2) + x3) 4608) (
      fX6_leastOf_L18 n (wr M 8 ((36 * x2) + x3).toNat t42) x1 x2 (x3 + 1))))))
def fX6_leastOf_L9 : Nat → Mem → Int → Int → Option (Mem)
  | 0, _, _, _ => none
  | n + 1, M, x1, x2 =>
    gd (inR (x2)) (
    gd (inR (zshl 1 x1)) (
    if zshl 1 x1 ≤ x2 then (
      some (M))
    else (
      Option.bind (fX6_leastOf_L18 FU M x1 x2 0) (fun t47 =>
      Option.bind (fX6_spread t47 x2) (fun t50 =>
      fX6_leastOf_L9 n t50 x1 (x2 + 1))))))
def fX6_leastOf (M : Mem) (x1 : Int) : Option (Int × Mem) :=
    gd (inR (x1)) (
    if 2 ≤ x1 then (
      Option.bind (fX6_leastOf_L9 FU M x1 1) (fun t53 =>
      gd (inB ((36 * ((zshl 1 x1) - 1)) + (t53 7 (0 : Int).toNat)) 4608) (
      some (t53 8 ((36 * ((zshl 1 x1) - 1)) + (t53 7 (0 : Int).toNat)).toNat, t53))))
    else (
      some (0, M)))
def fX6_leastNow_L2 : Nat → Mem → Int → Option (Mem)
  | 0, _, _ => none
  | n + 1, M, x1 =>
    gd (inR (x1)) (
    gd (inR (M 101 0)) (
    if M 101 0 ≤ x1 then (
      some (M))
    else (
      gd (inB (x1) 6) (
      gd (inB (x1) 7) (
      fX6_leastNow_L2 n (wr M 7 x1.toNat (M 2 x1.toNat)) (x1 + 1))))))
def fX6_leastNow (M : Mem)  : Option (Int × Mem) :=
    Option.bind (fX6_leastNow_L2 FU M 0) (fun t7 =>
    Option.bind (fX6_leastOf t7 (t7 101 0)) (fun t10 =>
    some (t10.1, t10.2)))
def fX6_least (M : Mem)  : Option (Int × Mem) :=
    Option.bind (fX6_leastNow (wr M 100 0 0)) (fun t1 =>
    some (t1.1, t1.2))
def fX6_leastAnew (M : Mem)  : Option (Int × Mem) :=
    gd (inR ((wr M 100 0 0) 101 0)) (
    Option.bind (if (wr M 100 0 0) 101 0 ≤ 4 then (
      Option.bind (fX6_leastNow (wr M 100 0 0)) (fun t3 =>
      some (t3.1, t3.2)))
    else (
      some ((-1), (wr M 100 0 0)))) (fun t5 =>
    some (t5.1, t5.2)))
def fX6_treeOfPairs_L24 : Nat → Mem → Int → Int → Int → Int → Int → Int → Option (Int × Int × Mem)
  | 0, _, _, _, _, _, _, _ => none
  | n + 1, M, x1, x2, x3, x4, x5, x6 =>
    gd (inR (x6)) (
    gd (inR ((M 101 0) * (M 101 0))) (
    if (M 101 0) * (M 101 0) ≤ x6 then (
      some (x4, x5, M))
    else (
      gd ((0 ≤ x6 ∧ x6 < 2147483648) ∧ 0 < M 101 0 ∧ M 101 0 < 2147483648) (
      gd ((0 ≤ x6 ∧ x6 < 2147483648) ∧ 0 < M 101 0 ∧ M 101 0 < 2147483648) (
      gd (inR (zand (zshr x1 (x6 / (M 101 0))) 1)) (
      Option.bind (if zand (zshr x1 (x6 / (M 101 0))) 1 = 1 then (
        gd (inR (zand (zshr x1 (x6 % (M 101 0))) 1)) (
        if zand (zshr x1 (x6 % (M 101 0))) 1 = 0 then (
          some (1))
        else (
          some (0))))
      else (
        some (0))) (fun t13 =>
      gd (inR (t13)) (
      Option.bind (if t13 = 0 then (
        some (1000000000, M))
      else (
        gd (inB (x6 / (M 101 0)) 6) (
        gd (inB (x6 % (M 101 0)) 6) (
        Option.bind (fX6_apartFrom M (M 2 (x6 / (M 101 0)).toNat) (M 2 (x6 % (M 101 0)).toNat)) (fun t20 =>
        some (t20.1, t20.2)))))) (fun t22 =>
      gd (inR (t22.1)) (
      gd (inR (x5)) (
      Option.bind (if x5 ≤ t22.1 then (
        some (x4))
      else (
        some (x6 % (M 101 0)))) (fun t28 =>
      Option.bind (if x5 ≤ t22.1 then (
        some (x5))
      else (
        some (t22.1))) (fun t32 =>
      fX6_treeOfPairs_L24 n t22.2 x1 x2 x3 t28 t32 (x6 + 1))))))))))))))
def fX6_treeOfPairs_L6 : Nat → Mem → Int → Int → Int → Option (Int × Mem)
  | 0, _, _, _, _ => none
  | n + 1, M, x1, x2, x3 =>
    gd (inR (x3)) (
    gd (inR (M 101 0)) (
    if M 101 0 ≤ x3 then (
      some (x2, M))
    else (
      Option.bind (fX6_treeOfPairs_L24 FU M x1 x2 x3 ((-1)) 1000000000 0) (fun t36 =>
      fX6_treeOfPairs_L6 n t36.2.2 (zor x1 (zshl 1 t36.1)) (x2 + t36.2.1) (x3 + 1)))))
def fX6_treeOfPairs (M : Mem)  : Option (Int × Mem) :=
    Option.bind (fX6_treeOfPairs_L6 FU M 1 0 1) (fun t40 =>
    some (t40.1, t40.2))
def fX6_boundNow_L23 : Nat → Mem → Int → Int → Option (Int × Mem)
  | 0, _, _, _ => none
  | n + 1, M, x1, x2 =>
    gd (inR (x2)) (
    gd (inR (((M 101 0) * (M 101 0)) * (M 101 0))) (
    if ((M 101 0) * (M 101 0)) * (M 101 0) ≤ x2 then (
      some (x1, M))
    else (
      gd ((0 ≤ x2 ∧ x2 < 2147483648) ∧ 0 < M 101 0 ∧ M 101 0 < 2147483648) (
      gd (inB (x2 % (M 101 0)) 6) (
      gd ((0 ≤ x2 ∧ x2 < 2147483648) ∧ 0 < M 101 0 ∧ M 101 0 < 2147483648) (
      gd ((0 ≤ x2 / (M 101 0) ∧ x2 / (M 101 0) < 2147483648) ∧ 0 < M 101 0 ∧ M 101 0 < 2147483648) (
      gd (inB ((x2 / (M 101 0)) % (M 101 0)) 6) (
      gd ((0 ≤ x2 ∧ x2 < 2147483648) ∧ 0 < M 101 0 ∧ M 101 0 < 2147483648) (
      gd ((0 ≤ x2 / (M 101 0) ∧ x2 / (M 101 0) < 2147483648) ∧ 0 < M 101 0 ∧ M 101 0 < 2147483648) (
      gd (inB ((x2 / (M 101 0)) / (M 101 0)) 6) (
      Option.bind (fX6_apartFrom M (M 2 (x2 % (M 101 0)).toNat) (M 2 ((x2 / (M 101 0)) % (M 101 0)).toNat)) (fun t20 =>
      Option.bind (fX6_apartFrom t20.2 (M 2 ((x2 / (M 101 0)) % (M 101 0)).toNat) (M 2 ((x2 / (M 101 0)) / (M 101 0)).toNat)) (fun t22 =>
      Option.bind (fX6_apartFrom t22.2 (M 2 ((x2 / (M 101 0)) / (M 101 0)).toNat) (M 2 (x2 % (M 101 0)).toNat)) (fun t24 =>
      gd (0 ≤ ((t20.1 + t22.1) + t24.1) + 1 ∧ ((t20.1 + t22.1) + t24.1) + 1 < 2147483648) (
      gd (inR (t20.1)) (
      gd (inR (x1)) (
      Option.bind (if t20.1 ≤ x1 then (
        some (x1))
      else (
        some (t20.1))) (fun t30 =>
      gd (inR ((((t20.1 + t22.1) + t24.1) + 1) / 2)) (
      gd (inR (t30)) (
      Option.bind (if (((t20.1 + t22.1) + t24.1) + 1) / 2 ≤ t30 then (
        some (t30))
      else (
        some ((((t20.1 + t22.1) + t24.1) + 1) / 2))) (fun t36 =>
      fX6_boundNow_L23 n t24.2 t36 (x2 + 1))))))))))))))))))))))
def fX6_boundNow (M : Mem)  : Option (Int × Mem) :=
    gd (inR (M 101 0)) (
    Option.bind (if 2 ≤ M 101 0 then (
      Option.bind (fX6_treeOfPairs M) (fun t3 =>
      gd (0 ≤ t3.1 + 1 ∧ t3.1 + 1 < 2147483648) (
      some ((t3.1 + 1) / 2, t3.2))))
    else (
      some (0, M))) (fun t6 =>
    Option.bind (fX6_boundNow_L23 FU t6.2 t6.1 0) (fun t40 =>
    some (t40.1, t40.2))))
def fX6_bound (M : Mem)  : Option (Int × Mem) :=
    Option.bind (fX6_boundNow (wr M 100 0 0)) (fun t1 =>
    some (t1.1, t1.2))
def fX6_gap (M : Mem)  : Option (Int × Mem) :=
    Option.bind (fX6_leastNow (wr M 100 0 0)) (fun t1 =>
    Option.bind (fX6_boundNow t1.2) (fun t3 =>
    some (t1.1 - t3.1, t3.2)))
def fX6_isUsed (M : Mem) (x1 : Int) : Option (Int × Mem) :=
    Option.bind (fX6_isEdge M x1) (fun t1 =>
    gd (inR (t1)) (
    Option.bind (if t1 = 0 then (
      some (1))
    else (
      some (0))) (fun t5 =>
    Option.bind (fX6_refused M t5) (fun t8 =>
    gd (inR (t8.1)) (
    if t8.1 = 0 then (
      gd (inR (t8.2 101 0)) (
      if 2 ≤ t8.2 101 0 then (
        Option.bind (fX6_leastNow t8.2) (fun t14 =>
        Option.bind (fX6_first t14.2 x1) (fun t16 =>
        gd (inB (t14.2 101 0) 7) (
        Option.bind (fX6_leastOf (wr (wr t14.2 7 (t14.2 101 0).toNat t16) 104 0 x1) (((wr (wr t14.2 7 (t14.2 101 0).toNat t16) 104 0 x1) 101 0) + 1)) (fun t19 =>
        Option.bind (fX6_costOfEdge t19.2 x1) (fun t21 =>
        gd (inR (t19.1 + t21)) (
        gd (inR (t14.1)) (
        Option.bind (if t19.1 + t21 = t14.1 then (
          some (1))
        else (
          some (0))) (fun t26 =>
        gd (t26 = 0 ∨ t26 = 1) (
        some (t26, (wr t19.2 104 0 ((-1))))))))))))))
      else (
        some (0, t8.2))))
    else (
      some (0, t8.2)))))))
def fX6_stepCost (M : Mem) (x1 : Int) (x2 : Int) : Option (Int) :=
    gd (inB (x1) 60) (
    gd (inR (M 9 x1.toNat)) (
    if M 9 x1.toNat = 0 then (
      Option.bind (fX6_costOfEdge M x1) (fun t4 =>
      some (t4)))
    else (
      gd (inB (x1) 60) (
      gd (inR (x2)) (
      Option.bind (if x2 = 0 then (
        some (1))
      else (
        some ((-1)))) (fun t9 =>
      gd (inR (t9)) (
      Option.bind (if M 9 x1.toNat = t9 then (
        Option.bind (fX6_costOfEdge M x1) (fun t14 =>
        some (-t14)))
      else (
        some (1000000000))) (fun t16 =>
      some (t16)))))))))
def fX6_oneWay_L2 : Nat → Mem → Int → Int → Int → Option (Mem)
  | 0, _, _, _, _ => none
  | n + 1, M, x1, x2, x3 =>
    gd (inR (x3)) (
    if 36 ≤ x3 then (
      some (M))
    else (
      gd (inR (x1)) (
      Option.bind (if x3 = x1 then (
        some (0))
      else (
        some (1000000000))) (fun t5 =>
      gd (inB (x3) 36) (
      gd (inB (x3) 36) (
      fX6_oneWay_L2 n (wr (wr M 6 x3.toNat t5) 10 x3.toNat ((-1))) x1 x2 (x3 + 1)))))))
def fX6_oneWay_L49 : Nat → Mem → Int → Int → Int → Int → Option (Mem)
  | 0, _, _, _, _, _ => none
  | n + 1, M, x1, x2, x3, x4 =>
    gd (inR (x4)) (
    if 120 ≤ x4 then (
      some (M))
    else (
      gd (0 ≤ x4 ∧ x4 < 2147483648) (
      gd (0 ≤ x4 ∧ x4 < 2147483648) (
      gd (inR (x4 % 2)) (
      Option.bind (if x4 % 2 = 0 then (
        Option.bind (fX6_first M (x4 / 2)) (fun t22 =>
        some (t22)))
      else (
        Option.bind (fX6_second M (x4 / 2)) (fun t24 =>
        some (t24)))) (fun t26 =>
      gd (0 ≤ x4 ∧ x4 < 2147483648) (
      Option.bind (if x4 % 2 = 0 then (
        Option.bind (fX6_second M (x4 / 2)) (fun t31 =>
        some (t31)))
      else (
        Option.bind (fX6_first M (x4 / 2)) (fun t33 =>
        some (t33)))) (fun t35 =>
      gd (0 ≤ x4 ∧ x4 < 2147483648) (
      Option.bind (if x4 % 2 = 0 then (
        some (1))
      else (
        some (0))) (fun t40 =>
      Option.bind (fX6_stepCost M (x4 / 2) t40) (fun t43 =>
      gd (inB (t26) 36) (
      gd (inR (M 6 t26.toNat)) (
      Option.bind (if 1000000000 ≤ M 6 t26.toNat then (
        some (M))
      else (
        gd (inR (t43)) (
        if 1000000000 ≤ t43 then (
          some (M))
        else (
          gd (inB (t26) 36) (
          gd (inB (t35) 36) (
          gd (inR ((M 6 t26.toNat) + t43)) (
          gd (inR (M 6 t35.toNat)) (
          if M 6 t35.toNat ≤ (M 6 t26.toNat) + t43 then (
            some (M))
          else (
            gd (inB (t26) 36) (
            gd (inB (t35) 36) (
            gd (inB (t35) 36) (
            some ((wr (wr M 6 t35.toNat ((M 6 t26.toNat) + t43)) 10 t35.toNat x4)))))))))))))) (fun t58 =>
      fX6_oneWay_L49 n t58 x1 x2 x3 (x4 + 1)))))))))))))))
def fX6_oneWay_L40 : Nat → Mem → Int → Int → Int → Option (Mem)
  | 0, _, _, _, _ => none
  | n + 1, M, x1, x2, x3 =>
    gd (inR (x3)) (
    if 36 ≤ x3 then (
      some (M))
    else (
      Option.bind (fX6_oneWay_L49 FU M x1 x2 x3 0) (fun t62 =>
      fX6_oneWay_L40 n t62 x1 x2 (x3 + 1))))
def fX6_oneWay_L205 : Nat → Mem → Int → Int → Int → Option (Mem)
  | 0, _, _, _, _ => none
  | n + 1, M, x1, x2, x3 =>
    gd (inR (x3)) (
    gd (inR (x1)) (
    if x3 = x1 then (
      some (M))
    else (
      gd (inB (x3) 36) (
      gd (0 ≤ M 10 x3.toNat ∧ M 10 x3.toNat < 2147483648) (
      gd (inB ((M 10 x3.toNat) / 2) 60) (
      gd (0 ≤ M 10 x3.toNat ∧ M 10 x3.toNat < 2147483648) (
      gd (inR ((M 10 x3.toNat) % 2)) (
      Option.bind (if (M 10 x3.toNat) % 2 = 0 then (
        some (1))
      else (
        some ((-1)))) (fun t78 =>
      gd (inB ((M 10 x3.toNat) / 2) 60) (
      gd (0 ≤ M 10 x3.toNat ∧ M 10 x3.toNat < 2147483648) (
      Option.bind (if (M 10 x3.toNat) % 2 = 0 then (
        gd (0 ≤ M 10 x3.toNat ∧ M 10 x3.toNat < 2147483648) (
        Option.bind (fX6_first (wr M 9 ((M 10 x3.toNat) / 2).toNat ((M 9 ((M 10 x3.toNat) / 2).toNat) + t78)) ((M 10 x3.toNat) / 2)) (fun t85 =>
        some (t85))))
      else (
        gd (0 ≤ M 10 x3.toNat ∧ M 10 x3.toNat < 2147483648) (
        Option.bind (fX6_second (wr M 9 ((M 10 x3.toNat) / 2).toNat ((M 9 ((M 10 x3.toNat) / 2).toNat) + t78)) ((M 10 x3.toNat) / 2)) (fun t88 =>
        some (t88))))) (fun t90 =>
      fX6_oneWay_L205 n (wr M 9 ((M 10 x3.toNat) / 2).toNat ((M 9 ((M 10 x3.toNat) / 2).toNat) + t78)) x1 x2 t90))))))))))))
def fX6_oneWay (M : Mem) (x1 : Int) (x2 : Int) : Option (Int × Mem) :=
    Option.bind (fX6_oneWay_L2 FU M x1 x2 0) (fun t11 =>
    Option.bind (fX6_oneWay_L40 FU t11 x1 x2 0) (fun t66 =>
    Option.bind (fX6_oneWay_L205 FU t66 x1 x2 x2) (fun t94 =>
    gd (inB (x2) 36) (
    some (t94 6 x2.toNat, t94)))))
def fX6_twoWays_L39 : Nat → Mem → Int → Int → Int → Option (Mem)
  | 0, _, _, _, _ => none
  | n + 1, M, x1, x2, x3 =>
    gd (inR (x3)) (
    if 60 ≤ x3 then (
      some (M))
    else (
      gd (inB (x3) 60) (
      fX6_twoWays_L39 n (wr M 9 x3.toNat 0) x1 x2 (x3 + 1))))
def fX6_twoWays (M : Mem) (x1 : Int) (x2 : Int) : Option (Int × Mem) :=
    Option.bind (fX6_isNode M x1) (fun t1 =>
    gd (inR (t1)) (
    Option.bind (if t1 = 0 then (
      some (1))
    else (
      Option.bind (fX6_isNode M x2) (fun t5 =>
      gd (inR (t5)) (
      if t5 = 0 then (
        some (1))
      else (
        gd (inR (x1)) (
        gd (inR (x2)) (
        if x1 = x2 then (
          some (2))
        else (
          some (0))))))))) (fun t12 =>
    Option.bind (fX6_refused M t12) (fun t15 =>
    gd (inR (t15.1)) (
    if t15.1 = 0 then (
      Option.bind (fX6_twoWays_L39 FU t15.2 x1 x2 0) (fun t23 =>
      Option.bind (fX6_oneWay t23 x1 x2) (fun t26 =>
      Option.bind (fX6_oneWay t26.2 x1 x2) (fun t28 =>
      some (t26.1 + t28.1, t28.2)))))
    else (
      some (0, t15.2)))))))
def fX6_pin (M : Mem) (x1 : Int) (x2 : Int) : Option (Int × Mem) :=
    Option.bind (fX6_isNode M x1) (fun t1 =>
    gd (inR (t1)) (
    Option.bind (if t1 = 0 then (
      some (1))
    else (
      Option.bind (fX6_in M x2 0 2) (fun t5 =>
      gd (inR (t5)) (
      if t5 = 0 then (
        some (2))
      else (
        some (0)))))) (fun t9 =>
    Option.bind (fX6_refused M t9) (fun t12 =>
    gd (inR (t12.1)) (
    if t12.1 = 0 then (
      gd (inB (x1) 36) (
      gd (inB (x1) 36) (
      some (t12.2 3 x1.toNat, (wr t12.2 3 x1.toNat x2)))))
    else (
      some (0, t12.2)))))))
def fX6_rest (M : Mem) (x1 : Int) (x2 : Int) : Option (Int) :=
    gd (inR (x2)) (
    Option.bind (if x2 = 0 then (
      Option.bind (fX6_costOfEdge M x1) (fun t3 =>
      gd (inB (x1) 60) (
      some (t3 + (M 9 x1.toNat)))))
    else (
      Option.bind (fX6_costOfEdge M x1) (fun t6 =>
      gd (inB (x1) 60) (
      some (t6 - (M 9 x1.toNat)))))) (fun t9 =>
    some (t9)))
def fX6_reach_L2 : Nat → Mem → Int → Int → Int → Option (Mem)
  | 0, _, _, _, _ => none
  | n + 1, M, x1, x2, x3 =>
    gd (inR (x3)) (
    if 36 ≤ x3 then (
      some (M))
    else (
      gd (inB (x3) 36) (
      gd (inR (M 3 x3.toNat)) (
      gd (inR (x1)) (
      Option.bind (if M 3 x3.toNat = x1 then (
        some (1))
      else (
        some (0))) (fun t7 =>
      gd (inB (x3) 36) (
      gd (t7 = 0 ∨ t7 = 1) (
      gd (inB (x3) 36) (
      fX6_reach_L2 n (wr (wr M 11 x3.toNat t7) 10 x3.toNat ((-1))) x1 x2 (x3 + 1))))))))))
def fX6_reach_L53 : Nat → Mem → Int → Int → Int → Option (Int × Mem)
  | 0, _, _, _, _ => none
  | n + 1, M, x2, x3, x4 =>
    gd (inR (x4)) (
    if 120 ≤ x4 then (
      some (x3, M))
    else (
      gd (0 ≤ x4 ∧ x4 < 2147483648) (
      gd (inR (x4 % 2)) (
      Option.bind (if x4 % 2 = 0 then (
        some (1))
      else (
        some (0))) (fun t24 =>
      gd (inR (t24)) (
      Option.bind (if t24 = 0 then (
        gd (0 ≤ x4 ∧ x4 < 2147483648) (
        Option.bind (fX6_second M (x4 / 2)) (fun t30 =>
        some (t30))))
      else (
        gd (0 ≤ x4 ∧ x4 < 2147483648) (
        Option.bind (fX6_first M (x4 / 2)) (fun t33 =>
        some (t33))))) (fun t35 =>
      Option.bind (if t24 = 0 then (
        gd (0 ≤ x4 ∧ x4 < 2147483648) (
        Option.bind (fX6_first M (x4 / 2)) (fun t40 =>
        some (t40))))
      else (
        gd (0 ≤ x4 ∧ x4 < 2147483648) (
        Option.bind (fX6_second M (x4 / 2)) (fun t43 =>
        some (t43))))) (fun t45 =>
      gd (inB (t35) 36) (
      gd (inR (M 11 t35.toNat)) (
      Option.bind (if M 11 t35.toNat = 0 then (
        some (0))
      else (
        gd (inB (t45) 36) (
        gd (inR (M 11 t45.toNat)) (
        if M 11 t45.toNat = 0 then (
          gd (0 ≤ x4 ∧ x4 < 2147483648) (
          gd (inR (x2)) (
          Option.bind (if t24 = x2 then (
            some (1))
          else (
            some (0))) (fun t57 =>
          Option.bind (fX6_rest M (x4 / 2) t57) (fun t60 =>
          gd (inR (t60)) (
          if t60 ≤ 0 then (
            some (0))
          else (
            some (1))))))))
        else (
          some (0)))))) (fun t64 =>
      gd (inR (t64)) (
      Option.bind (if t64 = 0 then (
        some (x3, M))
      else (
        gd (inB (t45) 36) (
        gd (inB (t45) 36) (
        some (1, (wr (wr M 11 t45.toNat 1) 10 t45.toNat x4)))))) (fun t71 =>
      fX6_reach_L53 n t71.2 x2 t71.1 (x4 + 1))))))))))))))
def fX6_reach_L44 : Nat → Mem → Int → Int → Option (Mem)
  | 0, _, _, _ => none
  | n + 1, M, x2, x3 =>
    gd (inR (x3)) (
    if x3 = 0 then (
      some (M))
    else (
      Option.bind (fX6_reach_L53 FU M x2 0 0) (fun t75 =>
      fX6_reach_L44 n t75.2 x2 t75.1)))
def fX6_reach (M : Mem) (x1 : Int) (x2 : Int) : Option (Mem) :=
    Option.bind (fX6_reach_L2 FU M x1 x2 0) (fun t14 =>
    Option.bind (fX6_reach_L44 FU t14 x2 1) (fun t79 =>
    some (t79)))
def fX6_reachedOutside_L4 : Nat → Mem → Int → Int → Option (Int)
  | 0, _, _, _ => none
  | n + 1, M, x1, x2 =>
    gd (inR (x2)) (
    if 36 ≤ x2 then (
      some (x1))
    else (
      gd (inB (x2) 36) (
      gd (inR (M 11 x2.toNat)) (
      Option.bind (if M 11 x2.toNat = 0 then (
        some (x1))
      else (
        gd (inB (x2) 36) (
        gd (inR (M 3 x2.toNat)) (
        if M 3 x2.toNat = 2 then (
          some (x2))
        else (
          some (x1)))))) (fun t9 =>
      fX6_reachedOutside_L4 n M t9 (x2 + 1))))))
def fX6_reachedOutside (M : Mem)  : Option (Int) :=
    Option.bind (fX6_reachedOutside_L4 FU M ((-1)) 0) (fun t13 =>
    some (t13))
def fX6_push_L2 : Nat → Mem → Int → Option (Mem)
  | 0, _, _ => none
  | n + 1, M, x2 =>
    gd (inB (x2) 36) (
    gd (inR (M 10 x2.toNat)) (
    if M 10 x2.toNat = (-1) then (
      some (M))
    else (
      gd (inB (x2) 36) (
      gd (0 ≤ M 10 x2.toNat ∧ M 10 x2.toNat < 2147483648) (
      gd (inB ((M 10 x2.toNat) / 2) 60) (
      gd (0 ≤ M 10 x2.toNat ∧ M 10 x2.toNat < 2147483648) (
      gd (inR ((M 10 x2.toNat) % 2)) (
      Option.bind (if (M 10 x2.toNat) % 2 = 0 then (
        some (1))
      else (
        some ((-1)))) (fun t10 =>
      gd (inB ((M 10 x2.toNat) / 2) 60) (
      gd (0 ≤ M 10 x2.toNat ∧ M 10 x2.toNat < 2147483648) (
      Option.bind (if (M 10 x2.toNat) % 2 = 0 then (
        gd (0 ≤ M 10 x2.toNat ∧ M 10 x2.toNat < 2147483648) (
        Option.bind (fX6_first (wr M 9 ((M 10 x2.toNat) / 2).toNat ((M 9 ((M 10 x2.toNat) / 2).toNat) + t10)) ((M 10 x2.toNat) / 2)) (fun t17 =>
        some (t17))))
      else (
        gd (0 ≤ M 10 x2.toNat ∧ M 10 x2.toNat < 2147483648) (
        Option.bind (fX6_second (wr M 9 ((M 10 x2.toNat) / 2).toNat ((M 9 ((M 10 x2.toNat) / 2).toNat) + t10)) ((M 10 x2.toNat) / 2)) (fun t20 =>
        some (t20))))) (fun t22 =>
      fX6_push_L2 n (wr M 9 ((M 10 x2.toNat) / 2).toNat ((M 9 ((M 10 x2.toNat) / 2).toNat) + t10)) t22))))))))))))
def fX6_push (M : Mem) (x1 : Int) : Option (Mem) :=
    Option.bind (fX6_push_L2 FU M x1) (fun t26 =>
    some (t26))
def fX6_greatestFlow_L2 : Nat → Mem → Int → Option (Mem)
  | 0, _, _ => none
  | n + 1, M, x1 =>
    gd (inR (x1)) (
    if 60 ≤ x1 then (
      some (M))
    else (
      gd (inB (x1) 60) (
      fX6_greatestFlow_L2 n (wr M 9 x1.toNat 0) (x1 + 1))))
def fX6_greatestFlow_L34 : Nat → Mem → Int → Int → Option (Int × Mem)
  | 0, _, _, _ => none
  | n + 1, M, x1, x2 =>
    gd (inR (x2)) (
    if x2 = (-1) then (
      some (x1, M))
    else (
      Option.bind (fX6_push M x2) (fun t14 =>
      Option.bind (fX6_reach t14 1 1) (fun t16 =>
      Option.bind (fX6_reachedOutside t16) (fun t18 =>
      fX6_greatestFlow_L34 n t16 (x1 + 1) t18)))))
def fX6_greatestFlow (M : Mem)  : Option (Int × Mem) :=
    Option.bind (fX6_greatestFlow_L2 FU M 0) (fun t5 =>
    Option.bind (fX6_reach t5 1 1) (fun t8 =>
    Option.bind (fX6_reachedOutside t8) (fun t10 =>
    Option.bind (fX6_greatestFlow_L34 FU t8 0 t10) (fun t21 =>
    some (t21.1, t21.2)))))
def fX6_film (M : Mem)  : Option (Int × Mem) :=
    Option.bind (fX6_greatestFlow (wr M 100 0 0)) (fun t1 =>
    some (t1.1, t1.2))
def fX6_proof (M : Mem)  : Option (Int × Mem) :=
    Option.bind (fX6_greatestFlow (wr M 100 0 0)) (fun t1 =>
    some (t1.1, t1.2))
def fX6_side_L37 : Nat → Mem → Int → Int64 → Int → Option (Int64)
  | 0, _, _, _, _ => none
  | n + 1, M, x1, x2, x4 =>
    gd (inR (x4)) (
    if 36 ≤ x4 then (
      some (x2))
    else (
      gd (inB (x4) 36) (
      gd (inR (M 11 x4.toNat)) (
      gd (inR (x1)) (
      Option.bind (if M 11 x4.toNat = x1 then (
        some (0))
      else (
        some (llshl 1 x4))) (fun t20 =>
      fX6_side_L37 n M x1 (x2 ||| t20) (x4 + 1)))))))
def fX6_side (M : Mem) (x1 : Int) : Option (Int64 × Mem) :=
    Option.bind (fX6_greatestFlow (wr M 100 0 0)) (fun t1 =>
    gd (inR (x1)) (
    Option.bind (if x1 = 0 then (
      some (1))
    else (
      some (2))) (fun t5 =>
    Option.bind (if x1 = 0 then (
      some (1))
    else (
      some (0))) (fun t9 =>
    Option.bind (fX6_reach t1.2 t5 t9) (fun t12 =>
    Option.bind (fX6_side_L37 FU t12 x1 0 0) (fun t24 =>
    some (t24, t12)))))))
def fX6_costOf_L33 : Nat → Mem → Int64 → Int → Int → Option (Int)
  | 0, _, _, _, _ => none
  | n + 1, M, x1, x3, x4 =>
    gd (inR (x4)) (
    if 36 ≤ x4 then (
      some (x3))
    else (
      Option.bind (if zlcmp ((llshr x1 x4) &&& 1) 1 = 0 then (
        some (1))
      else (
        some (0))) (fun t13 =>
      gd (inR (x3)) (
      Option.bind (if x3 = 0 then (
        some (0))
      else (
        gd (inB (x4) 36) (
        gd (inR (t13)) (
        Option.bind (if t13 = 0 then (
          some (1))
        else (
          some (2))) (fun t21 =>
        gd (inR (M 3 x4.toNat)) (
        gd (inR (t21)) (
        if M 3 x4.toNat = t21 then (
          some (0))
        else (
          some (1))))))))) (fun t27 =>
      fX6_costOf_L33 n M x1 t27 (x4 + 1))))))
def fX6_costOf_L100 : Nat → Mem → Int64 → Int → Int → Int → Option (Int)
  | 0, _, _, _, _, _ => none
  | n + 1, M, x1, x3, x4, x5 =>
    gd (inR (x5)) (
    if 60 ≤ x5 then (
      some (x4))
    else (
      Option.bind (fX6_first M x5) (fun t36 =>
      Option.bind (fX6_second M x5) (fun t38 =>
      Option.bind (if zlcmp ((llshr x1 t36) &&& 1) ((llshr x1 t38) &&& 1) = 0 then (
        some (0))
      else (
        Option.bind (fX6_costOfEdge M x5) (fun t41 =>
        some (t41)))) (fun t43 =>
      fX6_costOf_L100 n M x1 x3 (x4 + t43) (x5 + 1))))))
def fX6_costOf (M : Mem) (x1 : Int64) : Option (Int × Mem) :=
    Option.bind (if zlcmp x1 0 < 0 then (
      some (1))
    else (
      if 0 ≤ zlcmp x1 68719476736 then (
        some (1))
      else (
        some (0)))) (fun t3 =>
    Option.bind (fX6_refused M t3) (fun t6 =>
    gd (inR (t6.1)) (
    if t6.1 = 0 then (
      Option.bind (fX6_costOf_L33 FU t6.2 x1 1 0) (fun t31 =>
      Option.bind (fX6_costOf_L100 FU t6.2 x1 t31 0 0) (fun t47 =>
      gd (inR (t31)) (
      Option.bind (if t31 = 0 then (
        some ((-1)))
      else (
        some (t47))) (fun t52 =>
      some (t52, t6.2))))))
    else (
      some (0, t6.2)))))
def fX6_pull (M : Mem) (x1 : Int) (x2 : Int) : Option (Int × Mem) :=
    Option.bind (fX6_isNode M x1) (fun t1 =>
    gd (inR (t1)) (
    Option.bind (if t1 = 0 then (
      some (1))
    else (
      Option.bind (fX6_isBubble M x2) (fun t5 =>
      gd (inR (t5)) (
      if t5 = 0 then (
        some (1))
      else (
        some (0)))))) (fun t9 =>
    Option.bind (fX6_refused M t9) (fun t12 =>
    gd (inR (t12.1)) (
    if t12.1 = 0 then (
      gd (inB (x1) 36) (
      Option.bind (fX6_energyNow t12.2) (fun t17 =>
      gd (inB (x1) 36) (
      Option.bind (fX6_energyNow (wr t12.2 4 x1.toNat x2)) (fun t20 =>
      some (t12.2 4 x1.toNat, (wr (wr t12.2 4 x1.toNat x2) 102 0 (((wr t12.2 4 x1.toNat x2) 102 0) + (t20 - t17)))))))))
    else (
      some (0, t12.2)))))))
def fX6_hold (M : Mem) (x1 : Int) (x2 : Int) : Option (Int × Mem) :=
    Option.bind (fX6_isBubble M x1) (fun t1 =>
    gd (inR (t1)) (
    Option.bind (if t1 = 0 then (
      some (1))
    else (
      some (0))) (fun t5 =>
    Option.bind (fX6_refused M t5) (fun t8 =>
    gd (inR (t8.1)) (
    if t8.1 = 0 then (
      gd (inB (x1) 8) (
      gd (inB (x1) 8) (
      gd (x2 = 0 ∨ x2 = 1) (
      gd (t8.2 5 x1.toNat = 0 ∨ t8.2 5 x1.toNat = 1) (
      some (t8.2 5 x1.toNat, (wr t8.2 5 x1.toNat x2)))))))
    else (
      some (0, t8.2)))))))
def fX6_wallsOf_L5 : Nat → Mem → Int → Int → Int → Int → Option (Int)
  | 0, _, _, _, _, _ => none
  | n + 1, M, x1, x2, x3, x4 =>
    gd (inR (x4)) (
    if 60 ≤ x4 then (
      some (x3))
    else (
      Option.bind (fX6_first M x4) (fun t3 =>
      gd (inR (t3)) (
      gd (inR (x1)) (
      Option.bind (if t3 = x1 then (
        Option.bind (fX6_second M x4) (fun t8 =>
        some (t8)))
      else (
        Option.bind (fX6_second M x4) (fun t10 =>
        gd (inR (t10)) (
        if t10 = x1 then (
          Option.bind (fX6_first M x4) (fun t14 =>
          some (t14)))
        else (
          some ((-1))))))) (fun t16 =>
      gd (inR (t16)) (
      Option.bind (if t16 = (-1) then (
        some (0))
      else (
        gd (inB (t16) 36) (
        gd (inR (M 4 t16.toNat)) (
        gd (inR (x2)) (
        if M 4 t16.toNat = x2 then (
          some (0))
        else (
          Option.bind (fX6_costOfEdge M x4) (fun t25 =>
          some (t25)))))))) (fun t27 =>
      fX6_wallsOf_L5 n M x1 x2 (x3 + t27) (x4 + 1)))))))))
def fX6_wallsOf (M : Mem) (x1 : Int) (x2 : Int) : Option (Int) :=
    Option.bind (fX6_wallsOf_L5 FU M x1 x2 0 0) (fun t31 =>
    some (t31))
def fX6_isBeside_L5 : Nat → Mem → Int → Int → Int → Int → Option (Int)
  | 0, _, _, _, _, _ => none
  | n + 1, M, x1, x2, x3, x4 =>
    gd (inR (x4)) (
    if 60 ≤ x4 then (
      some (x3))
    else (
      Option.bind (fX6_first M x4) (fun t3 =>
      gd (inR (t3)) (
      gd (inR (x1)) (
      Option.bind (if t3 = x1 then (
        Option.bind (fX6_second M x4) (fun t8 =>
        some (t8)))
      else (
        Option.bind (fX6_second M x4) (fun t10 =>
        gd (inR (t10)) (
        if t10 = x1 then (
          Option.bind (fX6_first M x4) (fun t14 =>
          some (t14)))
        else (
          some ((-1))))))) (fun t16 =>
      gd (inR (x3)) (
      Option.bind (if x3 = 0 then (
        gd (inR (t16)) (
        if t16 = (-1) then (
          some (0))
        else (
          gd (inB (t16) 36) (
          gd (inR (M 4 t16.toNat)) (
          gd (inR (x2)) (
          if M 4 t16.toNat = x2 then (
            some (1))
          else (
            some (0))))))))
      else (
        some (1))) (fun t27 =>
      fX6_isBeside_L5 n M x1 x2 t27 (x4 + 1)))))))))
def fX6_isBeside (M : Mem) (x1 : Int) (x2 : Int) : Option (Int) :=
    Option.bind (fX6_isBeside_L5 FU M x1 x2 0 0) (fun t31 =>
    gd (t31 = 0 ∨ t31 = 1) (
    some (t31)))
def fX6_bestFor_L20 : Nat → Mem → Int → Int → Int → Int → Int → Option (Int)
  | 0, _, _, _, _, _, _ => none
  | n + 1, M, x1, x2, x3, x4, x5 =>
    gd (inR (x5)) (
    if 8 ≤ x5 then (
      some (x3))
    else (
      gd (inB (x2) 8) (
      gd (inR (M 5 x2.toNat)) (
      if M 5 x2.toNat = 0 then (
        gd (inB (x5) 8) (
        gd (inR (M 5 x5.toNat)) (
        Option.bind (if M 5 x5.toNat = 0 then (
          Option.bind (fX6_isBeside M x1 x5) (fun t12 =>
          gd (inR (t12)) (
          if t12 = 0 then (
            some (0))
          else (
            some (1)))))
        else (
          some (0))) (fun t16 =>
        gd (inR (t16)) (
        Option.bind (if t16 = 0 then (
          some (1000000000))
        else (
          Option.bind (fX6_wallsOf M x1 x5) (fun t21 =>
          some (t21)))) (fun t23 =>
        gd (inR (t23)) (
        gd (inR (x4)) (
        Option.bind (if x4 ≤ t23 then (
          some (x3))
        else (
          some (x5))) (fun t29 =>
        Option.bind (if x4 ≤ t23 then (
          some (x4))
        else (
          some (t23))) (fun t33 =>
        fX6_bestFor_L20 n M x1 x2 t29 t33 (x5 + 1)))))))))))
      else (
        some (x3))))))
def fX6_bestFor (M : Mem) (x1 : Int) : Option (Int) :=
    gd (inB (x1) 36) (
    Option.bind (fX6_wallsOf M x1 (M 4 x1.toNat)) (fun t2 =>
    Option.bind (fX6_bestFor_L20 FU M x1 (M 4 x1.toNat) (M 4 x1.toNat) t2 0) (fun t37 =>
    some (t37))))
def fX6_breath_L4 : Nat → Mem → Int → Int → Option (Int × Mem)
  | 0, _, _, _ => none
  | n + 1, M, x1, x2 =>
    gd (inR (x2)) (
    if 36 ≤ x2 then (
      some (x1, M))
    else (
      Option.bind (fX6_bestFor M x2) (fun t3 =>
      gd (inB (x2) 36) (
      gd (inR (t3)) (
      gd (inR (M 4 x2.toNat)) (
      Option.bind (if t3 = M 4 x2.toNat then (
        some (0))
      else (
        some (1))) (fun t9 =>
      gd (inB (x2) 36) (
      fX6_breath_L4 n (wr M 4 x2.toNat t3) (x1 + t9) (x2 + 1)))))))))
def fX6_breath (M : Mem)  : Option (Int × Mem) :=
    Option.bind (fX6_breath_L4 FU M 0 0) (fun t14 =>
    some (t14.1, t14.2))
def fX6_breathe_L34 : Nat → Mem → Int → Int → Int → Int → Option (Int × Mem)
  | 0, _, _, _, _, _ => none
  | n + 1, M, x1, x2, x3, x4 =>
    gd (inR (x4)) (
    gd (inR (x1)) (
    if x1 ≤ x4 then (
      some (x3, M))
    else (
      Option.bind (fX6_breath M) (fun t17 =>
      fX6_breathe_L34 n t17.2 x1 x2 (x3 + t17.1) (x4 + 1)))))
def fX6_breathe (M : Mem) (x1 : Int) : Option (Int × Mem) :=
    Option.bind (fX6_in M x1 1 100) (fun t1 =>
    gd (inR (t1)) (
    Option.bind (if t1 = 0 then (
      some (1))
    else (
      some (0))) (fun t5 =>
    Option.bind (fX6_refused M t5) (fun t8 =>
    gd (inR (t8.1)) (
    if t8.1 = 0 then (
      Option.bind (fX6_energyNow t8.2) (fun t12 =>
      Option.bind (fX6_breathe_L34 FU t8.2 x1 t12 0 0) (fun t20 =>
      Option.bind (fX6_energyNow t20.2) (fun t23 =>
      some (t20.1, (wr t20.2 103 0 ((t20.2 103 0) + (t12 - t23))))))))
    else (
      some (0, t8.2)))))))
def fX6_bubbleAt (M : Mem) (x1 : Int) : Option (Int × Mem) :=
    Option.bind (fX6_isNode M x1) (fun t1 =>
    gd (inR (t1)) (
    Option.bind (if t1 = 0 then (
      some (1))
    else (
      some (0))) (fun t5 =>
    Option.bind (fX6_refused M t5) (fun t8 =>
    gd (inR (t8.1)) (
    Option.bind (if t8.1 = 0 then (
      gd (inB (x1) 36) (
      some (t8.2 4 x1.toNat)))
    else (
      some (0))) (fun t13 =>
    some (t13, t8.2)))))))
def fX6_nodesOf_L4 : Nat → Mem → Int → Int → Int → Option (Int)
  | 0, _, _, _, _ => none
  | n + 1, M, x1, x2, x3 =>
    gd (inR (x3)) (
    if 36 ≤ x3 then (
      some (x2))
    else (
      gd (inB (x3) 36) (
      gd (inR (M 4 x3.toNat)) (
      gd (inR (x1)) (
      Option.bind (if M 4 x3.toNat = x1 then (
        some (1))
      else (
        some (0))) (fun t7 =>
      fX6_nodesOf_L4 n M x1 (x2 + t7) (x3 + 1)))))))
def fX6_nodesOf (M : Mem) (x1 : Int) : Option (Int) :=
    Option.bind (fX6_nodesOf_L4 FU M x1 0 0) (fun t11 =>
    some (t11))
def fX6_piecesOf_L2 : Nat → Mem → Int → Int → Option (Mem)
  | 0, _, _, _ => none
  | n + 1, M, x1, x2 =>
    gd (inR (x2)) (
    if 36 ≤ x2 then (
      some (M))
    else (
      gd (inB (x2) 36) (
      fX6_piecesOf_L2 n (wr M 13 x2.toNat x2) x1 (x2 + 1))))
def fX6_piecesOf_L31 : Nat → Mem → Int → Int → Int → Option (Mem)
  | 0, _, _, _, _ => none
  | n + 1, M, x1, x2, x3 =>
    gd (inR (x3)) (
    if 60 ≤ x3 then (
      some (M))
    else (
      Option.bind (fX6_first M x3) (fun t12 =>
      Option.bind (fX6_second M x3) (fun t14 =>
      gd (inB (t12) 36) (
      gd (inR (M 4 t12.toNat)) (
      gd (inR (x1)) (
      Option.bind (if M 4 t12.toNat = x1 then (
        gd (inB (t14) 36) (
        gd (inR (M 4 t14.toNat)) (
        if M 4 t14.toNat = x1 then (
          gd (inB (t12) 36) (
          gd (inB (t14) 36) (
          gd (inR (M 13 t12.toNat)) (
          gd (inR (M 13 t14.toNat)) (
          Option.bind (if M 13 t14.toNat ≤ M 13 t12.toNat then (
            gd (inB (t14) 36) (
            some (M 13 t14.toNat)))
          else (
            gd (inB (t12) 36) (
            some (M 13 t12.toNat)))) (fun t30 =>
          gd (inB (t12) 36) (
          gd (inB (t14) 36) (
          some ((wr (wr M 13 t12.toNat t30) 13 t14.toNat t30))))))))))
        else (
          some (M)))))
      else (
        some (M))) (fun t35 =>
      fX6_piecesOf_L31 n t35 x1 x2 (x3 + 1)))))))))
def fX6_piecesOf_L23 : Nat → Mem → Int → Int → Option (Mem)
  | 0, _, _, _ => none
  | n + 1, M, x1, x2 =>
    gd (inR (x2)) (
    if 36 ≤ x2 then (
      some (M))
    else (
      Option.bind (fX6_piecesOf_L31 FU M x1 x2 0) (fun t39 =>
      fX6_piecesOf_L23 n t39 x1 (x2 + 1))))
def fX6_piecesOf_L141 : Nat → Mem → Int → Int → Int → Option (Int)
  | 0, _, _, _, _ => none
  | n + 1, M, x1, x2, x3 =>
    gd (inR (x3)) (
    if 36 ≤ x3 then (
      some (x2))
    else (
      gd (inB (x3) 36) (
      gd (inR (M 4 x3.toNat)) (
      gd (inR (x1)) (
      Option.bind (if M 4 x3.toNat = x1 then (
        gd (inB (x3) 36) (
        gd (inR (M 13 x3.toNat)) (
        if M 13 x3.toNat = x3 then (
          some (1))
        else (
          some (0)))))
      else (
        some (0))) (fun t55 =>
      fX6_piecesOf_L141 n M x1 (x2 + t55) (x3 + 1)))))))
def fX6_piecesOf (M : Mem) (x1 : Int) : Option (Int × Mem) :=
    Option.bind (fX6_piecesOf_L2 FU M x1 0) (fun t5 =>
    Option.bind (fX6_piecesOf_L23 FU t5 x1 0) (fun t43 =>
    Option.bind (fX6_piecesOf_L141 FU t43 x1 0 0) (fun t59 =>
    some (t59, t43))))
def fX6_wallBetween_L5 : Nat → Mem → Int → Int → Int → Int → Option (Int)
  | 0, _, _, _, _, _ => none
  | n + 1, M, x1, x2, x3, x4 =>
    gd (inR (x4)) (
    if 60 ≤ x4 then (
      some (x3))
    else (
      Option.bind (fX6_first M x4) (fun t3 =>
      gd (inB (t3) 36) (
      Option.bind (fX6_second M x4) (fun t6 =>
      gd (inB (t6) 36) (
      gd (inR (x1)) (
      gd (inR (x2)) (
      Option.bind (if x1 = x2 then (
        some (0))
      else (
        gd (inR (M 4 t3.toNat)) (
        if M 4 t3.toNat = x1 then (
          gd (inR (M 4 t6.toNat)) (
          if M 4 t6.toNat = x2 then (
            Option.bind (fX6_costOfEdge M x4) (fun t16 =>
            some (t16)))
          else (
            if M 4 t3.toNat = x2 then (
              if M 4 t6.toNat = x1 then (
                Option.bind (fX6_costOfEdge M x4) (fun t20 =>
                some (t20)))
              else (
                some (0)))
            else (
              some (0)))))
        else (
          if M 4 t3.toNat = x2 then (
            gd (inR (M 4 t6.toNat)) (
            if M 4 t6.toNat = x1 then (
              Option.bind (fX6_costOfEdge M x4) (fun t25 =>
              some (t25)))
            else (
              some (0))))
          else (
            some (0)))))) (fun t27 =>
      fX6_wallBetween_L5 n M x1 x2 (x3 + t27) (x4 + 1))))))))))
def fX6_wallBetween (M : Mem) (x1 : Int) (x2 : Int) : Option (Int) :=
    Option.bind (fX6_wallBetween_L5 FU M x1 x2 0 0) (fun t31 =>
    some (t31))
def fX6_wallsOfBubble_L5 : Nat → Mem → Int → Int → Int → Int → Option (Int)
  | 0, _, _, _, _, _ => none
  | n + 1, M, x1, x2, x3, x4 =>
    gd (inR (x4)) (
    if 8 ≤ x4 then (
      some (x3))
    else (
      Option.bind (fX6_wallBetween M x1 x4) (fun t3 =>
      gd (inR (x2)) (
      Option.bind (if x2 = 0 then (
        gd (inR (t3)) (
        if t3 ≤ 0 then (
          some (0))
        else (
          some (1))))
      else (
        some (t3))) (fun t9 =>
      fX6_wallsOfBubble_L5 n M x1 x2 (x3 + t9) (x4 + 1))))))
def fX6_wallsOfBubble (M : Mem) (x1 : Int) (x2 : Int) : Option (Int) :=
    Option.bind (fX6_wallsOfBubble_L5 FU M x1 x2 0 0) (fun t13 =>
    some (t13))
def fX6_bubble (M : Mem) (x1 : Int) (x2 : Int) : Option (Int × Mem) :=
    Option.bind (fX6_isBubble M x1) (fun t1 =>
    gd (inR (t1)) (
    Option.bind (if t1 = 0 then (
      some (1))
    else (
      Option.bind (fX6_in M x2 0 4) (fun t5 =>
      gd (inR (t5)) (
      if t5 = 0 then (
        some (2))
      else (
        some (0)))))) (fun t9 =>
    Option.bind (fX6_refused M t9) (fun t12 =>
    gd (inR (t12.1)) (
    if t12.1 = 0 then (
      gd (inR (x2)) (
      if x2 = 0 then (
        Option.bind (fX6_nodesOf t12.2 x1) (fun t21 =>
        some (t21, t12.2)))
      else if x2 = 1 then (
        Option.bind (fX6_piecesOf t12.2 x1) (fun t23 =>
        some (t23.1, t23.2)))
      else if x2 = 2 then (
        Option.bind (fX6_wallsOfBubble t12.2 x1 1) (fun t25 =>
        some (t25, t12.2)))
      else if x2 = 3 then (
        Option.bind (fX6_wallsOfBubble t12.2 x1 0) (fun t27 =>
        some (t27, t12.2)))
      else (
        gd (inB (x1) 8) (
        gd (inR (t12.2 5 x1.toNat)) (
        Option.bind (if t12.2 5 x1.toNat = 0 then (
          some (0))
        else (
          some (1))) (fun t32 =>
        some (t32, t12.2)))))))
    else (
      some (0, t12.2)))))))
def fX6_wall (M : Mem) (x1 : Int) (x2 : Int) : Option (Int × Mem) :=
    Option.bind (fX6_isBubble M x1) (fun t1 =>
    gd (inR (t1)) (
    Option.bind (if t1 = 0 then (
      some (1))
    else (
      Option.bind (fX6_isBubble M x2) (fun t5 =>
      gd (inR (t5)) (
      if t5 = 0 then (
        some (1))
      else (
        some (0)))))) (fun t9 =>
    Option.bind (fX6_refused M t9) (fun t12 =>
    gd (inR (t12.1)) (
    Option.bind (if t12.1 = 0 then (
      Option.bind (fX6_wallBetween t12.2 x1 x2) (fun t16 =>
      some (t16)))
    else (
      some (0))) (fun t18 =>
    some (t18, t12.2)))))))
def fX6_kindsAt_L51 : Nat → Mem → Int → Int → Option (Int)
  | 0, _, _, _ => none
  | n + 1, M, x3, x4 =>
    gd (inR (x4)) (
    if x4 ≤ 0 then (
      some (x3))
    else (
      gd (0 ≤ x4 ∧ x4 < 2147483648) (
      gd (0 ≤ x4 ∧ x4 < 2147483648) (
      fX6_kindsAt_L51 n M (x3 + (x4 % 2)) (x4 / 2)))))
def fX6_kindsAt (M : Mem) (x1 : Int) : Option (Int) :=
    gd (inB (x1) 36) (
    gd (inB (x1 + 1) 36) (
    gd (inB (x1 + 6) 36) (
    gd (inB ((x1 + 6) + 1) 36) (
    Option.bind (fX6_kindsAt_L51 FU M 0 (zor (zor (zor (zshl 1 (M 4 x1.toNat)) (zshl 1 (M 4 (x1 + 1).toNat))) (zshl 1 (M 4 (x1 + 6).toNat))) (zshl 1 (M 4 ((x1 + 6) + 1).toNat)))) (fun t10 =>
    some (t10))))))
def fX6_corners_L27 : Nat → Mem → Int → Int → Int → Option (Int)
  | 0, _, _, _, _ => none
  | n + 1, M, x1, x2, x3 =>
    gd (inR (x3)) (
    if 25 ≤ x3 then (
      some (x2))
    else (
      gd (0 ≤ x3 ∧ x3 < 2147483648) (
      gd (0 ≤ x3 ∧ x3 < 2147483648) (
      Option.bind (fX6_kindsAt M ((6 * (x3 / 5)) + (x3 % 5))) (fun t16 =>
      gd (inR (t16)) (
      gd (inR (x1)) (
      Option.bind (if t16 = x1 then (
        some (1))
      else (
        some (0))) (fun t21 =>
      fX6_corners_L27 n M x1 (x2 + t21) (x3 + 1)))))))))
def fX6_corners (M : Mem) (x1 : Int) : Option (Int × Mem) :=
    Option.bind (fX6_in M x1 1 4) (fun t1 =>
    gd (inR (t1)) (
    Option.bind (if t1 = 0 then (
      some (1))
    else (
      some (0))) (fun t5 =>
    Option.bind (fX6_refused M t5) (fun t8 =>
    gd (inR (t8.1)) (
    if t8.1 = 0 then (
      Option.bind (fX6_corners_L27 FU t8.2 x1 0 0) (fun t25 =>
      some (t25, t8.2)))
    else (
      some (0, t8.2)))))))
def fX6_resting_L2 : Nat → Mem → Int → Int → Option (Mem)
  | 0, _, _, _ => none
  | n + 1, M, x1, x2 =>
    gd (inR (x2)) (
    if 36 ≤ x2 then (
      some (M))
    else (
      gd (inB (x2) 36) (
      gd (inB (x2) 36) (
      fX6_resting_L2 n (wr M 12 x2.toNat (M 4 x2.toNat)) x1 (x2 + 1)))))
def fX6_resting_L28 : Nat → Mem → Int → Int → Option (Int × Mem)
  | 0, _, _, _ => none
  | n + 1, M, x1, x2 =>
    Option.bind (fX6_breath M) (fun t9 =>
    gd (inR (t9.1)) (
    if t9.1 ≤ 0 then (
      some (x2, t9.2))
    else (
      fX6_resting_L28 n t9.2 x1 (x2 + 1))))
def fX6_resting_L49 : Nat → Mem → Int → Int → Int → Int → Option (Mem)
  | 0, _, _, _, _, _ => none
  | n + 1, M, x1, x2, x3, x4 =>
    gd (inR (x4)) (
    if 36 ≤ x4 then (
      some (M))
    else (
      gd (inB (x4) 36) (
      gd (inB (x4) 36) (
      fX6_resting_L49 n (wr M 4 x4.toNat (M 12 x4.toNat)) x1 x2 x3 (x4 + 1)))))
def fX6_resting (M : Mem) (x1 : Int) : Option (Int × Mem) :=
    Option.bind (fX6_resting_L2 FU M x1 0) (fun t6 =>
    Option.bind (fX6_resting_L28 FU t6 x1 0) (fun t14 =>
    Option.bind (fX6_energyNow t14.2) (fun t17 =>
    Option.bind (fX6_resting_L49 FU t14.2 x1 t14.1 t17 0) (fun t24 =>
    gd (inR (x1)) (
    Option.bind (if x1 = 0 then (
      some (t14.1))
    else (
      some (t17))) (fun t29 =>
    some (t29, t24)))))))
def fX6_rests (M : Mem)  : Option (Int × Mem) :=
    Option.bind (fX6_resting (wr M 100 0 0) 0) (fun t1 =>
    some (t1.1, t1.2))
def fX6_energy (M : Mem) (x1 : Int) : Option (Int × Mem) :=
    Option.bind (fX6_in M x1 0 4) (fun t1 =>
    gd (inR (t1)) (
    Option.bind (if t1 = 0 then (
      some (1))
    else (
      some (0))) (fun t5 =>
    Option.bind (fX6_refused M t5) (fun t8 =>
    gd (inR (t8.1)) (
    if t8.1 = 0 then (
      gd (inR (x1)) (
      if x1 = 0 then (
        Option.bind (fX6_energyNow t8.2) (fun t17 =>
        some (t17, t8.2)))
      else if x1 = 1 then (
        Option.bind (fX6_resting t8.2 1) (fun t19 =>
        some (t19.1, t19.2)))
      else if x1 = 2 then (
        some (t8.2 102 0, t8.2))
      else if x1 = 3 then (
        some (t8.2 103 0, t8.2))
      else (
        Option.bind (fX6_energyNow t8.2) (fun t21 =>
        some ((t21 + (t8.2 103 0)) - (t8.2 102 0), t8.2)))))
    else (
      some (0, t8.2)))))))
