/-! flows and cuts -/
def outF (f : Nat → Int) (v : Nat) : Int := ss (fun e => if lo e = v then f e else if hi e = v then -(f e) else 0) 0 60
theorem out_put (f : Nat → Int) {e : Nat} (he : e < 60) (x : Int) (v : Nat) : outF (put f e x) v = outF f v + (if lo e = v then x - f e else if hi e = v then f e - x else 0) := by
  unfold outF
  rw [ss_upd (f := fun i => if lo i = v then put f e x i else if hi i = v then -(put f e x i) else 0) (g := fun i => if lo i = v then f i else if hi i = v then -(f i) else 0) (k := e) 60 0 (Nat.zero_le _) (by omega) (fun i hi0 => by rw [put_ne hi0])]
  rw [put_at]
  by_cases c : lo e = v
  · rw [if_pos c, if_pos c, if_pos c]
  · rw [if_neg c, if_neg c, if_neg c]
    by_cases d : hi e = v
    · rw [if_pos d, if_pos d, if_pos d]; omega
    · rw [if_neg d, if_neg d, if_neg d]; omega
/-- over the nodes, or over the edges -/
theorem dsum (g f : Nat → Int) : ss (fun v => g v * outF f v) 0 36 = ss (fun e => f e * (g (lo e) - g (hi e))) 0 60 := by
  have e1 : ∀ v, g v * outF f v = ss (fun e => g v * (if lo e = v then f e else if hi e = v then -(f e) else 0)) 0 60 := fun v => (ss_mul (g v) _ 60 0).symm
  rw [ss_congr (g := fun v => ss (fun e => g v * (if lo e = v then f e else if hi e = v then -(f e) else 0)) 0 60) 36 0 (fun v _ _ => e1 v), ss_swap (fun v e => g v * (if lo e = v then f e else if hi e = v then -(f e) else 0)) 60 0 36 0]
  refine ss_congr 60 0 (fun e _ he => ?_)
  have he : e < 60 := by omega
  have hl := lo_lt he
  have hh := hi_lt he
  have hne := lo_hi he
  have e2 : ∀ v, g v * (if lo e = v then f e else if hi e = v then -(f e) else 0) = (if v = lo e then g (lo e) * f e else 0) + (if v = hi e then -(g (hi e) * f e) else 0) := by
    intro v
    by_cases c : lo e = v
    · rw [if_pos c, if_pos c.symm, if_neg (show ¬ v = hi e by omega), c, Int.add_zero]
    · rw [if_neg c, if_neg (Ne.symm c)]
      by_cases d : hi e = v
      · rw [if_pos d, if_pos d.symm, d, Int.zero_add, Int.mul_neg]
      · rw [if_neg d, if_neg (Ne.symm d), Int.mul_zero]; rfl
  show ss (fun v => g v * (if lo e = v then f e else if hi e = v then -(f e) else 0)) 0 36 = f e * (g (lo e) - g (hi e))
  rw [ss_congr (g := fun v => (if v = lo e then g (lo e) * f e else 0) + (if v = hi e then -(g (hi e) * f e) else 0)) 36 0 (fun v _ _ => e2 v), ss_add (fun v => if v = lo e then g (lo e) * f e else 0) (fun v => if v = hi e then -(g (hi e) * f e) else 0) 36 0, ss_one _ (Nat.zero_le _) (by omega), ss_one _ (Nat.zero_le _) (by omega), Int.mul_sub, Int.mul_comm (f e), Int.mul_comm (f e), Int.sub_eq_add_neg]
def Fld (pn c f : Nat → Int) : Prop := (∀ e, e < 60 → -(c e) ≤ f e ∧ f e ≤ c e) ∧ ∀ v, v < 36 → pn v = 0 → outF f v = 0
def vaF (pn f : Nat → Int) : Int := ss (fun v => (if pn v = 1 then 1 else 0) * outF f v) 0 36
/-- a set of nodes that is a film, as 0 and 1 -/
def isB (pn b : Nat → Int) : Prop := ∀ v, v < 36 → (b v = 0 ∨ b v = 1) ∧ (pn v = 1 → b v = 1) ∧ (pn v = 2 → b v = 0)
def pinR (pn : Nat → Int) : Prop := ∀ v, v < 36 → pn v = 0 ∨ pn v = 1 ∨ pn v = 2
theorem cut_val {pn c f b : Nat → Int} (hpn : pinR pn) (hf : Fld pn c f) (hb : isB pn b) : vaF pn f = ss (fun e => f e * (b (lo e) - b (hi e))) 0 60 := by
  rw [← dsum]
  unfold vaF
  refine ss_congr 36 0 (fun v _ hv => ?_)
  have hv : v < 36 := by omega
  have h := hb v hv
  rcases hpn v hv with q | q | q
  · rw [hf.2 v hv q, Int.mul_zero, Int.mul_zero]
  · rw [if_pos q, h.2.1 q]
  · rw [if_neg (by omega), h.2.2 q]
theorem cut_le {pn c f b : Nat → Int} (hf : Fld pn c f) (hb : isB pn b) {e : Nat} (he : e < 60) : f e * (b (lo e) - b (hi e)) ≤ (if b (lo e) = b (hi e) then 0 else c e) := by
  have h1 := (hb _ (lo_lt he)).1
  have h2 := (hb _ (hi_lt he)).1
  have h3 := hf.1 e he
  rcases h1 with q1 | q1 <;> rcases h2 with q2 | q2 <;> rw [q1, q2]
  · rw [if_pos rfl]; omega
  · rw [if_neg (by decide)]; omega
  · rw [if_neg (by decide)]; omega
  · rw [if_pos rfl]; omega
theorem weak {pn c f b : Nat → Int} (hpn : pinR pn) (hf : Fld pn c f) (hb : isB pn b) : vaF pn f ≤ enS c b := by
  rw [cut_val hpn hf hb]
  exact ss_le 60 0 (fun e _ he => cut_le hf hb (by omega))
theorem ss_tight {f g : Nat → Int} {m a : Nat} (h : ∀ i, a ≤ i → i < a + m → f i ≤ g i) (e : ss f a m = ss g a m) : ∀ i, a ≤ i → i < a + m → f i = g i := by
  intro i h1 h2
  have k := ss_ge (f := fun i => g i - f i) h1 h2 (fun j j1 j2 => by have := h j j1 j2; show 0 ≤ g j - f j; omega)
  rw [ss_sub g f] at k
  have k : g i - f i ≤ ss g a m - ss f a m := k
  have := h i h1 h2
  omega
theorem tight {pn c f b : Nat → Int} (hpn : pinR pn) (hf : Fld pn c f) (hb : isB pn b) (h : vaF pn f = enS c b) : ∀ e, e < 60 → (b (lo e) = 1 → b (hi e) = 0 → f e = c e) ∧ (b (lo e) = 0 → b (hi e) = 1 → f e = -(c e)) := by
  intro e he
  rw [cut_val hpn hf hb] at h
  have k := ss_tight (f := fun e => f e * (b (lo e) - b (hi e))) (g := fun e => if b (lo e) = b (hi e) then 0 else c e) (m := 60) (a := 0) (fun i _ hi0 => cut_le hf hb (by omega)) h e (Nat.zero_le _) (by omega)
  have k : f e * (b (lo e) - b (hi e)) = (if b (lo e) = b (hi e) then 0 else c e) := k
  constructor
  · intro q1 q2
    rw [q1, q2, if_neg (by decide)] at k
    omega
  · intro q1 q2
    rw [q1, q2, if_neg (by decide)] at k
    omega
/-- what is left of the edges leads out of a set nowhere -/
def Clz (c f : Nat → Int) (k : Int) (S : Nat → Prop) : Prop := ∀ e, e < 60 → (S (lo e) → 0 < (if k = 1 then c e - f e else c e + f e) → S (hi e)) ∧ (S (hi e) → 0 < (if k = 1 then c e + f e else c e - f e) → S (lo e))
def Rch (pn c f : Nat → Int) (k : Int) (S : Nat → Prop) : Prop := (∀ v, v < 36 → pn v = k → S v) ∧ Clz c f k S ∧ ∀ T : Nat → Prop, (∀ v, v < 36 → pn v = k → T v) → Clz c f k T → ∀ v, v < 36 → S v → T v
/-- a greatest flow: some film costs no more -/
def MxF (pn c f : Nat → Int) : Prop := Fld pn c f ∧ ∃ b, isB pn b ∧ vaF pn f = enS c b
theorem MxF.val {pn c f g : Nat → Int} (hpn : pinR pn) (h : MxF pn c f) (k : MxF pn c g) : vaF pn f = vaF pn g := by
  obtain ⟨h1, b, h2, h3⟩ := h
  obtain ⟨k1, d, k2, k3⟩ := k
  have a := weak hpn h1 k2
  have b := weak hpn k1 h2
  omega
/-- a film as dear as the flow: the flow fills all that leads out of it -/
theorem clz_of {pn c f b : Nat → Int} (hpn : pinR pn) (hf : Fld pn c f) (hb : isB pn b) (h : vaF pn f = enS c b) : Clz c f 1 (fun v => b v = 1) ∧ Clz c f 2 (fun v => b v = 0) := by
  have t := tight hpn hf hb h
  refine ⟨fun e he => ⟨fun s r => ?_, fun s r => ?_⟩, fun e he => ⟨fun s r => ?_, fun s r => ?_⟩⟩
  · rw [if_pos rfl] at r
    have h2 := (hb _ (hi_lt he)).1
    have t1 := (t e he).1 s
    rcases h2 with q | q
    · have := t1 q; omega
    · exact q
  · rw [if_pos rfl] at r
    have h2 := (hb _ (lo_lt he)).1
    rcases h2 with q | q
    · have := (t e he).2 q s; omega
    · exact q
  · rw [if_neg (by decide)] at r
    have h2 := (hb _ (hi_lt he)).1
    rcases h2 with q | q
    · exact q
    · have := (t e he).2 s q; omega
  · rw [if_neg (by decide)] at r
    have h2 := (hb _ (lo_lt he)).1
    rcases h2 with q | q
    · exact q
    · have := (t e he).1 q s; omega
/-- a set that what is left leads out of nowhere is as dear as the flow -/
theorem val_of {pn c f b : Nat → Int} (hpn : pinR pn) (hf : Fld pn c f) (hb : isB pn b) (h : Clz c f 1 (fun v => b v = 1) ∨ Clz c f 2 (fun v => b v = 0)) : vaF pn f = enS c b := by
  rw [cut_val hpn hf hb]
  refine ss_congr 60 0 (fun e _ he => ?_)
  have he : e < 60 := by omega
  have h1 := (hb _ (lo_lt he)).1
  have h2 := (hb _ (hi_lt he)).1
  have h3 := hf.1 e he
  rcases h1 with q1 | q1 <;> rcases h2 with q2 | q2
  · rw [q1, q2, if_pos rfl]; omega
  · have r : f e = -(c e) := by
      rcases h with z | z
      · have := (z e he).2 q2
        rw [if_pos rfl] at this
        have w : ¬ (0 < c e + f e) := fun y => by have := this y; omega
        omega
      · have := (z e he).1 q1
        rw [if_neg (by decide)] at this
        have w : ¬ (0 < c e + f e) := fun y => by have := this y; omega
        omega
    rw [q1, q2, if_neg (by decide), r]; omega
  · have r : f e = c e := by
      rcases h with z | z
      · have := (z e he).1 q1
        rw [if_pos rfl] at this
        have w : ¬ (0 < c e - f e) := fun y => by have := this y; omega
        omega
      · have := (z e he).2 q2
        rw [if_neg (by decide)] at this
        have w : ¬ (0 < c e - f e) := fun y => by have := this y; omega
        omega
    rw [q1, q2, if_neg (by decide), r]; omega
  · rw [q1, q2, if_pos rfl]; omega
/-- the nodes that a greatest flow's rest leads to from inside, or leads from to outside: a film as dear as the flow -/
theorem reach_film {pn c f : Nat → Int} (hpn : pinR pn) (h : MxF pn c f) {k : Int} (hk : k = 1 ∨ k = 2) {S : Nat → Prop} (hS : Rch pn c f k S) {b : Nat → Int} (hb : ∀ v, v < 36 → (b v = 0 ∨ b v = 1) ∧ (b v = (if k = 1 then 1 else 0) ↔ S v)) : isB pn b ∧ vaF pn f = enS c b := by
  obtain ⟨hf, d, d1, d2⟩ := h
  have cl := clz_of hpn hf d1 d2
  have key : isB pn b := by
    intro v hv
    have h1 := hb v hv
    have h2 := hpn v hv
    rcases hk with rfl | rfl
    · rw [if_pos rfl] at h1
      refine ⟨h1.1, fun q => h1.2.mpr (hS.1 v hv q), fun q => ?_⟩
      have : ¬ S v := fun s => by
        have := hS.2.2 _ (fun u hu z => (d1 u hu).2.1 z) cl.1 v hv s
        have := (d1 v hv).2.2 q
        omega
      have : b v ≠ 1 := fun z => this (h1.2.mp z)
      omega
    · rw [if_neg (by decide)] at h1
      refine ⟨h1.1, fun q => ?_, fun q => h1.2.mpr (hS.1 v hv q)⟩
      have : ¬ S v := fun s => by
        have := hS.2.2 _ (fun u hu z => (d1 u hu).2.2 z) cl.2 v hv s
        have := (d1 v hv).2.1 q
        omega
      have : b v ≠ 0 := fun z => this (h1.2.mp z)
      omega
  refine ⟨key, val_of hpn hf key ?_⟩
  rcases hk with rfl | rfl
  · left
    intro e he
    have a := (hb _ (lo_lt he)).2
    have b2 := (hb _ (hi_lt he)).2
    rw [if_pos rfl] at a b2
    have z := hS.2.1 e he
    exact ⟨fun s r => b2.mpr (z.1 (a.mp s) r), fun s r => a.mpr (z.2 (b2.mp s) r)⟩
  · right
    intro e he
    have a := (hb _ (lo_lt he)).2
    have b2 := (hb _ (hi_lt he)).2
    rw [if_neg (by decide)] at a b2
    have z := hS.2.1 e he
    exact ⟨fun s r => b2.mpr (z.1 (a.mp s) r), fun s r => a.mpr (z.2 (b2.mp s) r)⟩
theorem ind_ex (S : Nat → Prop) (x y : Int) : ∃ b : Nat → Int, ∀ v, (S v → b v = x) ∧ (¬ S v → b v = y) :=
  ⟨fun u => @ite _ (S u) (Classical.propDecidable _) x y, fun _ => ⟨fun h => if_pos h, fun h => if_neg h⟩⟩
/-- whichever greatest flow: the same nodes -/
theorem reach_in {pn c f g : Nat → Int} (hpn : pinR pn) (h : MxF pn c f) (h2 : MxF pn c g) {k : Int} (hk : k = 1 ∨ k = 2) {S T : Nat → Prop} (hS : Rch pn c f k S) (hT : Rch pn c g k T) : ∀ v, v < 36 → S v → T v := by
  obtain ⟨b, hb⟩ := ind_ex T (if k = 1 then 1 else 0) (if k = 1 then 0 else 1)
  have hb2 : ∀ v, v < 36 → (b v = 0 ∨ b v = 1) ∧ (b v = (if k = 1 then 1 else 0) ↔ T v) := by
    intro v _
    have z := hb v
    by_cases q : T v
    · have := z.1 q
      refine ⟨?_, fun _ => q, fun _ => this⟩
      rw [this]; split <;> omega
    · have := z.2 q
      refine ⟨?_, fun y => ?_, fun y => absurd y q⟩
      · rw [this]; split <;> omega
      · rw [this] at y
        rcases hk with rfl | rfl
        · rw [if_pos rfl, if_pos rfl] at y; omega
        · rw [if_neg (by decide), if_neg (by decide)] at y; omega
  obtain ⟨f1, f2⟩ := reach_film hpn h2 hk hT hb2
  have e : vaF pn f = enS c b := by rw [← f2]; exact h.val hpn h2
  have cl := clz_of hpn h.1 f1 e
  have cT : Clz c f k T := by
    intro e he
    have a := (hb2 _ (lo_lt he)).2
    have b3 := (hb2 _ (hi_lt he)).2
    rcases hk with rfl | rfl
    · rw [if_pos rfl] at a b3
      have z := cl.1 e he
      exact ⟨fun s r => b3.mp (z.1 (a.mpr s) r), fun s r => a.mp (z.2 (b3.mpr s) r)⟩
    · rw [if_neg (by decide)] at a b3
      have z := cl.2 e he
      exact ⟨fun s r => b3.mp (z.1 (a.mpr s) r), fun s r => a.mp (z.2 (b3.mpr s) r)⟩
  exact hS.2.2 T hT.1 cT
/-! a search's forest, and the push along it -/
def lft (c f : Nat → Int) (e v : Nat) : Int := c e + (if v = lo e then -(f e) else f e)
def Gro (pn c f : Nat → Int) (k : Int) (sn : Nat → Int) (ed : Nat → Nat) (rt : Nat → Prop) (F : Nat) : Prop :=
  (∀ v, v < 36 → sn v = 0 ∨ sn v = 1) ∧ ss sn 0 36 = (F : Int) ∧ (∀ v, v < 36 → pn v = k → sn v = 1) ∧ (∀ T : Nat → Prop, (∀ v, v < 36 → pn v = k → T v) → Clz c f k T → ∀ v, v < 36 → sn v = 1 → T v) ∧
  ∃ rk : Nat → Nat, ∀ v, v < 36 → sn v = 1 → rk v < F ∧ ((rt v ∧ pn v = k) ∨ (¬ rt v ∧ ed v < 60 ∧ (lo (ed v) = v ∨ hi (ed v) = v) ∧ sn (oth (ed v) v) = 1 ∧ rk (oth (ed v) v) < rk v ∧ 0 < (if k = 1 then lft c f (ed v) (oth (ed v) v) else lft c f (ed v) v)))
theorem Gro.le {pn c f : Nat → Int} {k : Int} {sn : Nat → Int} {ed : Nat → Nat} {rt : Nat → Prop} {F : Nat} (h : Gro pn c f k sn ed rt F) : F ≤ 36 := by
  have a := ss_ub (f := sn) (c := 1) 36 0 (fun i _ hi => by have := h.1 i (by omega); omega)
  have b := h.2.1
  omega
theorem Gro.lt {pn c f : Nat → Int} {k : Int} {sn : Nat → Int} {ed : Nat → Nat} {rt : Nat → Prop} {F : Nat} (h : Gro pn c f k sn ed rt F) {u : Nat} (hu : u < 36) (h0 : sn u = 0) : F < 36 := by
  have a := cnt_lt h.1 hu h0
  have b := h.2.1
  omega
theorem oth_of {e u : Nat} (he : e < 60) (h : lo e = u ∨ hi e = u) : (lo e = u ∧ oth e u = hi e) ∨ (hi e = u ∧ oth e u = lo e) := by
  have hne := lo_hi he
  rcases h with q | q
  · exact Or.inl ⟨q, by unfold oth; exact if_pos q.symm⟩
  · exact Or.inr ⟨q, by unfold oth; exact if_neg (by omega)⟩
theorem Gro.add {pn c f : Nat → Int} {k : Int} (hk : k = 1 ∨ k = 2) {sn sn' : Nat → Int} {ed ed' : Nat → Nat} {rt rt' : Nat → Prop} {F : Nat} (h : Gro pn c f k sn ed rt F) {u e : Nat} (hu : u < 36) (h0 : sn u = 0) (he : e < 60) (hi0 : lo e = u ∨ hi e = u) (hw : sn (oth e u) = 1) (hl : 0 < (if k = 1 then lft c f e (oth e u) else lft c f e u)) (s1 : ∀ v, v < 36 → sn' v = put sn u 1 v) (e1 : ed' u = e) (r1 : ¬ rt' u) (e2 : ∀ v, v < 36 → v ≠ u → ed' v = ed v) (r2 : ∀ v, v < 36 → v ≠ u → (rt' v ↔ rt v)) : Gro pn c f k sn' ed' rt' (F + 1) := by
  obtain ⟨a1, a2, a3, a4, rk, a5⟩ := h
  have hou := oth_lt (v := u) he
  have same : ∀ v, v < 36 → v ≠ u → sn' v = sn v := fun v hv q => by rw [s1 v hv, put_ne q]
  have atu : sn' u = 1 := by rw [s1 u hu, put_at]
  have hne : oth e u ≠ u := by
    have := lo_hi he
    rcases oth_of he hi0 with ⟨q1, q2⟩ | ⟨q1, q2⟩ <;> omega
  refine ⟨fun v hv => ?_, ?_, fun v hv q => ?_, fun T t1 t2 v hv q => ?_, fun v => if v = u then F else rk v, fun v hv q => ?_⟩
  · by_cases z : v = u
    · rw [z]; exact Or.inr atu
    · rw [same v hv z]; exact a1 v hv
  · rw [ss_congr (g := put sn u 1) 36 0 (fun v _ hv => s1 v (by omega)), put_sum _ _ hu, a2, h0]; omega
  · by_cases z : v = u
    · rw [z]; exact atu
    · rw [same v hv z]; exact a3 v hv q
  · by_cases z : v = u
    · rw [z]
      have tw := a4 T t1 t2 _ hou hw
      have c1 := t2 e he
      rcases oth_of he hi0 with ⟨q1, q2⟩ | ⟨q1, q2⟩
      · rw [q2] at tw hl
        rw [← q1]
        refine c1.2 tw ?_
        unfold lft at hl
        have hnl : ¬ hi e = lo e := by have := lo_hi he; omega
        rcases hk with rfl | rfl
        · rw [if_pos rfl, if_neg hnl] at hl
          rw [if_pos rfl]; exact hl
        · rw [if_neg (by decide), if_pos q1.symm] at hl
          rw [if_neg (by decide)]; omega
      · rw [q2] at tw hl
        rw [← q1]
        refine c1.1 tw ?_
        unfold lft at hl
        have hnl : ¬ u = lo e := by have := lo_hi he; omega
        rcases hk with rfl | rfl
        · rw [if_pos rfl, if_pos rfl] at hl
          rw [if_pos rfl]; omega
        · rw [if_neg (by decide), if_neg hnl] at hl
          rw [if_neg (by decide)]; exact hl
    · rw [same v hv z] at q
      exact a4 T t1 t2 v hv q
  · show (if v = u then F else rk v) < F + 1 ∧ _
    by_cases z : v = u
    · subst z
      rw [if_pos rfl]
      refine ⟨by omega, Or.inr ⟨r1, by rw [e1]; exact he, by rw [e1]; exact hi0, ?_, ?_, ?_⟩⟩
      · rw [e1, same _ hou hne]; exact hw
      · show (if oth (ed' v) v = v then F else rk (oth (ed' v) v)) < (if v = v then F else rk v)
        rw [e1, if_neg hne, if_pos rfl]
        exact (a5 _ hou hw).1
      · rw [e1]; exact hl
    · rw [same v hv z] at q
      obtain ⟨b1, b2⟩ := a5 v hv q
      rw [if_neg z]
      refine ⟨by omega, ?_⟩
      rcases b2 with ⟨c1, c2⟩ | ⟨c1, c2, c3, c4, c5, c6⟩
      · exact Or.inl ⟨(r2 v hv z).mpr c1, c2⟩
      · have hne2 : oth (ed v) v ≠ u := fun y => by rw [y, h0] at c4; omega
        refine Or.inr ⟨fun y => c1 ((r2 v hv z).mp y), by rw [e2 v hv z]; exact c2, by rw [e2 v hv z]; exact c3, ?_, ?_, by rw [e2 v hv z]; exact c6⟩
        · rw [e2 v hv z, same _ (oth_lt c2) hne2]; exact c4
        · show (if oth (ed' v) v = u then F else rk (oth (ed' v) v)) < (if v = u then F else rk v)
          rw [e2 v hv z, if_neg hne2, if_neg z]; exact c5
theorem Gro.rch {pn c f : Nat → Int} {k : Int} {sn : Nat → Int} {ed : Nat → Nat} {rt : Nat → Prop} {F : Nat} (h : Gro pn c f k sn ed rt F) (hc : Clz c f k (fun v => sn v = 1)) : Rch pn c f k (fun v => sn v = 1) := ⟨h.2.2.1, hc, h.2.2.2.1⟩
/-- the start of a push: a way back to a pin inside, each step with something left -/
def itN (ed : Nat → Nat) : Nat → Nat → Nat
  | 0, v => v
  | n + 1, v => oth (ed (itN ed n v)) (itN ed n v)
def PuI (c f0 : Nat → Int) (sn : Nat → Int) (ed : Nat → Nat) (rt : Nat → Prop) (rk : Nat → Nat) (a : Int) (en cur : Nat) (f : Nat → Int) : Prop :=
  (∀ e, e < 60 → -(c e) ≤ f e ∧ f e ≤ c e) ∧ (∀ v, v < 36 → outF f v = outF f0 v + (if v = cur then a else 0) - (if v = en then a else 0)) ∧ (∀ w, w < 36 → sn w = 1 → rk w ≤ rk cur → ¬ rt w → f (ed w) = f0 (ed w)) ∧ cur < 36 ∧ sn cur = 1
def RkI (c f0 pn sn : Nat → Int) (ed : Nat → Nat) (rt : Nat → Prop) (rk : Nat → Nat) (F : Nat) : Prop := ∀ v, v < 36 → sn v = 1 → rk v < F ∧ ((rt v ∧ pn v = 1) ∨ (¬ rt v ∧ ed v < 60 ∧ (lo (ed v) = v ∨ hi (ed v) = v) ∧ sn (oth (ed v) v) = 1 ∧ rk (oth (ed v) v) < rk v ∧ 0 < lft c f0 (ed v) (oth (ed v) v)))
theorem Gro.rkI {pn c f sn : Nat → Int} {ed : Nat → Nat} {rt : Nat → Prop} {F : Nat} (h : Gro pn c f 1 sn ed rt F) : ∃ rk, RkI c f pn sn ed rt rk F := by
  obtain ⟨a1, a2, a3, a4, rk, a5⟩ := h
  refine ⟨rk, fun v hv q => ?_⟩
  have := a5 v hv q
  rw [if_pos rfl] at this
  exact this
theorem PuI.start {c f0 sn : Nat → Int} {ed : Nat → Nat} {rt : Nat → Prop} {rk : Nat → Nat} {a : Int} {en : Nat} (hf : ∀ e, e < 60 → -(c e) ≤ f0 e ∧ f0 e ≤ c e) (h1 : en < 36) (h2 : sn en = 1) : PuI c f0 sn ed rt rk a en en f0 :=
  ⟨hf, fun v _ => by omega, fun _ _ _ _ _ => rfl, h1, h2⟩
theorem PuI.step {c f0 pn sn f f2 : Nat → Int} {ed : Nat → Nat} {rt : Nat → Prop} {rk : Nat → Nat} {F : Nat} {a : Int} {en cur : Nat} (hR : RkI c f0 pn sn ed rt rk F) (ha : 0 ≤ a) (h : PuI c f0 sn ed rt rk a en cur f) (hr : ¬ rt cur) (hl : a ≤ lft c f0 (ed cur) (oth (ed cur) cur)) (h2 : ∀ e, e < 60 → f2 e = put f (ed cur) (f (ed cur) + (if oth (ed cur) cur = lo (ed cur) then a else -a)) e) : PuI c f0 sn ed rt rk a en (oth (ed cur) cur) f2 := by
  obtain ⟨p1, p2, p3, p4, p5⟩ := h
  obtain ⟨q0, q1⟩ := hR cur p4 p5
  obtain ⟨_, r1, r2, r3, r4, r5⟩ := q1.resolve_left (fun z => hr z.1)
  have fe : f (ed cur) = f0 (ed cur) := p3 cur p4 p5 (Nat.le_refl _) hr
  have hne := lo_hi r1
  have b0 := p1 _ r1
  have outS : ∀ v, outF f2 v = outF (put f (ed cur) (f (ed cur) + (if oth (ed cur) cur = lo (ed cur) then a else -a))) v := fun v => by
    unfold outF
    exact ss_congr 60 0 (fun e _ he => by rw [h2 e (by omega)])
  refine ⟨fun e he => ?_, fun v hv => ?_, fun w hw w1 w2 w3 => ?_, oth_lt r1, r3⟩
  · rw [h2 e he]
    by_cases z : e = ed cur
    · rw [z, put_at]
      unfold lft at hl
      by_cases y : oth (ed cur) cur = lo (ed cur)
      · rw [if_pos y] at hl ⊢
        omega
      · rw [if_neg y] at hl ⊢
        omega
    · rw [put_ne z]; exact p1 e he
  · rw [outS, out_put f r1, p2 v hv]
    rcases oth_of r1 r2 with ⟨y1, y2⟩ | ⟨y1, y2⟩
    · rw [y2, if_neg (show ¬ hi (ed cur) = lo (ed cur) by omega)]
      by_cases z : v = cur
      · rw [if_pos z, if_pos (show lo (ed cur) = v by omega), if_neg (show ¬ v = hi (ed cur) by omega)]; omega
      · rw [if_neg z, if_neg (show ¬ lo (ed cur) = v by omega)]
        by_cases z2 : v = hi (ed cur)
        · rw [if_pos z2, if_pos z2.symm]; omega
        · rw [if_neg z2, if_neg (show ¬ hi (ed cur) = v from fun x => z2 x.symm)]; omega
    · rw [y2, if_pos rfl]
      by_cases z : v = cur
      · rw [if_pos z, if_neg (show ¬ lo (ed cur) = v by omega), if_pos (show hi (ed cur) = v by omega), if_neg (show ¬ v = lo (ed cur) by omega)]; omega
      · rw [if_neg z]
        by_cases z2 : v = lo (ed cur)
        · rw [if_pos z2, if_pos z2.symm]; omega
        · rw [if_neg z2, if_neg (show ¬ lo (ed cur) = v from fun x => z2 x.symm), if_neg (show ¬ hi (ed cur) = v by omega)]; omega
  · obtain ⟨_, v1⟩ := hR w hw w1
    obtain ⟨_, v2, v3, v4, v5, v6⟩ := v1.resolve_left (fun z => w3 z.1)
    rw [h2 _ v2]
    have hdiff : ed w ≠ ed cur := by
      intro y
      rw [y] at v3 v5
      have hwc : w ≠ cur := fun x => by rw [x] at w2; omega
      rcases oth_of r1 r2 with ⟨y1, y2⟩ | ⟨y1, y2⟩
      · rcases oth_of r1 v3 with ⟨z1, z2⟩ | ⟨z1, z2⟩
        · omega
        · rw [z2, y1] at v5; rw [y2, z1] at r4; omega
      · rcases oth_of r1 v3 with ⟨z1, z2⟩ | ⟨z1, z2⟩
        · rw [z2, y1] at v5; rw [y2, z1] at r4; omega
        · omega
    rw [put_ne hdiff]
    exact p3 w hw w1 (by omega) w3
theorem PuI.done {pn c f0 sn f : Nat → Int} {ed : Nat → Nat} {rt : Nat → Prop} {rk : Nat → Nat} {a : Int} {en cur : Nat} (h : PuI c f0 sn ed rt rk a en cur f) (hf : Fld pn c f0) (hen : en < 36) (h2 : pn en = 2) (h1 : pn cur = 1) : Fld pn c f ∧ vaF pn f = vaF pn f0 + a := by
  obtain ⟨p1, p2, p3, p4, p5⟩ := h
  refine ⟨⟨p1, fun v hv q => ?_⟩, ?_⟩
  · have n1 : v ≠ cur := fun z => by rw [z] at q; omega
    have n2 : v ≠ en := fun z => by rw [z] at q; omega
    rw [p2 v hv, if_neg n1, if_neg n2, hf.2 v hv q]
    rfl
  · have e1 : ∀ v, v < 36 → (if pn v = 1 then (1 : Int) else 0) * outF f v = (if pn v = 1 then (1 : Int) else 0) * outF f0 v + (if v = cur then a else 0) := by
      intro v hv
      rw [p2 v hv]
      by_cases q : pn v = 1
      · have n2 : v ≠ en := fun z => by rw [z] at q; omega
        rw [if_pos q, if_neg n2]; omega
      · have n1 : v ≠ cur := fun z => by rw [z] at q; omega
        rw [if_neg q, if_neg n1]; omega
    unfold vaF
    rw [ss_congr (g := fun v => (if pn v = 1 then (1 : Int) else 0) * outF f0 v + (if v = cur then a else 0)) 36 0 (fun v _ hv => e1 v (by omega)), ss_add (fun v => (if pn v = 1 then (1 : Int) else 0) * outF f0 v) (fun v => if v = cur then a else 0), ss_one _ (Nat.zero_le _) (by omega)]
