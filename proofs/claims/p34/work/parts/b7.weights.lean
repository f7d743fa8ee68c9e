/-! ===== the law's weights ===== -/
/-- a call that changes something -/
def OPF (o : Nat × Int32 × Int32 × Int32) (s : ST) : Option (Int32 × ST) :=
  if o.1 = 0 then F_X5_setWeight s o.2.1 o.2.2.1 else if o.1 = 1 then F_X5_undo s else if o.1 = 2 then F_X5_clearObservations s else F_X5_observe s o.2.1 o.2.2.1 o.2.2.2
/-- a run of such calls, with questions in between -/
def TRC : List (Nat × Int32 × Int32 × Int32) → ST → ST → Prop
  | [], s, s' => Eq15 s s'
  | o :: L, s, s' => ∃ (s1 s2 : ST) (r : Int32), Eq15 s s1 ∧ OPF o s1 = some (r, s2) ∧ TRC L s2 s'
theorem TRC_E {L : List (Nat × Int32 × Int32 × Int32)} {s t s' : ST} (k : Eq15 s t) (h : TRC L t s') : TRC L s s' := by
  cases L with
  | nil => exact E_tr k h
  | cons o L =>
    obtain ⟨s1, s2, r, k1, e, h⟩ := h
    exact ⟨s1, s2, r, E_tr k k1, e, h⟩
theorem TRC_app {L M : List (Nat × Int32 × Int32 × Int32)} : ∀ {s t u : ST}, TRC L s t → TRC M t u → TRC (L ++ M) s u := by
  induction L with
  | nil => intro s t u h g; exact TRC_E h g
  | cons o L ih =>
    intro s t u h g
    obtain ⟨s1, s2, r, k1, e, h⟩ := h
    exact ⟨s1, s2, r, k1, e, ih h g⟩
theorem J_det {A B : Option (Int32 × ST)} (h : ∃ (r : Int32) (s' t' : ST), A = some (r, s') ∧ B = some (r, t') ∧ J s' t') {r1 r2 : Int32} {s t : ST} (e1 : A = some (r1, s)) (e2 : B = some (r2, t)) : J s t := by
  obtain ⟨r, s', t', f1, f2, hj⟩ := h
  rw [e1] at f1
  rw [e2] at f2
  cases f1
  cases f2
  exact hj
theorem J_OPF {o : Nat × Int32 × Int32 × Int32} {s t s' t' : ST} {r r' : Int32} (h : J s t) (e1 : OPF o s = some (r, s')) (e2 : OPF o t = some (r', t')) : J s' t' := by
  unfold OPF at e1 e2
  by_cases h0 : o.1 = 0
  · rw [if_pos h0] at e1 e2
    exact J_det (j_setWeight h _ _) e1 e2
  · rw [if_neg h0] at e1 e2
    by_cases h1 : o.1 = 1
    · rw [if_pos h1] at e1 e2
      exact J_det (j_undo h) e1 e2
    · rw [if_neg h1] at e1 e2
      by_cases h2 : o.1 = 2
      · rw [if_pos h2] at e1 e2
        exact J_det (j_clearObservations h) e1 e2
      · rw [if_neg h2] at e1 e2
        exact J_det (j_observe h _ _ _) e1 e2
theorem J_TRC {L : List (Nat × Int32 × Int32 × Int32)} : ∀ {s t s' t' : ST}, J s t → TRC L s s' → TRC L t t' → J s' t' := by
  induction L with
  | nil => intro s t s' t' h h1 h2; exact J_EE h h1 h2
  | cons o L ih =>
    intro s t s' t' h h1 h2
    obtain ⟨s1, s2, r, k1, e1, g1⟩ := h1
    obtain ⟨t1, t2, r', k2, e2, g2⟩ := h2
    exact ih (J_OPF (J_EE h k1 k2) e1 e2) g1 g2
theorem J_TT {c : Nat} {a b v : Int} {s t s' t' : ST} (h : J s t) (h1 : TT c a b v s s') (h2 : TT c a b v t t') : J s' t' := by
  obtain ⟨s1, s2, s3, s4, s5, s6, r1, r2, r3, r4, k1, e2, k3, e4, e5, e6, k7⟩ := h1
  obtain ⟨t1, t2, t3, t4, t5, t6, q1, q2, q3, q4, l1, f2, l3, f4, f5, f6, l7⟩ := h2
  have g2 := J_det (j_add (J_EE h k1 l1) _ _ _) e2 f2
  have g4 := J_det (j_remove (J_EE g2 k3 l3) _) e4 f4
  have g5 := J_det (j_undo g4) e5 f5
  have g6 := J_det (j_undo g5) e6 f6
  exact J_EE g6 k7 l7
section WEI
variable {c : Nat} {X Y W : Nat → Int}
abbrev tSet (i : Nat) (v : Int) : Nat × Int32 × Int32 × Int32 := (0, iI (i : Nat), iI v, 0)
abbrev tUndo : Nat × Int32 × Int32 × Int32 := (1, 0, 0, 0)
abbrev tClr : Nat × Int32 × Int32 × Int32 := (2, 0, 0, 0)
abbrev tObs (p q o : Nat) : Nat × Int32 × Int32 × Int32 := (3, iI (p : Nat), iI (q : Nat), iI (o : Nat))
theorem l_w456 {s : ST} (h : GS s c X Y W) : f_L_weights_456 s (hsh c X Y W c) 1 = some (1, s) := by
  unfold f_L_weights_456
  rw [if_neg (by decide), l_state h, bnd2_some, if_pos (cmp_self _)]
theorem l_w403 {s : ST} (h : GS s c X Y W) {i p q o : Nat} (hi : i < c) (hp : p ≤ 20) (hq : q ≤ 20) (ho : ownr X Y W c (p : Nat) (q : Nat) = some o) (g : GO s 1 (fun _ => p) (fun _ => q) (fun _ => o)) : ∃ s', f_L_weights_403 s (hsh c X Y W c) (iI (i : Nat)) 1 = some (1, s') ∧ TRC [tClr] s s' := by
  obtain ⟨lo, hh, ⟨l1, l2⟩, ⟨h1, h2⟩, l3, l4, e0, e1, e2⟩ := q_pw h g hi
  have wb := (h.1.2 i).2.2
  have a1 : lo ≤ W i := (l3 (W i)).mpr ⟨wb.1, fun j _ _ hj => by
    have : ownr X Y (setW W i (W i)) c (p : Nat) (q : Nat) = some i := by
      rw [setW_self, ho, hj]
    exact (own_wto hi wb.1).mp this⟩
  have a2 : W i ≤ hh := (l4 (W i) wb.1).mpr ⟨wb.2, fun j _ _ hj => by
    have : ownr X Y (setW W i (W i)) c (p : Nat) (q : Nat) = some o := by
      rw [setW_self, ho]
    exact (own_other hi hj wb.1).mp this⟩
  obtain ⟨s1, e3, g1, k1⟩ := e_clr g
  rw [if_pos (show lo ≤ hh by omega)] at e1 e2
  have hG1 := k1 c X Y W h
  unfold f_L_weights_403
  rw [q_site2 h hi, bnd2_some, if_neg (by decide), e1, bnd2_some, if_neg (by rw [iI_lt] <;> omega), e2, bnd2_some, if_neg (by rw [iI_lt] <;> omega), e3, bnd2_some, if_pos (show iI ((1 : Nat) : Int) = 1 from rfl)]
  exact ⟨s1, l_w456 hG1, s, s1, _, E_rf s, e3, E_rf s1⟩
theorem l_w353 {s : ST} (h : GS s c X Y W) {i p q o x : Nat} {ox oy oo : Nat → Nat} (hi : i < c) (hx : x < 2147483648) (hp : p = x % 21) (hq : q = x / 21 % 21) (ho : ownr X Y W c (p : Nat) (q : Nat) = some o) (g : GO s 0 ox oy oo) : ∃ s', f_L_weights_353 s (iI (x : Nat)) (hsh c X Y W c) (iI (i : Nat)) 1 = some (1, s') ∧ TRC [tObs p q o, tClr] s s' := by
  have hc := h.1.1
  have hl1 : x / 21 ≤ x := Nat.div_le_self _ _
  have oc := own_bd ho
  unfold f_L_weights_353
  rw [show (21 : Int32) = iI (21 : Nat) from rfl, iI_rN hx (by omega), iI_dN hx (by omega), iI_rN (by omega) (by omega), ← hp, ← hq, q_owner h (by omega) (by omega) (by omega) (by omega), bnd2_some, if_neg (by decide), ho]
  obtain ⟨s1, e1, g1, k1⟩ := e_obs g (show p ≤ 20 by omega) (show q ≤ 20 by omega) (show o ≤ 9 by omega)
  have e1' : F_X5_observe s (iI (p : Nat)) (iI (q : Nat)) (iI (oI (some o) (-9))) = some (1, s1) := e1
  rw [e1', bnd2_some, if_pos rfl]
  obtain ⟨s2, e2, t2⟩ := l_w403 (k1 c X Y W h) hi (by omega) (by omega) ho g1
  exact ⟨s2, e2, s, s1, _, E_rf s, e1, t2⟩
theorem l_w317 {s : ST} (h : GS s c X Y W) {i p q o x m : Nat} {ox oy oo : Nat → Nat} (hi : i < c) (hx : x < 2147483648) (hp : p = x % 21) (hq : q = x / 21 % 21) (ho : ownr X Y W c (p : Nat) (q : Nat) = some o) (g : GO s m ox oy oo) : ∃ s', f_L_weights_317 s (iI (x : Nat)) (hsh c X Y W c) (iI (i : Nat)) 1 = some (1, s') ∧ TRC [tClr, tObs p q o, tClr] s s' := by
  have hm := g.1.1
  obtain ⟨s1, e1, g1, k1⟩ := e_clr g
  have h1 := k1 c X Y W h
  obtain ⟨lo, hh, ⟨l1, l2⟩, ⟨b1, b2⟩, l3, l4, e0, -, -⟩ := q_pw h1 g1 hi
  have z1 : lo ≤ 0 := (l3 0).mpr ⟨by omega, fun j _ hj => absurd hj (by omega)⟩
  have z2 : 400 ≤ hh := (l4 400 (by omega)).mpr ⟨by omega, fun j _ hj => absurd hj (by omega)⟩
  obtain ⟨s2, e2, t2⟩ := l_w353 h1 hi hx hp hq ho g1
  unfold f_L_weights_317
  rw [e1, bnd2_some, if_neg (by decide), if_neg (show ¬ iI (m : Nat) < 0 by rw [q_0, iI_lt] <;> omega), e0, bnd2_some, if_pos (show iI (max (hh - lo + 1) 0) = 401 by rw [show max (hh - lo + 1) 0 = 401 by omega]; rfl)]
  exact ⟨s2, e2, s, s1, _, E_rf s, e1, t2⟩
theorem l_w213 {s : ST} (h : GS s c X Y W) {i p q o x m : Nat} {ox oy oo : Nat → Nat} (hi : i < c) (hx : x < 2147483648) (hp : p = x % 21) (hq : q = x / 21 % 21) (ho : ownr X Y W c (p : Nat) (q : Nat) = some o) (g : GO s m ox oy oo) : ∃ s', f_L_weights_213 s (iI (x : Nat)) (hsh c X Y W c) (iI (i : Nat)) 1 = some (1, s') ∧ TRC [tClr, tObs p q o, tClr] s s' := by
  obtain ⟨lo, hh, ⟨l1, l2⟩, ⟨b1, b2⟩, l3, l4, e0, e1, e2⟩ := q_pw h g hi
  have fin := l_w317 h hi hx hp hq ho g
  have q400 : (400 : Int32) = iI 400 := rfl
  have q401 : (401 : Int32) = iI 401 := rfl
  unfold f_L_weights_213
  rw [e0, bnd2_some, e1, bnd2_some, e2, bnd2_some, if_neg (by decide), if_neg (show ¬ iI (max (hh - lo + 1) 0) < 0 by rw [q_0, iI_lt] <;> omega), if_neg (show ¬ (401 : Int32) < iI (max (hh - lo + 1) 0) by rw [q401, iI_lt] <;> omega)]
  by_cases hl : lo ≤ hh
  · rw [if_neg (show ¬ iI (max (hh - lo + 1) 0) = 0 by rw [q_0, iI_eq] <;> omega), if_pos hl, if_pos hl, if_neg (show ¬ iI lo < 0 by rw [q_0, iI_lt] <;> omega), if_neg (show ¬ iI hh < iI lo by rw [iI_lt] <;> omega), if_neg (show ¬ (400 : Int32) < iI hh by rw [q400, iI_lt] <;> omega), if_neg (show ¬ (iI hh - iI lo) + (1 : Int32) < iI (max (hh - lo + 1) 0) by rw [q_1, iI_sub, iI_add, iI_lt] <;> omega)]
    exact fin
  · rw [if_pos (show iI (max (hh - lo + 1) 0) = 0 by rw [show max (hh - lo + 1) 0 = 0 by omega]; rfl), if_neg hl, if_neg hl, if_pos (show iI (-9) = -9 from rfl), if_pos (show iI (-9) = -9 from rfl)]
    exact fin
theorem SV_b (i : Nat) (v : Int) : SV X Y W c i v ≤ 441 := by
  have := SZ_le (X := X) (Y := Y) (W := setW W i v) (c := c) (k := i) (n := 21)
  unfold SV
  omega
/-- a weight tried out, and undone -/
theorem w_try {s : ST} (h : GS s c X Y W) (hw : NW s) {i : Nat} (hi : i < c) {v : Int} (v1 : 0 ≤ v) (v2 : v ≤ 400) : ∃ s1 : ST, F_X5_setWeight s (iI (i : Nat)) (iI v) = some (iI (W i), s1) ∧ GS s1 c X Y (setW W i v) ∧ ∀ s2, Eq15 s1 s2 → ∃ (r : Nat) (s3 : ST), F_X5_undo s2 = some (iI (r : Nat), s3) ∧ r ≤ 14 ∧ GS s3 c X Y W ∧ NW s3 ∧ TRC [tSet i v, tUndo] s s3 ∧ ∀ (m : Nat) (ox oy oo : Nat → Nat), GO s m ox oy oo → GO s3 m ox oy oo := by
  obtain ⟨s1, e1, h1, t1, o1, g1⟩ := e_set h hw hi v1 v2
  refine ⟨s1, e1, h1, fun s2 k => ?_⟩
  obtain ⟨r, s3, e3, b3, h3, o3, g3, w3⟩ := e_undo (TOP_E k t1)
  exact ⟨r, s3, e3, b3, h3, w3, ⟨s, s1, _, E_rf s, e1, s2, s3, _, k, e3, E_rf s3⟩, fun m ox oy oo g => g3 m ox oy oo (GO_E k (g1 m ox oy oo g))⟩
theorem l_w163 {s : ST} (h : GS s c X Y W) (hw : NW s) {i p q o x m v : Nat} {z : Int} {ox oy oo : Nat → Nat} (hi : i < c) (hx : x < 2147483648) (hp : p = x % 21) (hq : q = x / 21 % 21) (ho : ownr X Y W c (p : Nat) (q : Nat) = some o) (g : GO s m ox oy oo) (z1 : 0 ≤ z) (z2 : z ≤ 441) (hv : LW X Y W c i z v) (hv4 : v < 401) : ∃ s', f_L_weights_163 s (iI (x : Nat)) (hsh c X Y W c) (iI (i : Nat)) (iI z) (iI (v : Nat)) 1 = some (1, s') ∧ TRC ((if v = 0 then [] else [tSet i ((v - 1 : Nat) : Int), tUndo]) ++ [tClr, tObs p q o, tClr]) s s' := by
  unfold f_L_weights_163
  rw [if_neg (by decide)]
  by_cases v0 : v = 0
  · rw [if_pos (show iI (v : Nat) = 0 by rw [v0]; rfl), if_pos v0]
    exact l_w213 h hi hx hp hq ho g
  · have ev : iI (v : Nat) - (1 : Int32) = iI ((v - 1 : Nat) : Int) := by
      rw [q_1, iI_sub]
      congr 1
      omega
    obtain ⟨s1, e1, h1, ht⟩ := w_try h hw hi (v := ((v - 1 : Nat) : Int)) (by omega) (by omega)
    obtain ⟨r, s3, e3, b3, h3, w3, t3, g3⟩ := ht s1 (E_rf s1)
    obtain ⟨s4, e4, t4⟩ := l_w213 h3 hi hx hp hq ho (g3 m ox oy oo g)
    have wb := (h.1.2 i).2.2
    have sm := hv.2.1 (v - 1) (by omega)
    have sv : SZ X Y (setW W i ((v - 1 : Nat) : Int)) c i 21 = SV X Y W c i ((v - 1 : Nat) : Int) := rfl
    have sb := SV_b (c := c) (X := X) (Y := Y) (W := W) i ((v - 1 : Nat) : Int)
    rw [if_neg (show ¬ iI (v : Nat) = 0 by rw [q_0, iI_eq] <;> omega), if_neg v0, ev, e1, bnd2_some, if_neg (show ¬ iI (W i) < 0 by rw [q_0, iI_lt] <;> omega), q_size h1 hi, bnd2_some, sv, if_neg (show ¬ iI z ≤ iI ((SV X Y W c i ((v - 1 : Nat) : Int) : Nat) : Int) by rw [iI_le] <;> omega), e3, bnd2_some, if_neg (show ¬ iI (r : Nat) < 0 by rw [q_0, iI_lt] <;> omega)]
    exact ⟨s4, e4, TRC_app t3 t4⟩
/-- the calls that the law's weights make, for the weight v that is answered -/
def wtL (i p q o v : Nat) : List (Nat × Int32 × Int32 × Int32) :=
  (if v < 401 then [tSet i ((v : Nat) : Int), tUndo] ++ (if v = 0 then [] else [tSet i ((v - 1 : Nat) : Int), tUndo]) else [tSet i 400, tUndo]) ++ [tClr, tObs p q o, tClr]
theorem l_weights {s : ST} (h : GS s c X Y W) (hw : NW s) {m : Nat} {ox oy oo : Nat → Nat} (g : GO s m ox oy oo) {x : Nat} (hx : x < 2147483648) (hc0 : 0 < c) : ∃ (o v : Nat) (s' : ST), ownr X Y W c (x % 21 : Nat) (x / 21 % 21 : Nat) = some o ∧ LW X Y W c (x % c) ((x / 10 % 442 : Nat) : Int) v ∧ f_L_weights_0 s (iI (x : Nat)) = some (1, s') ∧ TRC (wtL (x % c) (x % 21) (x / 21 % 21) o v) s s' := by
  have hc := h.1.1
  have hl1 : x / 10 ≤ x := Nat.div_le_self _ _
  obtain ⟨o, oc, ho⟩ := ownr_some (X := X) (Y := Y) (W := W) hc0 ((x % 21 : Nat) : Int) ((x / 21 % 21 : Nat) : Int)
  have hi : x % c < c := Nat.mod_lt _ hc0
  obtain ⟨i, ei⟩ : ∃ i, i = x % c := ⟨_, rfl⟩
  obtain ⟨z, ez⟩ : ∃ z, z = x / 10 % 442 := ⟨_, rfl⟩
  rw [← ei] at hi
  have hz : z ≤ 441 := by omega
  obtain ⟨v, s1, k1, hv, e1⟩ := q_wfs h hi (z := (z : Nat)) (by omega) (by omega)
  have h1 := GS_E k1 h
  have w1 := NW_E k1 hw
  have g1 := GO_E k1 g
  have wb := (h.1.2 i).2.2
  unfold f_L_weights_0
  rw [q_siteCount h, bnd2_some, if_neg (show ¬ iI (c : Nat) = 0 by rw [q_0, iI_eq] <;> omega), l_state h, bnd2_some, gNz_ne (show ¬ iI (c : Nat) = 0 by rw [q_0, iI_eq] <;> omega), show (10 : Int32) = iI (10 : Nat) from rfl, show (442 : Int32) = iI (442 : Nat) from rfl, iI_rN hx (by omega), iI_dN hx (by omega), iI_rN (by omega) (by omega), nm_eq, nm_eq, ← ei, ← ez, e1, bnd2_some]
  by_cases h4 : v < 401
  · obtain ⟨s2, e2, h2, ht⟩ := w_try h1 w1 hi (v := ((v : Nat) : Int)) (by omega) (by omega)
    obtain ⟨s3, k3, e3⟩ := q_run6 h2 hi (z := z) (by omega)
    obtain ⟨r, s4, e4, b4, h4', w4, t4, g4⟩ := ht s3 k3
    obtain ⟨s5, e5, t5⟩ := l_w163 h4' w4 hi hx rfl rfl ho (g4 m ox oy oo g1) (z := (z : Nat)) (by omega) (by omega) hv h4
    have sv : SZ X Y (setW W i ((v : Nat) : Int)) c i 21 = SV X Y W c i ((v : Nat) : Int) := rfl
    have sb := SV_b (c := c) (X := X) (Y := Y) (W := W) i ((v : Nat) : Int)
    have sg := hv.2.2 h4
    have arg : ((60000 : Int64) + ((1000 : Int32) * iI (i : Nat)).toInt64) + (iI (z : Nat)).toInt64 = lI ((60000 + 1000 * i + z : Nat) : Int) := by
      rw [show (1000 : Int32) = iI 1000 from rfl, iI_mul, iI_l (by omega) (by omega), iI_l (by omega) (by omega), show (60000 : Int64) = lI 60000 from rfl, lI_add, lI_add]
      congr 1
    rw [if_pos h4, if_neg (show ¬ iI (v : Nat) = -9 by rw [show (-9 : Int32) = iI (-9) from rfl, iI_eq] <;> omega), if_neg (show ¬ iI (v : Nat) < 0 by rw [q_0, iI_lt] <;> omega), if_neg (show ¬ (400 : Int32) < iI (v : Nat) by rw [show (400 : Int32) = iI 400 from rfl, iI_lt] <;> omega), e2, bnd2_some, if_neg (show ¬ iI (W i) < 0 by rw [q_0, iI_lt] <;> omega), q_size h2 hi, bnd2_some, sv, if_neg (show ¬ iI ((SV X Y W c i ((v : Nat) : Int) : Nat) : Int) < iI (z : Nat) by rw [iI_lt] <;> omega), arg, e3, bnd2_some, sv, if_neg (show ¬ SV X Y W c i ((v : Nat) : Int) < z by omega), if_neg (show ¬ (1 : Int32) = 0 by decide), if_pos rfl, e4, bnd2_some, if_neg (show ¬ iI (r : Nat) < 0 by rw [q_0, iI_lt] <;> omega)]
    refine ⟨o, v, s5, ho, hv, e5, ?_⟩
    unfold wtL
    rw [if_pos h4, List.append_assoc]
    exact TRC_E k1 (TRC_app t4 t5)
  · obtain ⟨s2, e2, h2, ht⟩ := w_try h1 w1 hi (v := 400) (by omega) (by omega)
    obtain ⟨r, s4, e4, b4, h4', w4, t4, g4⟩ := ht s2 (E_rf s2)
    obtain ⟨s5, e5, t5⟩ := l_w213 h4' hi hx rfl rfl ho (g4 m ox oy oo g1)
    have sv : SZ X Y (setW W i 400) c i 21 = SV X Y W c i 400 := rfl
    have sb := SV_b (c := c) (X := X) (Y := Y) (W := W) i 400
    have vl := hv.1
    have sm : ((SV X Y W c i 400 : Nat) : Int) < (z : Nat) := hv.2.1 400 (by omega)
    have e2' : F_X5_setWeight s1 (iI (i : Nat)) 400 = _ := e2
    rw [if_neg h4, if_pos rfl, e2', bnd2_some, if_neg (show ¬ iI (W i) < 0 by rw [q_0, iI_lt] <;> omega), q_size h2 hi, bnd2_some, sv, if_neg (show ¬ iI (z : Nat) ≤ iI ((SV X Y W c i 400 : Nat) : Int) by rw [iI_le] <;> omega), e4, bnd2_some, if_neg (show ¬ iI (r : Nat) < 0 by rw [q_0, iI_lt] <;> omega)]
    refine ⟨o, v, s5, ho, hv, e5, ?_⟩
    unfold wtL
    rw [if_neg h4]
    exact TRC_E k1 (TRC_app t4 t5)
end WEI
