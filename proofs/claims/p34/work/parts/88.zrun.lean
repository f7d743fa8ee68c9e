/-! ===== scripts: the run ===== -/
theorem U_b {j : Nat} (h : j ≤ 3) : 0 < 100000 ^ j ∧ 100000 ^ j ≤ 1000000000000000 := by
  rcases (show j = 0 ∨ j = 1 ∨ j = 2 ∨ j = 3 by omega) with q | q | q | q <;> subst q <;> omega
theorem lI_dN {a b : Nat} (ha : a < 9223372036854775808) (hb : b < 9223372036854775808) : lI (a : Int) / lI (b : Int) = lI ((a / b : Nat) : Int) := by
  rw [lI_div (by omega) (by omega) (by omega) (by omega)]
  rfl
theorem lI_rN {a b : Nat} (ha : a < 9223372036854775808) (hb : b < 9223372036854775808) : lI (a : Int) - lI (a : Int) / lI (b : Int) * lI (b : Int) = lI ((a % b : Nat) : Int) := by
  rw [lI_rem (by omega) (by omega) (by omega) (by omega)]
  rfl
theorem z_ga5 {k : Nat} (hk : k ≤ 3) :
    ∀ (e m f s : Nat), m + e = k → e < f → s < 9223372036854775808 → f_X5_groupsAbove_5 f (iI k) (lI s) (iI m) = some (lI (s / 100000 ^ e : Nat)) := by
  intro e
  induction e with
  | zero =>
    intro m f s hm hf hs
    obtain ⟨f, rfl⟩ : ∃ k, f = k + 1 := ⟨f - 1, by omega⟩
    have key : f_X5_groupsAbove_5 (f + 1) (iI k) (lI s) (iI m) = g_X5_groupsAbove_5 (f_X5_groupsAbove_5 f) (iI k) (lI s) (iI m) := rfl
    rw [key]
    unfold g_X5_groupsAbove_5
    rw [if_pos (by rw [iI_le] <;> omega), Nat.pow_zero, Nat.div_one]
  | succ e ih =>
    intro m f s hm hf hs
    obtain ⟨f, rfl⟩ : ∃ k, f = k + 1 := ⟨f - 1, by omega⟩
    have key : f_X5_groupsAbove_5 (f + 1) (iI k) (lI s) (iI m) = g_X5_groupsAbove_5 (f_X5_groupsAbove_5 f) (iI k) (lI s) (iI m) := rfl
    rw [key]
    unfold g_X5_groupsAbove_5
    rw [if_neg (by rw [iI_le] <;> omega), show (100000 : Int64) = lI (100000 : Nat) from rfl, lI_dN hs (by omega), nm_eq, iI_p1, ih (m + 1) f (s / 100000) (by omega) (by omega) (by omega), Nat.div_div_eq_div_mul, Nat.pow_succ, Nat.mul_comm]
theorem z_ga {k s : Nat} (hk : k ≤ 3) (hs : s < 9223372036854775808) : f_X5_groupsAbove_0 (lI s) (iI k) = some (lI (s / 100000 ^ k : Nat)) :=
  z_ga5 hk k 0 fuel s (by omega) (by unfold fuel; omega) hs
theorem z_un4 {k : Nat} (hk : k ≤ 3) :
    ∀ (e m f : Nat), m + e = k → e < f → f_X6_unit_4 f (iI k) (lI (100000 ^ m : Nat)) (iI m) = some (lI (100000 ^ k : Nat)) := by
  intro e
  induction e with
  | zero =>
    intro m f hm hf
    obtain ⟨f, rfl⟩ : ∃ k, f = k + 1 := ⟨f - 1, by omega⟩
    have key : ∀ v, f_X6_unit_4 (f + 1) (iI k) v (iI m) = g_X6_unit_4 (f_X6_unit_4 f) (iI k) v (iI m) := fun _ => rfl
    rw [key]
    unfold g_X6_unit_4
    rw [if_pos (by rw [iI_le] <;> omega), show m = k by omega]
  | succ e ih =>
    intro m f hm hf
    obtain ⟨f, rfl⟩ : ∃ k, f = k + 1 := ⟨f - 1, by omega⟩
    have key : ∀ v, f_X6_unit_4 (f + 1) (iI k) v (iI m) = g_X6_unit_4 (f_X6_unit_4 f) (iI k) v (iI m) := fun _ => rfl
    rw [key]
    unfold g_X6_unit_4
    have em : lI ((100000 ^ m : Nat) : Int) * (100000 : Int64) = lI ((100000 ^ (m + 1) : Nat) : Int) := by
      rw [show (100000 : Int64) = lI (100000 : Nat) from rfl, lI_mul, Nat.pow_succ]
      congr 1
    rw [if_neg (by rw [iI_le] <;> omega), em, nm_eq, iI_p1]
    exact ih (m + 1) f (by omega) (by omega)
theorem z_un {k : Nat} (hk : k ≤ 3) : f_X6_unit_0 (iI k) = some (lI (100000 ^ k : Nat)) := by
  have := z_un4 hk k 0 fuel (by omega) (by unfold fuel; omega)
  exact this

theorem z_rs {C : Int32} {A1 A2 A3 st : Nat → Int32} {n s : Nat} (hn : n ≤ 3) (hs : s < 9223372036854775808) (t : Int32) :
    ∀ (e k f : Nat) (fx cnt : Int32) (x y w : Nat → Int32) (t1 t2 t3 t4 t5 : Int32) (t6 t7 t8 t9 t10 t11 : Nat → Int32) (p1 p2 fm : Int32) (cp a b d : Nat → Int32) (xx dd yy : Nat → Int64), k + e = n → e < f → SameS cnt x y w cp → FND fx fm →
    ∃ (r fx' cnt' : Int32) (x' y' w' : Nat → Int32) (n1 n2 n3 n4 n5 : Int32) (n6 n7 n8 n9 n10 n11 : Nat → Int32) (m1 m2 fm' : Int32) (cp' a' b' d' : Nat → Int32) (xx' dd' yy' : Nat → Int64), f_X5_runScript_46 C A1 A2 A3 f fx cnt x y w t1 t2 t3 t4 t5 t6 t7 t8 t9 t10 t11 (iI n) (lI s) (iI k) = some (r, fx', cnt', x', y', w', n1, n2, n3, n4, n5, n6, n7, n8, n9, n10, n11) ∧ f_X6_runScript_54 st f t p1 p2 fm cp a b d xx dd yy (iI n) (lI s) (iI k) = some (r, t, m1, m2, fm', cp', a', b', d', xx', dd', yy') := by
  intro e
  induction e with
  | zero =>
    intro k f fx cnt x y w t1 t2 t3 t4 t5 t6 t7 t8 t9 t10 t11 p1 p2 fm cp a b d xx dd yy hk hf hS hF
    obtain ⟨f, rfl⟩ : ∃ k, f = k + 1 := ⟨f - 1, by omega⟩
    have key : f_X5_runScript_46 C A1 A2 A3 (f + 1) fx cnt x y w t1 t2 t3 t4 t5 t6 t7 t8 t9 t10 t11 (iI n) (lI s) (iI k) = g_X5_runScript_46 C A1 A2 A3 (f_X5_runScript_46 C A1 A2 A3 f) fx cnt x y w t1 t2 t3 t4 t5 t6 t7 t8 t9 t10 t11 (iI n) (lI s) (iI k) := rfl
    have key2 : f_X6_runScript_54 st (f + 1) t p1 p2 fm cp a b d xx dd yy (iI n) (lI s) (iI k) = g_X6_runScript_54 st (f_X6_runScript_54 st f) t p1 p2 fm cp a b d xx dd yy (iI n) (lI s) (iI k) := rfl
    rw [key, key2]
    unfold g_X5_runScript_46 g_X6_runScript_54
    rw [if_pos (show iI (n : Nat) ≤ iI (k : Nat) by rw [iI_le] <;> omega), if_pos (show iI (n : Nat) ≤ iI (k : Nat) by rw [iI_le] <;> omega)]
    exact ⟨_, _, _, _, _, _, _, _, _, _, _, _, _, _, _, _, _, _, _, _, _, _, _, _, _, _, _, rfl, rfl⟩
  | succ e ih =>
    intro k f fx cnt x y w t1 t2 t3 t4 t5 t6 t7 t8 t9 t10 t11 p1 p2 fm cp a b d xx dd yy hk hf hS hF
    obtain ⟨f, rfl⟩ : ∃ k, f = k + 1 := ⟨f - 1, by omega⟩
    have key : f_X5_runScript_46 C A1 A2 A3 (f + 1) fx cnt x y w t1 t2 t3 t4 t5 t6 t7 t8 t9 t10 t11 (iI n) (lI s) (iI k) = g_X5_runScript_46 C A1 A2 A3 (f_X5_runScript_46 C A1 A2 A3 f) fx cnt x y w t1 t2 t3 t4 t5 t6 t7 t8 t9 t10 t11 (iI n) (lI s) (iI k) := rfl
    have key2 : f_X6_runScript_54 st (f + 1) t p1 p2 fm cp a b d xx dd yy (iI n) (lI s) (iI k) = g_X6_runScript_54 st (f_X6_runScript_54 st f) t p1 p2 fm cp a b d xx dd yy (iI n) (lI s) (iI k) := rfl
    rw [key, key2]
    unfold g_X5_runScript_46 g_X6_runScript_54
    have ub := U_b (show e ≤ 3 by omega)
    have ej : iI (n : Int) - (1 : Int32) - iI (k : Int) = iI (e : Int) := by
      rw [q_1, iI_sub, iI_sub]
      congr 1
      omega
    have eg : (lI ((s / 100000 ^ e : Nat) : Int) - lI ((s / 100000 ^ e : Nat) : Int) / (100000 : Int64) * (100000 : Int64)).toInt32 = iI ((s / 100000 ^ e % 100000 : Nat) : Int) := by
      have : s / 100000 ^ e ≤ s := Nat.div_le_self _ _
      rw [show (100000 : Int64) = lI (100000 : Nat) from rfl, lI_rN (by omega) (by omega), lI_i]
    have eu : lI (s : Int) / lI ((100000 ^ e : Nat) : Int) = lI ((s / 100000 ^ e : Nat) : Int) := lI_dN hs (by omega)
    have gu : ¬ lI ((100000 ^ e : Nat) : Int) = 0 := by
      rw [ql_0, lI_eq] <;> omega
    obtain ⟨r, fx', cnt', x', y', w', n1, n2, n3, n4, n5, n6, n7, n8, n9, n10, n11, m1, m2, fm', cp', a', b', d', xx', dd', yy', e1, e2, hS', hF'⟩ := z_cmd hS hF t1 t2 t3 t4 t5 t6 t7 t8 t9 t10 t11 p1 p2 a b d xx dd yy (G := s / 100000 ^ e % 100000) (by omega)
    rw [if_neg (show ¬ iI (n : Nat) ≤ iI (k : Nat) by rw [iI_le] <;> omega), if_neg (show ¬ iI (n : Nat) ≤ iI (k : Nat) by rw [iI_le] <;> omega), ej, z_ga (by omega) hs, bnd_some, nm_eq, eg, e1, bnd17_some, z_un (by omega), bnd_some, gNzl_ne gu, eu, eg, e2, bnd11_some]
    by_cases hr : r = 0
    · rw [if_pos hr, if_pos hr]
      exact ⟨_, _, _, _, _, _, _, _, _, _, _, _, _, _, _, _, _, _, _, _, _, _, _, _, _, _, _, rfl, rfl⟩
    · rw [if_neg hr, if_neg hr, iI_p1]
      exact ih (k + 1) f fx' cnt' x' y' w' n1 n2 n3 n4 n5 n6 n7 n8 n9 n10 n11 m1 m2 fm' cp' a' b' d' xx' dd' yy' (by omega) (by omega) hS' hF'
theorem o27_IV : op_27 IV := by
  intro xl xc cnt x y w nw rem filled sn sx sy so σ τ ml mt st mrem mh ms mused mob msx msy mss u1 u2 u3 u4 u5 t1 t2 t3 t4 t5 t6 t7 t8 t9 t10 t11 v1 v2 v3 v4 v5 v6 v7 v8 v9 v10 v11 p q hI
  obtain ⟨z, z1, z2, rfl⟩ := i_ex p
  obtain ⟨s, s1, s2, rfl⟩ := l_ex q
  unfold f_X5_runScript_0 f_X6_runScript_0
  rw [iI_l z1 z2, ql_1, ql_3, z_in _ _ _ (by omega) (by omega) (by omega) (by omega) (by omega) (by omega), bnd_some]
  by_cases h1 : z < 1
  · rw [if_pos (show iI z < 1 by rw [q_1, iI_lt] <;> omega), if_neg (show ¬ ((1 : Int) ≤ z ∧ z ≤ 3) by omega), if_pos rfl]
    exact ⟨_, _, _, _, _, _, _, _, _, _, _, _, _, _, _, _, _, _, _, _, _, _, _, _, _, _, _, _, rfl, rfl, hI⟩
  · rw [if_neg (show ¬ iI z < 1 by rw [q_1, iI_lt] <;> omega)]
    by_cases h3 : 3 < z
    · rw [if_pos (show 3 < iI z by rw [q_3, iI_lt] <;> omega), if_neg (show ¬ ((1 : Int) ≤ z ∧ z ≤ 3) by omega), if_pos rfl]
      exact ⟨_, _, _, _, _, _, _, _, _, _, _, _, _, _, _, _, _, _, _, _, _, _, _, _, _, _, _, _, rfl, rfl, hI⟩
    · obtain ⟨n, rfl⟩ : ∃ n : Nat, z = (n : Nat) := ⟨z.toNat, by omega⟩
      have ub := U_b (show n ≤ 3 by omega)
      have e1 : lI ((100000 ^ n : Nat) : Int) - lI 1 = lI (((100000 ^ n : Nat) : Int) - 1) := lI_sub _ _
      rw [if_neg (show ¬ 3 < iI (n : Nat) by rw [q_3, iI_lt] <;> omega), if_pos (show (1 : Int) ≤ (n : Int) ∧ (n : Int) ≤ 3 by omega), if_neg (show ¬ (1 : Int32) = 0 by decide), z_un (by omega), bnd_some, ql_0, e1, z_in _ _ _ (by omega) (by omega) (by omega) (by omega) (by omega) (by omega), bnd_some]
      by_cases hs : 0 ≤ s
      · obtain ⟨s, rfl⟩ : ∃ k : Nat, s = (k : Nat) := ⟨s.toNat, by omega⟩
        have hs' : s / 100000 ^ n ≤ s := Nat.div_le_self _ _
        rw [if_pos (show 0 ≤ lg_cmp (lI (s : Nat)) (lI 0) by rw [cmp_ge] <;> omega), z_ga (by omega) (by omega), bnd_some]
        by_cases hg : s < 100000 ^ n
        · rw [if_pos (show lg_cmp (lI (s / 100000 ^ n : Nat)) (lI 0) = 0 by rw [Nat.div_eq_of_lt hg]; exact (cmp_eq (by omega) (by omega) (by omega) (by omega)).mpr rfl), if_pos (show (0 : Int) ≤ (s : Int) ∧ (s : Int) ≤ ((100000 ^ n : Nat) : Int) - 1 by omega), if_neg (show ¬ (1 : Int32) = 0 by decide)]
          obtain ⟨x2, y2, w2, e2, k2⟩ := z_copy cnt x y w u2 u3 u4 u5
          unfold f_X2_begin_0
          rw [e2, bnd4_some, bnd5_some]
          obtain ⟨c2, e3, k3⟩ := z_asg st v5
          rw [e3, bnd_some]
          obtain ⟨r, fx', cnt', x', y', w', n1, n2, n3, n4, n5, n6, n7, n8, n9, n10, n11, m1, m2, fm', cp', a', b', d', xx', dd', yy', g1, g2⟩ := z_rs (C := cnt) (A1 := x) (A2 := y) (A3 := w) (st := st) (show n ≤ 3 by omega) (show s < 9223372036854775808 by omega) 0 n 0 fuel (-1) cnt x2 y2 w2 t1 t2 t3 t4 t5 t6 t7 t8 t9 t10 t11 v2 v3 (-9) c2 v6 v7 v8 v9 v10 v11 (by omega) (by unfold fuel; omega) (SameS_cp hI.1 k2 k3) (Or.inr ⟨rfl, rfl⟩)
          exact ⟨_, _, _, _, _, _, _, _, _, _, _, _, _, _, _, _, _, _, _, _, _, _, _, _, _, _, _, _, g1, g2, hI⟩
        · have hg' : 0 < s / 100000 ^ n := Nat.div_pos (by omega) (by omega)
          rw [if_neg (show ¬ lg_cmp (lI (s / 100000 ^ n : Nat)) (lI 0) = 0 by rw [cmp_eq] <;> omega), if_neg (show ¬ ((0 : Int) ≤ (s : Int) ∧ (s : Int) ≤ ((100000 ^ n : Nat) : Int) - 1) by omega), if_pos rfl]
          exact ⟨_, _, _, _, _, _, _, _, _, _, _, _, _, _, _, _, _, _, _, _, _, _, _, _, _, _, _, _, rfl, rfl, hI⟩
      · rw [if_neg (show ¬ 0 ≤ lg_cmp (lI s) (lI 0) by rw [cmp_ge] <;> omega), if_neg (show ¬ ((0 : Int) ≤ s ∧ s ≤ ((100000 ^ n : Nat) : Int) - 1) by omega), if_pos rfl]
        exact ⟨_, _, _, _, _, _, _, _, _, _, _, _, _, _, _, _, _, _, _, _, _, _, _, _, _, _, _, _, rfl, rfl, hI⟩
