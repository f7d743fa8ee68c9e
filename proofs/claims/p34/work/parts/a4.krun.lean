/-! ===== scripts of one or two commands, on the class alone ===== -/
section KRN
variable {c : Nat} {X Y W : Nat → Int} {cnt : Int32} {x y w : Nat → Int32}
theorem k_cmd3 (hR : RS c X Y W cnt x y w) (hB : BD c X Y W) {i : Nat} (hi : i < c) (fx : Int32) (t1 t2 t3 t4 t5 : Int32) (t6 t7 t8 t9 t10 t11 : Nat → Int32) : ∃ u : _, f_X2_succeeds_0 fx cnt x y w t1 t2 t3 t4 t5 t6 t7 t8 t9 t10 t11 (iI ((30000 + 1000 * i : Nat) : Int)) = some ((if hidB X Y W c i = true then (1 : Int32) else 0), u) := by
  have hc := hB.1
  have ec := hR.1
  subst ec
  have e1 : iI ((30000 + 1000 * i : Nat) : Int) / (1000 : Int32) - iI ((30000 + 1000 * i : Nat) : Int) / (1000 : Int32) / (10 : Int32) * (10 : Int32) = iI (((30000 + 1000 * i) / 1000 % 10 : Nat) : Int) := by
    rw [show (1000 : Int32) = iI (1000 : Nat) from rfl, show (10 : Int32) = iI (10 : Nat) from rfl, iI_dN (by omega) (by omega), iI_rN (by omega) (by omega)]
  have e2 : iI ((30000 + 1000 * i : Nat) : Int) - iI ((30000 + 1000 * i : Nat) : Int) / (1000 : Int32) * (1000 : Int32) = iI (((30000 + 1000 * i) % 1000 : Nat) : Int) := by
    rw [show (1000 : Int32) = iI (1000 : Nat) from rfl, iI_rN (by omega) (by omega)]
  have e3 : iI ((30000 + 1000 * i : Nat) : Int) / (10000 : Int32) = iI (((30000 + 1000 * i) / 10000 : Nat) : Int) := by
    rw [show (10000 : Int32) = iI (10000 : Nat) from rfl, iI_dN (by omega) (by omega)]
  have e4 : iI ((30000 + 1000 * i : Nat) : Int) / (100 : Int32) - iI ((30000 + 1000 * i : Nat) : Int) / (100 : Int32) / (100 : Int32) * (100 : Int32) = iI (((30000 + 1000 * i) / 100 % 100 : Nat) : Int) := by
    rw [show (100 : Int32) = iI (100 : Nat) from rfl, iI_dN (by omega) (by omega), iI_rN (by omega) (by omega)]
  have e5 : iI ((30000 + 1000 * i : Nat) : Int) - iI ((30000 + 1000 * i : Nat) : Int) / (100 : Int32) * (100 : Int32) = iI (((30000 + 1000 * i) % 100 : Nat) : Int) := by
    rw [show (100 : Int32) = iI (100 : Nat) from rfl, iI_rN (by omega) (by omega)]
  unfold f_X2_succeeds_0
  rw [e1, e2, e3, nm_eq, nm_eq, nm_eq, show (30000 + 1000 * i) / 10000 = 3 by omega, show (30000 + 1000 * i) / 1000 % 10 = i by omega, show (30000 + 1000 * i) % 1000 = 0 by omega]
  rw [if_neg (show ¬ iI ((3 : Nat) : Int) = 1 by decide), if_neg (show ¬ iI ((3 : Nat) : Int) = 2 by decide), if_pos (show iI ((3 : Nat) : Int) = 3 from rfl), if_pos (show iI ((0 : Nat) : Int) = 0 from rfl), z_has hc, bnd_some, if_pos (k_pin hi hc), if_neg (by decide)]
  obtain ⟨n1, n2, n3, n4, n5, n6, n7, n8, n9, n10, n11, e6⟩ := z_hides hR hB hi t1 t2 t3 t4 t5 t6 t7 t8 t9 t10 t11
  rw [e6, bnd12_some]
  by_cases h : hidB X Y W c i = true
  · rw [if_pos h, if_neg (by decide)]
    exact ⟨_, rfl⟩
  · rw [if_neg h, if_pos rfl]
    exact ⟨_, rfl⟩
theorem k_cmd4 (hR : RS c X Y W cnt x y w) (hB : BD c X Y W) {p q : Nat} (hp : p ≤ 20) (hq : q ≤ 20) (h0 : 0 < c) (fx : Int32) (t1 t2 t3 t4 t5 : Int32) (t6 t7 t8 t9 t10 t11 : Nat → Int32) : f_X2_succeeds_0 fx cnt x y w t1 t2 t3 t4 t5 t6 t7 t8 t9 t10 t11 (iI ((40000 + 100 * p + q : Nat) : Int)) = some (1, iI (oI (ownr X Y W c (p : Nat) (q : Nat)) (-1)), cnt, x, y, w, t1, t2, t3, t4, t5, t6, t7, t8, t9, t10, t11) := by
  have hc := hB.1
  have ec := hR.1
  subst ec
  have e1 : iI ((40000 + 100 * p + q : Nat) : Int) / (1000 : Int32) - iI ((40000 + 100 * p + q : Nat) : Int) / (1000 : Int32) / (10 : Int32) * (10 : Int32) = iI (((40000 + 100 * p + q) / 1000 % 10 : Nat) : Int) := by
    rw [show (1000 : Int32) = iI (1000 : Nat) from rfl, show (10 : Int32) = iI (10 : Nat) from rfl, iI_dN (by omega) (by omega), iI_rN (by omega) (by omega)]
  have e2 : iI ((40000 + 100 * p + q : Nat) : Int) - iI ((40000 + 100 * p + q : Nat) : Int) / (1000 : Int32) * (1000 : Int32) = iI (((40000 + 100 * p + q) % 1000 : Nat) : Int) := by
    rw [show (1000 : Int32) = iI (1000 : Nat) from rfl, iI_rN (by omega) (by omega)]
  have e3 : iI ((40000 + 100 * p + q : Nat) : Int) / (10000 : Int32) = iI (((40000 + 100 * p + q) / 10000 : Nat) : Int) := by
    rw [show (10000 : Int32) = iI (10000 : Nat) from rfl, iI_dN (by omega) (by omega)]
  have e4 : iI ((40000 + 100 * p + q : Nat) : Int) / (100 : Int32) - iI ((40000 + 100 * p + q : Nat) : Int) / (100 : Int32) / (100 : Int32) * (100 : Int32) = iI (((40000 + 100 * p + q) / 100 % 100 : Nat) : Int) := by
    rw [show (100 : Int32) = iI (100 : Nat) from rfl, iI_dN (by omega) (by omega), iI_rN (by omega) (by omega)]
  have e5 : iI ((40000 + 100 * p + q : Nat) : Int) - iI ((40000 + 100 * p + q : Nat) : Int) / (100 : Int32) * (100 : Int32) = iI (((40000 + 100 * p + q) % 100 : Nat) : Int) := by
    rw [show (100 : Int32) = iI (100 : Nat) from rfl, iI_rN (by omega) (by omega)]
  unfold f_X2_succeeds_0
  rw [e3, nm_eq, nm_eq, nm_eq, show (40000 + 100 * p + q) / 10000 = 4 by omega]
  rw [if_neg (show ¬ iI ((4 : Nat) : Int) = 1 by decide), if_neg (show ¬ iI ((4 : Nat) : Int) = 2 by decide), if_neg (show ¬ iI ((4 : Nat) : Int) = 3 by decide), if_pos (show iI ((4 : Nat) : Int) = 4 from rfl), e4, e5, show (40000 + 100 * p + q) / 100 % 100 = p by omega, show (40000 + 100 * p + q) % 100 = q by omega]
  unfold f_X2_finds_0
  rw [z_insq, bnd_some, iI_toInt (by omega) (by omega), iI_toInt (by omega) (by omega), if_pos (show ((0 : Int) ≤ (p : Nat) ∧ ((p : Nat) : Int) ≤ 20) ∧ (0 : Int) ≤ (q : Nat) ∧ ((q : Nat) : Int) ≤ 20 by omega), if_neg (by decide), if_neg (show ¬ iI (c : Nat) = 0 by rw [q_0, iI_eq] <;> omega), z_ownAt hR hB (by omega) (by omega) (by omega) (by omega), bnd_some, bnd2_some]
  rfl
theorem k_cmd4n (hR : RS c X Y W cnt x y w) (hB : BD c X Y W) {p q : Nat} (hp : p ≤ 20) (hq : q ≤ 20) (h0 : c = 0) (fx : Int32) (t1 t2 t3 t4 t5 : Int32) (t6 t7 t8 t9 t10 t11 : Nat → Int32) : f_X2_succeeds_0 fx cnt x y w t1 t2 t3 t4 t5 t6 t7 t8 t9 t10 t11 (iI ((40000 + 100 * p + q : Nat) : Int)) = some (0, fx, cnt, x, y, w, t1, t2, t3, t4, t5, t6, t7, t8, t9, t10, t11) := by
  have hc := hB.1
  have ec := hR.1
  subst ec
  have e1 : iI ((40000 + 100 * p + q : Nat) : Int) / (1000 : Int32) - iI ((40000 + 100 * p + q : Nat) : Int) / (1000 : Int32) / (10 : Int32) * (10 : Int32) = iI (((40000 + 100 * p + q) / 1000 % 10 : Nat) : Int) := by
    rw [show (1000 : Int32) = iI (1000 : Nat) from rfl, show (10 : Int32) = iI (10 : Nat) from rfl, iI_dN (by omega) (by omega), iI_rN (by omega) (by omega)]
  have e2 : iI ((40000 + 100 * p + q : Nat) : Int) - iI ((40000 + 100 * p + q : Nat) : Int) / (1000 : Int32) * (1000 : Int32) = iI (((40000 + 100 * p + q) % 1000 : Nat) : Int) := by
    rw [show (1000 : Int32) = iI (1000 : Nat) from rfl, iI_rN (by omega) (by omega)]
  have e3 : iI ((40000 + 100 * p + q : Nat) : Int) / (10000 : Int32) = iI (((40000 + 100 * p + q) / 10000 : Nat) : Int) := by
    rw [show (10000 : Int32) = iI (10000 : Nat) from rfl, iI_dN (by omega) (by omega)]
  have e4 : iI ((40000 + 100 * p + q : Nat) : Int) / (100 : Int32) - iI ((40000 + 100 * p + q : Nat) : Int) / (100 : Int32) / (100 : Int32) * (100 : Int32) = iI (((40000 + 100 * p + q) / 100 % 100 : Nat) : Int) := by
    rw [show (100 : Int32) = iI (100 : Nat) from rfl, iI_dN (by omega) (by omega), iI_rN (by omega) (by omega)]
  have e5 : iI ((40000 + 100 * p + q : Nat) : Int) - iI ((40000 + 100 * p + q : Nat) : Int) / (100 : Int32) * (100 : Int32) = iI (((40000 + 100 * p + q) % 100 : Nat) : Int) := by
    rw [show (100 : Int32) = iI (100 : Nat) from rfl, iI_rN (by omega) (by omega)]
  unfold f_X2_succeeds_0
  rw [e3, nm_eq, nm_eq, nm_eq, show (40000 + 100 * p + q) / 10000 = 4 by omega]
  rw [if_neg (show ¬ iI ((4 : Nat) : Int) = 1 by decide), if_neg (show ¬ iI ((4 : Nat) : Int) = 2 by decide), if_neg (show ¬ iI ((4 : Nat) : Int) = 3 by decide), if_pos (show iI ((4 : Nat) : Int) = 4 from rfl), e4, e5, show (40000 + 100 * p + q) / 100 % 100 = p by omega, show (40000 + 100 * p + q) % 100 = q by omega]
  unfold f_X2_finds_0
  rw [z_insq, bnd_some, iI_toInt (by omega) (by omega), iI_toInt (by omega) (by omega), if_pos (show ((0 : Int) ≤ (p : Nat) ∧ ((p : Nat) : Int) ≤ 20) ∧ (0 : Int) ≤ (q : Nat) ∧ ((q : Nat) : Int) ≤ 20 by omega), if_neg (by decide), if_pos (show iI (c : Nat) = 0 by rw [h0]; rfl), bnd2_some]
  rfl
theorem k_cmd5 (hR : RS c X Y W cnt x y w) (hB : BD c X Y W) {i : Nat} (hi : i < c) (fx : Int32) (hf : fx = iI (i : Nat)) (t1 t2 t3 t4 t5 : Int32) (t6 t7 t8 t9 t10 t11 : Nat → Int32) : f_X2_succeeds_0 fx cnt x y w t1 t2 t3 t4 t5 t6 t7 t8 t9 t10 t11 (iI ((50000 + 1000 * i : Nat) : Int)) = some (1, fx, cnt, x, y, w, t1, t2, t3, t4, t5, t6, t7, t8, t9, t10, t11) := by
  have hc := hB.1
  have ec := hR.1
  subst ec
  have e1 : iI ((50000 + 1000 * i : Nat) : Int) / (1000 : Int32) - iI ((50000 + 1000 * i : Nat) : Int) / (1000 : Int32) / (10 : Int32) * (10 : Int32) = iI (((50000 + 1000 * i) / 1000 % 10 : Nat) : Int) := by
    rw [show (1000 : Int32) = iI (1000 : Nat) from rfl, show (10 : Int32) = iI (10 : Nat) from rfl, iI_dN (by omega) (by omega), iI_rN (by omega) (by omega)]
  have e2 : iI ((50000 + 1000 * i : Nat) : Int) - iI ((50000 + 1000 * i : Nat) : Int) / (1000 : Int32) * (1000 : Int32) = iI (((50000 + 1000 * i) % 1000 : Nat) : Int) := by
    rw [show (1000 : Int32) = iI (1000 : Nat) from rfl, iI_rN (by omega) (by omega)]
  have e3 : iI ((50000 + 1000 * i : Nat) : Int) / (10000 : Int32) = iI (((50000 + 1000 * i) / 10000 : Nat) : Int) := by
    rw [show (10000 : Int32) = iI (10000 : Nat) from rfl, iI_dN (by omega) (by omega)]
  have e4 : iI ((50000 + 1000 * i : Nat) : Int) / (100 : Int32) - iI ((50000 + 1000 * i : Nat) : Int) / (100 : Int32) / (100 : Int32) * (100 : Int32) = iI (((50000 + 1000 * i) / 100 % 100 : Nat) : Int) := by
    rw [show (100 : Int32) = iI (100 : Nat) from rfl, iI_dN (by omega) (by omega), iI_rN (by omega) (by omega)]
  have e5 : iI ((50000 + 1000 * i : Nat) : Int) - iI ((50000 + 1000 * i : Nat) : Int) / (100 : Int32) * (100 : Int32) = iI (((50000 + 1000 * i) % 100 : Nat) : Int) := by
    rw [show (100 : Int32) = iI (100 : Nat) from rfl, iI_rN (by omega) (by omega)]
  unfold f_X2_succeeds_0
  rw [e1, e2, e3, nm_eq, nm_eq, nm_eq, show (50000 + 1000 * i) / 10000 = 5 by omega, show (50000 + 1000 * i) / 1000 % 10 = i by omega, show (50000 + 1000 * i) % 1000 = 0 by omega]
  rw [if_neg (show ¬ iI ((5 : Nat) : Int) = 1 by decide), if_neg (show ¬ iI ((5 : Nat) : Int) = 2 by decide), if_neg (show ¬ iI ((5 : Nat) : Int) = 3 by decide), if_neg (show ¬ iI ((5 : Nat) : Int) = 4 by decide), if_pos (show iI ((5 : Nat) : Int) = 5 from rfl), if_pos (show iI ((0 : Nat) : Int) = 0 from rfl), if_pos hf]
theorem k_cmd6 (hR : RS c X Y W cnt x y w) (hB : BD c X Y W) {i z : Nat} (hi : i < c) (hz : z < 1000) (fx : Int32) (t1 t2 t3 t4 t5 : Int32) (t6 t7 t8 t9 t10 t11 : Nat → Int32) : f_X2_succeeds_0 fx cnt x y w t1 t2 t3 t4 t5 t6 t7 t8 t9 t10 t11 (iI ((60000 + 1000 * i + z : Nat) : Int)) = some ((if SZ X Y W c i 21 < z then (0 : Int32) else 1), fx, cnt, x, y, w, t1, t2, t3, t4, t5, t6, t7, t8, t9, t10, t11) := by
  have hc := hB.1
  have ec := hR.1
  subst ec
  have e1 : iI ((60000 + 1000 * i + z : Nat) : Int) / (1000 : Int32) - iI ((60000 + 1000 * i + z : Nat) : Int) / (1000 : Int32) / (10 : Int32) * (10 : Int32) = iI (((60000 + 1000 * i + z) / 1000 % 10 : Nat) : Int) := by
    rw [show (1000 : Int32) = iI (1000 : Nat) from rfl, show (10 : Int32) = iI (10 : Nat) from rfl, iI_dN (by omega) (by omega), iI_rN (by omega) (by omega)]
  have e2 : iI ((60000 + 1000 * i + z : Nat) : Int) - iI ((60000 + 1000 * i + z : Nat) : Int) / (1000 : Int32) * (1000 : Int32) = iI (((60000 + 1000 * i + z) % 1000 : Nat) : Int) := by
    rw [show (1000 : Int32) = iI (1000 : Nat) from rfl, iI_rN (by omega) (by omega)]
  have e3 : iI ((60000 + 1000 * i + z : Nat) : Int) / (10000 : Int32) = iI (((60000 + 1000 * i + z) / 10000 : Nat) : Int) := by
    rw [show (10000 : Int32) = iI (10000 : Nat) from rfl, iI_dN (by omega) (by omega)]
  have e4 : iI ((60000 + 1000 * i + z : Nat) : Int) / (100 : Int32) - iI ((60000 + 1000 * i + z : Nat) : Int) / (100 : Int32) / (100 : Int32) * (100 : Int32) = iI (((60000 + 1000 * i + z) / 100 % 100 : Nat) : Int) := by
    rw [show (100 : Int32) = iI (100 : Nat) from rfl, iI_dN (by omega) (by omega), iI_rN (by omega) (by omega)]
  have e5 : iI ((60000 + 1000 * i + z : Nat) : Int) - iI ((60000 + 1000 * i + z : Nat) : Int) / (100 : Int32) * (100 : Int32) = iI (((60000 + 1000 * i + z) % 100 : Nat) : Int) := by
    rw [show (100 : Int32) = iI (100 : Nat) from rfl, iI_rN (by omega) (by omega)]
  unfold f_X2_succeeds_0
  rw [e1, e2, e3, nm_eq, nm_eq, nm_eq, show (60000 + 1000 * i + z) / 10000 = 6 by omega, show (60000 + 1000 * i + z) / 1000 % 10 = i by omega, show (60000 + 1000 * i + z) % 1000 = z by omega]
  have hsz := SZ_le (X := X) (Y := Y) (W := W) (c := c) (k := i) (n := 21)
  rw [if_neg (show ¬ iI ((6 : Nat) : Int) = 1 by decide), if_neg (show ¬ iI ((6 : Nat) : Int) = 2 by decide), if_neg (show ¬ iI ((6 : Nat) : Int) = 3 by decide), if_neg (show ¬ iI ((6 : Nat) : Int) = 4 by decide), if_neg (show ¬ iI ((6 : Nat) : Int) = 5 by decide), if_pos (show iI ((6 : Nat) : Int) = 6 from rfl), z_has hc, bnd_some, if_pos (k_pin hi hc), if_neg (by decide), z_po hR hB hi, bnd_some]
  by_cases h : SZ X Y W c i 21 < z
  · rw [if_pos (show iI ((SZ X Y W c i 21 : Nat) : Int) < iI (z : Nat) by rw [iI_lt] <;> omega), if_pos h]
  · rw [if_neg (show ¬ iI ((SZ X Y W c i 21 : Nat) : Int) < iI (z : Nat) by rw [iI_lt] <;> omega), if_neg h]
theorem k_rs_end {C : Int32} {A1 A2 A3 : Nat → Int32} {n : Nat} (hn : n ≤ 3) (f : Nat) (fx : Int32) (t1 t2 t3 t4 t5 : Int32) (t6 t7 t8 t9 t10 t11 : Nat → Int32) (s : Int64) : f_X5_runScript_46 C A1 A2 A3 (f + 1) fx cnt x y w t1 t2 t3 t4 t5 t6 t7 t8 t9 t10 t11 (iI n) s (iI n) = some (-9, fx, cnt, x, y, w, t1, t2, t3, t4, t5, t6, t7, t8, t9, t10, t11) := by
  have key : f_X5_runScript_46 C A1 A2 A3 (f + 1) fx cnt x y w t1 t2 t3 t4 t5 t6 t7 t8 t9 t10 t11 (iI n) s (iI n) = g_X5_runScript_46 C A1 A2 A3 (f_X5_runScript_46 C A1 A2 A3 f) fx cnt x y w t1 t2 t3 t4 t5 t6 t7 t8 t9 t10 t11 (iI n) s (iI n) := rfl
  rw [key]
  unfold g_X5_runScript_46
  rw [if_pos (show iI (n : Nat) ≤ iI (n : Nat) by rw [iI_le] <;> omega)]
theorem k_rs_step {C : Int32} {A1 A2 A3 : Nat → Int32} {n k : Nat} (hn : n ≤ 3) (hk : k < n) (f : Nat) (fx : Int32) (t1 t2 t3 t4 t5 : Int32) (t6 t7 t8 t9 t10 t11 : Nat → Int32) {s : Nat} (hs : s < 9223372036854775808) : f_X5_runScript_46 C A1 A2 A3 (f + 1) fx cnt x y w t1 t2 t3 t4 t5 t6 t7 t8 t9 t10 t11 (iI n) (lI s) (iI k) = bnd17 (f_X2_succeeds_0 fx cnt x y w t1 t2 t3 t4 t5 t6 t7 t8 t9 t10 t11 (iI ((s / 100000 ^ (n - 1 - k) % 100000 : Nat) : Int))) (fun r5 u6 u7 u8 u9 u10 u11 u12 u13 u14 u15 u16 u17 u18 u19 u20 u21 => (if r5 = 0 then (some (iI k, u6, u7, u8, u9, u10, u11, u12, u13, u14, u15, u16, u17, u18, u19, u20, u21)) else f_X5_runScript_46 C A1 A2 A3 f u6 u7 u8 u9 u10 u11 u12 u13 u14 u15 u16 u17 u18 u19 u20 u21 (iI n) (lI s) (iI (k + 1 : Nat)))) := by
  have key : f_X5_runScript_46 C A1 A2 A3 (f + 1) fx cnt x y w t1 t2 t3 t4 t5 t6 t7 t8 t9 t10 t11 (iI n) (lI s) (iI k) = g_X5_runScript_46 C A1 A2 A3 (f_X5_runScript_46 C A1 A2 A3 f) fx cnt x y w t1 t2 t3 t4 t5 t6 t7 t8 t9 t10 t11 (iI n) (lI s) (iI k) := rfl
  rw [key]
  unfold g_X5_runScript_46
  have ej : iI (n : Int) - (1 : Int32) - iI (k : Int) = iI ((n - 1 - k : Nat) : Int) := by
    rw [q_1, iI_sub, iI_sub]
    congr 1
    omega
  have eg : (lI ((s / 100000 ^ (n - 1 - k) : Nat) : Int) - lI ((s / 100000 ^ (n - 1 - k) : Nat) : Int) / (100000 : Int64) * (100000 : Int64)).toInt32 = iI ((s / 100000 ^ (n - 1 - k) % 100000 : Nat) : Int) := by
    have : s / 100000 ^ (n - 1 - k) ≤ s := Nat.div_le_self _ _
    rw [show (100000 : Int64) = lI (100000 : Nat) from rfl, lI_rN (by omega) (by omega), lI_i]
  rw [if_neg (show ¬ iI (n : Nat) ≤ iI (k : Nat) by rw [iI_le] <;> omega), ej, z_ga (by omega) hs, bnd_some, nm_eq, eg, iI_p1]
theorem k_rs_go (hR : RS c X Y W cnt x y w) (hB : BD c X Y W) {n s : Nat} (h1 : 1 ≤ n) (hn : n ≤ 3) (hs : s < 100000 ^ n) (f0 c0 : Int32) (x0 y0 w0 : Nat → Int32) (t1 t2 t3 t4 t5 : Int32) (t6 t7 t8 t9 t10 t11 : Nat → Int32) : ∃ x2 y2 w2, RS c X Y W cnt x2 y2 w2 ∧ f_X5_runScript_0 cnt x y w f0 c0 x0 y0 w0 t1 t2 t3 t4 t5 t6 t7 t8 t9 t10 t11 (iI n) (lI s) = f_X5_runScript_46 cnt x y w fuel (-1) cnt x2 y2 w2 t1 t2 t3 t4 t5 t6 t7 t8 t9 t10 t11 (iI n) (lI s) (iI (0 : Nat)) := by
  have hc := hB.1
  have ub := U_b hn
  unfold f_X5_runScript_0 f_X2_begin_0
  obtain ⟨x2, y2, w2, e1, k1⟩ := z_copy cnt x y w c0 x0 y0 w0
  refine ⟨x2, y2, w2, RS_cp hR hc k1, ?_⟩
  rw [if_neg (by rw [q_1, iI_lt] <;> omega), if_neg (by rw [show (3 : Int32) = iI 3 from rfl, iI_lt] <;> omega), if_pos (show (0 : Int32) ≤ lg_cmp (lI (s : Int)) (0 : Int64) by rw [ql_0, cmp_ge] <;> omega), z_ga hn (by omega), bnd_some, Nat.div_eq_of_lt hs, if_pos (by decide), e1, bnd4_some, bnd5_some]
  rfl
theorem k_run1 (hR : RS c X Y W cnt x y w) (hB : BD c X Y W) {G : Nat} (hG : G < 100000) {v : Int32} (hv : ∀ (x y w : Nat → Int32), RS c X Y W cnt x y w → ∀ (t1 t2 t3 t4 t5 : Int32) (t6 t7 t8 t9 t10 t11 : Nat → Int32), ∃ u : _, f_X2_succeeds_0 (-1) cnt x y w t1 t2 t3 t4 t5 t6 t7 t8 t9 t10 t11 (iI ((G : Nat) : Int)) = some (v, u)) (f0 c0 : Int32) (x0 y0 w0 : Nat → Int32) (t1 t2 t3 t4 t5 : Int32) (t6 t7 t8 t9 t10 t11 : Nat → Int32) : ∃ u : _, f_X5_runScript_0 cnt x y w f0 c0 x0 y0 w0 t1 t2 t3 t4 t5 t6 t7 t8 t9 t10 t11 1 (lI (G : Nat)) = some ((if v = 0 then (0 : Int32) else -9), u) := by
  obtain ⟨x2, y2, w2, hR2, e1⟩ := k_rs_go hR hB (n := 1) (s := G) (by omega) (by omega) (by omega) f0 c0 x0 y0 w0 t1 t2 t3 t4 t5 t6 t7 t8 t9 t10 t11
  have e1' : f_X5_runScript_0 cnt x y w f0 c0 x0 y0 w0 t1 t2 t3 t4 t5 t6 t7 t8 t9 t10 t11 1 (lI (G : Nat)) = _ := e1
  rw [e1']
  obtain ⟨f, hf⟩ : ∃ f, fuel = f + 1 + 1 := ⟨fuel - 2, by unfold fuel; omega⟩
  obtain ⟨⟨u6, u7, u8, u9, u10, u11, u12, u13, u14, u15, u16, u17, u18, u19, u20, u21⟩, e2⟩ := hv x2 y2 w2 hR2 t1 t2 t3 t4 t5 t6 t7 t8 t9 t10 t11
  rw [hf, k_rs_step (by omega) (by omega) _ _ _ _ _ _ _ _ _ _ _ _ _ (by omega), show G / 100000 ^ (1 - 1 - 0) % 100000 = G by rw [show 1 - 1 - 0 = 0 from rfl, Nat.pow_zero, Nat.div_one, Nat.mod_eq_of_lt hG], e2, bnd17_some]
  by_cases h : v = 0
  · rw [if_pos h, if_pos h]
    exact ⟨_, rfl⟩
  · rw [if_neg h, if_neg h, k_rs_end (n := 1) (by omega)]
    exact ⟨_, rfl⟩
theorem k_run2 (hR : RS c X Y W cnt x y w) (hB : BD c X Y W) {p q i : Nat} (hp : p ≤ 20) (hq : q ≤ 20) (hi : i < 10) (ho : 0 < c → ownr X Y W c (p : Nat) (q : Nat) = some i) (f0 c0 : Int32) (x0 y0 w0 : Nat → Int32) (t1 t2 t3 t4 t5 : Int32) (t6 t7 t8 t9 t10 t11 : Nat → Int32) : ∃ u : _, f_X5_runScript_0 cnt x y w f0 c0 x0 y0 w0 t1 t2 t3 t4 t5 t6 t7 t8 t9 t10 t11 2 (lI ((100000 * (40000 + 100 * p + q) + (50000 + 1000 * i) : Nat) : Int)) = some ((if c = 0 then (0 : Int32) else -9), u) := by
  obtain ⟨x2, y2, w2, hR2, e1⟩ := k_rs_go hR hB (n := 2) (s := 100000 * (40000 + 100 * p + q) + (50000 + 1000 * i)) (by omega) (by omega) (by rw [show (100000 : Nat) ^ 2 = 10000000000 from rfl]; omega) f0 c0 x0 y0 w0 t1 t2 t3 t4 t5 t6 t7 t8 t9 t10 t11
  have e1' : f_X5_runScript_0 cnt x y w f0 c0 x0 y0 w0 t1 t2 t3 t4 t5 t6 t7 t8 t9 t10 t11 2 (lI ((100000 * (40000 + 100 * p + q) + (50000 + 1000 * i) : Nat) : Int)) = _ := e1
  rw [e1']
  obtain ⟨f, hf⟩ : ∃ f, fuel = f + 1 + 1 + 1 := ⟨fuel - 3, by unfold fuel; omega⟩
  rw [hf, k_rs_step (by omega) (by omega) _ _ _ _ _ _ _ _ _ _ _ _ _ (by omega), show (100000 * (40000 + 100 * p + q) + (50000 + 1000 * i)) / 100000 ^ (2 - 1 - 0) % 100000 = 40000 + 100 * p + q by rw [show 2 - 1 - 0 = 1 from rfl, Nat.pow_one]; omega]
  by_cases h : c = 0
  · rw [k_cmd4n hR2 hB hp hq h, bnd17_some, if_pos rfl, if_pos h]
    exact ⟨_, rfl⟩
  · have ho' := ho (by omega)
    rw [k_cmd4 hR2 hB hp hq (by omega), bnd17_some, if_neg (by decide), ho', k_rs_step (by omega) (by omega) _ _ _ _ _ _ _ _ _ _ _ _ _ (by omega), show (100000 * (40000 + 100 * p + q) + (50000 + 1000 * i)) / 100000 ^ (2 - 1 - (0 + 1)) % 100000 = 50000 + 1000 * i by rw [show 2 - 1 - (0 + 1) = 0 from rfl, Nat.pow_zero]; omega, k_cmd5 hR2 hB (own_bd ho') _ (show iI (oI (some i) (-1)) = iI (i : Nat) from rfl), bnd17_some, if_neg (by decide), if_neg h, k_rs_end (n := 2) (by omega)]
    exact ⟨_, rfl⟩
end KRN
set_option maxRecDepth 20000 in
theorem q_run3 {s : ST} {c : Nat} {X Y W : Nat → Int} (h : GS s c X Y W) {i : Nat} (hi : i < c) : ∃ s' : ST, Eq15 s s' ∧ F_X5_runScript s 1 (lI ((30000 + 1000 * i : Nat) : Int)) = some ((if (if hidB X Y W c i = true then (1 : Int32) else 0) = 0 then (0 : Int32) else -9), s') := by
  obtain ⟨⟨u0, u1, u2, u3, u4, u5, u6, u7, u8, u9, u10, u11, u12, u13, u14, u15⟩, e1⟩ := k_run1 h.2 h.1 (by have := h.1.1; omega) (fun x y w hR => k_cmd3 hR h.1 hi (-1)) (s.2.2.2.2.2.2.2.2.2.2.2.2.2.2.2.2.2.2.2.2.2.2.2.2.2.1) (s.2.2.2.2.2.2.2.2.2.2.2.2.2.2.2.2.2.2.2.2.2.2.2.2.2.2.1) (s.2.2.2.2.2.2.2.2.2.2.2.2.2.2.2.2.2.2.2.2.2.2.2.2.2.2.2.1) (s.2.2.2.2.2.2.2.2.2.2.2.2.2.2.2.2.2.2.2.2.2.2.2.2.2.2.2.2.1) (s.2.2.2.2.2.2.2.2.2.2.2.2.2.2.2.2.2.2.2.2.2.2.2.2.2.2.2.2.2.1) (s.2.2.2.2.2.2.2.2.2.2.2.2.2.2.2.2.2.2.2.2.2.1) (s.2.2.2.2.2.2.2.2.2.2.2.2.2.2.1) (s.2.2.2.2.2.2.2.2.2.2.2.2.2.2.2.1) (s.2.2.2.2.2.2.2.2.2.2.2.2.2.2.2.2.1) (s.2.2.2.2.2.2.2.2.2.2.2.2.2.2.2.2.2.1) (s.2.2.2.2.2.2.2.2.2.2.2.2.2.2.2.2.2.2.1) (s.2.2.2.2.2.2.2.2.2.2.2.2.2.2.2.2.2.2.2.1) (s.2.2.2.2.2.2.2.2.2.2.2.2.2.2.2.2.2.2.2.2.1) (s.2.2.2.2.2.2.2.2.2.2.2.2.2.2.2.2.2.2.2.2.2.2.2.2.1) (s.2.2.2.2.2.2.2.2.2.2.2.2.2.2.2.2.2.2.2.2.2.2.1) (s.2.2.2.2.2.2.2.2.2.2.2.2.2.2.2.2.2.2.2.2.2.2.2.1)
  refine ⟨(s.1, s.2.1, s.2.2.1, s.2.2.2.1, s.2.2.2.2.1, s.2.2.2.2.2.1, s.2.2.2.2.2.2.1, s.2.2.2.2.2.2.2.1, s.2.2.2.2.2.2.2.2.1, s.2.2.2.2.2.2.2.2.2.1, s.2.2.2.2.2.2.2.2.2.2.1, s.2.2.2.2.2.2.2.2.2.2.2.1, s.2.2.2.2.2.2.2.2.2.2.2.2.1, s.2.2.2.2.2.2.2.2.2.2.2.2.2.1, u6, u7, u8, u9, u10, u11, u12, u5, u14, u15, u13, u0, u1, u2, u3, u4, s.2.2.2.2.2.2.2.2.2.2.2.2.2.2.2.2.2.2.2.2.2.2.2.2.2.2.2.2.2.2.1, s.2.2.2.2.2.2.2.2.2.2.2.2.2.2.2.2.2.2.2.2.2.2.2.2.2.2.2.2.2.2.2), E_rf s, ?_⟩
  unfold F_X5_runScript
  rw [e1]
  rfl
set_option maxRecDepth 20000 in
theorem q_run6 {s : ST} {c : Nat} {X Y W : Nat → Int} (h : GS s c X Y W) {i z : Nat} (hi : i < c) (hz : z < 1000) : ∃ s' : ST, Eq15 s s' ∧ F_X5_runScript s 1 (lI ((60000 + 1000 * i + z : Nat) : Int)) = some ((if (if SZ X Y W c i 21 < z then (0 : Int32) else 1) = 0 then (0 : Int32) else -9), s') := by
  obtain ⟨⟨u0, u1, u2, u3, u4, u5, u6, u7, u8, u9, u10, u11, u12, u13, u14, u15⟩, e1⟩ := k_run1 h.2 h.1 (by have := h.1.1; omega) (fun x y w hR t1 t2 t3 t4 t5 t6 t7 t8 t9 t10 t11 => ⟨_, k_cmd6 hR h.1 hi hz (-1) t1 t2 t3 t4 t5 t6 t7 t8 t9 t10 t11⟩) (s.2.2.2.2.2.2.2.2.2.2.2.2.2.2.2.2.2.2.2.2.2.2.2.2.2.1) (s.2.2.2.2.2.2.2.2.2.2.2.2.2.2.2.2.2.2.2.2.2.2.2.2.2.2.1) (s.2.2.2.2.2.2.2.2.2.2.2.2.2.2.2.2.2.2.2.2.2.2.2.2.2.2.2.1) (s.2.2.2.2.2.2.2.2.2.2.2.2.2.2.2.2.2.2.2.2.2.2.2.2.2.2.2.2.1) (s.2.2.2.2.2.2.2.2.2.2.2.2.2.2.2.2.2.2.2.2.2.2.2.2.2.2.2.2.2.1) (s.2.2.2.2.2.2.2.2.2.2.2.2.2.2.2.2.2.2.2.2.2.1) (s.2.2.2.2.2.2.2.2.2.2.2.2.2.2.1) (s.2.2.2.2.2.2.2.2.2.2.2.2.2.2.2.1) (s.2.2.2.2.2.2.2.2.2.2.2.2.2.2.2.2.1) (s.2.2.2.2.2.2.2.2.2.2.2.2.2.2.2.2.2.1) (s.2.2.2.2.2.2.2.2.2.2.2.2.2.2.2.2.2.2.1) (s.2.2.2.2.2.2.2.2.2.2.2.2.2.2.2.2.2.2.2.1) (s.2.2.2.2.2.2.2.2.2.2.2.2.2.2.2.2.2.2.2.2.1) (s.2.2.2.2.2.2.2.2.2.2.2.2.2.2.2.2.2.2.2.2.2.2.2.2.1) (s.2.2.2.2.2.2.2.2.2.2.2.2.2.2.2.2.2.2.2.2.2.2.1) (s.2.2.2.2.2.2.2.2.2.2.2.2.2.2.2.2.2.2.2.2.2.2.2.1)
  refine ⟨(s.1, s.2.1, s.2.2.1, s.2.2.2.1, s.2.2.2.2.1, s.2.2.2.2.2.1, s.2.2.2.2.2.2.1, s.2.2.2.2.2.2.2.1, s.2.2.2.2.2.2.2.2.1, s.2.2.2.2.2.2.2.2.2.1, s.2.2.2.2.2.2.2.2.2.2.1, s.2.2.2.2.2.2.2.2.2.2.2.1, s.2.2.2.2.2.2.2.2.2.2.2.2.1, s.2.2.2.2.2.2.2.2.2.2.2.2.2.1, u6, u7, u8, u9, u10, u11, u12, u5, u14, u15, u13, u0, u1, u2, u3, u4, s.2.2.2.2.2.2.2.2.2.2.2.2.2.2.2.2.2.2.2.2.2.2.2.2.2.2.2.2.2.2.1, s.2.2.2.2.2.2.2.2.2.2.2.2.2.2.2.2.2.2.2.2.2.2.2.2.2.2.2.2.2.2.2), E_rf s, ?_⟩
  unfold F_X5_runScript
  rw [e1]
  rfl
set_option maxRecDepth 20000 in
theorem q_run2 {s : ST} {c : Nat} {X Y W : Nat → Int} (h : GS s c X Y W) {p q i : Nat} (hp : p ≤ 20) (hq : q ≤ 20) (hi : i < 10) (ho : 0 < c → ownr X Y W c (p : Nat) (q : Nat) = some i) : ∃ s' : ST, Eq15 s s' ∧ F_X5_runScript s 2 (lI ((100000 * (40000 + 100 * p + q) + (50000 + 1000 * i) : Nat) : Int)) = some ((if c = 0 then (0 : Int32) else -9), s') := by
  obtain ⟨⟨u0, u1, u2, u3, u4, u5, u6, u7, u8, u9, u10, u11, u12, u13, u14, u15⟩, e1⟩ := k_run2 h.2 h.1 hp hq hi ho (s.2.2.2.2.2.2.2.2.2.2.2.2.2.2.2.2.2.2.2.2.2.2.2.2.2.1) (s.2.2.2.2.2.2.2.2.2.2.2.2.2.2.2.2.2.2.2.2.2.2.2.2.2.2.1) (s.2.2.2.2.2.2.2.2.2.2.2.2.2.2.2.2.2.2.2.2.2.2.2.2.2.2.2.1) (s.2.2.2.2.2.2.2.2.2.2.2.2.2.2.2.2.2.2.2.2.2.2.2.2.2.2.2.2.1) (s.2.2.2.2.2.2.2.2.2.2.2.2.2.2.2.2.2.2.2.2.2.2.2.2.2.2.2.2.2.1) (s.2.2.2.2.2.2.2.2.2.2.2.2.2.2.2.2.2.2.2.2.2.1) (s.2.2.2.2.2.2.2.2.2.2.2.2.2.2.1) (s.2.2.2.2.2.2.2.2.2.2.2.2.2.2.2.1) (s.2.2.2.2.2.2.2.2.2.2.2.2.2.2.2.2.1) (s.2.2.2.2.2.2.2.2.2.2.2.2.2.2.2.2.2.1) (s.2.2.2.2.2.2.2.2.2.2.2.2.2.2.2.2.2.2.1) (s.2.2.2.2.2.2.2.2.2.2.2.2.2.2.2.2.2.2.2.1) (s.2.2.2.2.2.2.2.2.2.2.2.2.2.2.2.2.2.2.2.2.1) (s.2.2.2.2.2.2.2.2.2.2.2.2.2.2.2.2.2.2.2.2.2.2.2.2.1) (s.2.2.2.2.2.2.2.2.2.2.2.2.2.2.2.2.2.2.2.2.2.2.1) (s.2.2.2.2.2.2.2.2.2.2.2.2.2.2.2.2.2.2.2.2.2.2.2.1)
  refine ⟨(s.1, s.2.1, s.2.2.1, s.2.2.2.1, s.2.2.2.2.1, s.2.2.2.2.2.1, s.2.2.2.2.2.2.1, s.2.2.2.2.2.2.2.1, s.2.2.2.2.2.2.2.2.1, s.2.2.2.2.2.2.2.2.2.1, s.2.2.2.2.2.2.2.2.2.2.1, s.2.2.2.2.2.2.2.2.2.2.2.1, s.2.2.2.2.2.2.2.2.2.2.2.2.1, s.2.2.2.2.2.2.2.2.2.2.2.2.2.1, u6, u7, u8, u9, u10, u11, u12, u5, u14, u15, u13, u0, u1, u2, u3, u4, s.2.2.2.2.2.2.2.2.2.2.2.2.2.2.2.2.2.2.2.2.2.2.2.2.2.2.2.2.2.2.1, s.2.2.2.2.2.2.2.2.2.2.2.2.2.2.2.2.2.2.2.2.2.2.2.2.2.2.2.2.2.2.2), E_rf s, ?_⟩
  unfold F_X5_runScript
  rw [e1]
  rfl
