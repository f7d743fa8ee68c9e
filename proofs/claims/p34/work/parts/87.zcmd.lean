/-! ===== scripts: a command ===== -/
theorem itT {α : Type} {_ : Decidable True} (a b : α) : (if True then a else b) = a := if_pos trivial
theorem itF {α : Type} {_ : Decidable False} (a b : α) : (if False then a else b) = b := if_neg (fun h => h)
theorem k10 : ((1 : Int32) = 0) = False := eq_false (by decide)
theorem k00 : ((0 : Int32) = 0) = True := eq_true rfl
theorem iI_dN {a b : Nat} (ha : a < 2147483648) (hb : b < 2147483648) : iI (a : Int) / iI (b : Int) = iI ((a / b : Nat) : Int) := by
  rw [iI_div (by omega) (by omega) (by omega) (by omega)]
  rfl
theorem iI_rN {a b : Nat} (ha : a < 2147483648) (hb : b < 2147483648) : iI (a : Int) - iI (a : Int) / iI (b : Int) * iI (b : Int) = iI ((a % b : Nat) : Int) := by
  rw [iI_rem (by omega) (by omega) (by omega) (by omega)]
  rfl
/-- the point found by a script, on both sides -/
def FND (fx fm : Int32) : Prop := (∃ z : Nat, z < 10 ∧ fx = iI z ∧ fm = iI z) ∨ (fx = -1 ∧ fm = -9)
theorem FND_i {fx fm : Int32} (h : FND fx fm) {i : Nat} (hi : i < 10) : fx = iI i ↔ fm = iI i := by
  rcases h with ⟨z, z1, rfl, rfl⟩ | ⟨rfl, rfl⟩
  · exact Iff.rfl
  · have h1 : ¬ (-1 : Int32) = iI i := by show ¬ iI (-1) = iI i; rw [iI_eq] <;> omega
    have h2 : ¬ (-9 : Int32) = iI i := by show ¬ iI (-9) = iI i; rw [iI_eq] <;> omega
    exact ⟨fun h => absurd h h1, fun h => absurd h h2⟩
section ZSC
variable {c : Nat} {X Y W : Nat → Int} {cnt : Int32} {x y w : Nat → Int32} {st : Nat → Int32}
theorem z_has1 (hc : c ≤ 10) {i : Nat} (hi : i < c) : f_X4_has_0 (iI c) (iI i) = some 1 := by
  rw [z_has hc, iI_toInt (by omega) (by omega), if_pos (show (0 : Int) ≤ (i : Int) ∧ (i : Int) < (c : Int) by omega)]
theorem z_has0 (hc : c ≤ 10) {i : Nat} (hi : ¬ i < c) (hi2 : i < 10) : f_X4_has_0 (iI c) (iI i) = some 0 := by
  rw [z_has hc, iI_toInt (by omega) (by omega), if_neg (show ¬ ((0 : Int) ≤ (i : Int) ∧ (i : Int) < (c : Int)) by omega)]
theorem ownr_some (hc : 0 < c) (a b : Int) : ∃ k, k < c ∧ ownr X Y W c a b = some k := by
  cases h : ownr X Y W c a b with
  | none => have := own_none h 0 hc; cases this
  | some k => exact ⟨k, (own_lt h).1, rfl⟩

theorem z_cmd {cp : Nat → Int32} {fx fm : Int32} (hS : SameS cnt x y w cp) (hF : FND fx fm) (t1 t2 t3 t4 t5 : Int32) (t6 t7 t8 t9 t10 t11 : Nat → Int32) (p1 p2 : Int32) (a b d : Nat → Int32) (xx dd yy : Nat → Int64) {G : Nat} (hG : G < 100000) :
    ∃ (r fx' cnt' : Int32) (x' y' w' : Nat → Int32) (n1 n2 n3 n4 n5 : Int32) (n6 n7 n8 n9 n10 n11 : Nat → Int32) (m1 m2 fm' : Int32) (cp' a' b' d' : Nat → Int32) (xx' dd' yy' : Nat → Int64), f_X2_succeeds_0 fx cnt x y w t1 t2 t3 t4 t5 t6 t7 t8 t9 t10 t11 (iI G) = some (r, fx', cnt', x', y', w', n1, n2, n3, n4, n5, n6, n7, n8, n9, n10, n11) ∧ f_X6_command_0 p1 p2 fm cp a b d xx dd yy (iI G) = some (r, m1, m2, fm', cp', a', b', d', xx', dd', yy') ∧ SameS cnt' x' y' w' cp' ∧ FND fx' fm' := by
  have hS0 := hS
  obtain ⟨c, X, Y, W, hB, hR, hM⟩ := hS
  have ec := hR.1
  subst ec
  have hc := hB.1
  obtain ⟨i, hid⟩ : ∃ i, i = G / 1000 % 10 := ⟨_, rfl⟩
  obtain ⟨s, hsd⟩ : ∃ s, s = G % 1000 := ⟨_, rfl⟩
  obtain ⟨o, hod⟩ : ∃ o, o = G / 10000 := ⟨_, rfl⟩
  obtain ⟨px, hpx⟩ : ∃ p, p = G / 100 % 100 := ⟨_, rfl⟩
  obtain ⟨py, hpy⟩ : ∃ p, p = G % 100 := ⟨_, rfl⟩
  have ei : iI (G : Int) / (1000 : Int32) - iI (G : Int) / (1000 : Int32) / (10 : Int32) * (10 : Int32) = iI (i : Int) := by
    rw [show (1000 : Int32) = iI (1000 : Nat) from rfl, show (10 : Int32) = iI (10 : Nat) from rfl, iI_dN (by omega) (by omega), iI_rN (by omega) (by omega), hid]
  have es : iI (G : Int) - iI (G : Int) / (1000 : Int32) * (1000 : Int32) = iI (s : Int) := by
    rw [show (1000 : Int32) = iI (1000 : Nat) from rfl, iI_rN (by omega) (by omega), hsd]
  have eo : iI (G : Int) / (10000 : Int32) = iI (o : Int) := by
    rw [show (10000 : Int32) = iI (10000 : Nat) from rfl, iI_dN (by omega) (by omega), hod]
  have ex : iI (G : Int) / (100 : Int32) - iI (G : Int) / (100 : Int32) / (100 : Int32) * (100 : Int32) = iI (px : Int) := by
    rw [show (100 : Int32) = iI (100 : Nat) from rfl, iI_dN (by omega) (by omega), iI_rN (by omega) (by omega), hpx]
  have ey : iI (G : Int) - iI (G : Int) / (100 : Int32) * (100 : Int32) = iI (py : Int) := by
    rw [show (100 : Int32) = iI (100 : Nat) from rfl, iI_rN (by omega) (by omega), hpy]
  have hi10 : i < 10 := by omega
  have hs10 : s < 1000 := by omega
  have ho10 : o < 10 := by omega
  have hpx1 : px < 100 := by omega
  have hpy1 : py < 100 := by omega
  unfold f_X2_succeeds_0 f_X6_command_0 f_X6_command_30
  simp only [ei, es, eo, ex, ey, nm_eq, show (0 : Int32).toNatClampNeg = 0 from rfl, hM.1]
  clear ei es eo ex ey hid hsd hod hpx hpy hG
  have oT : ∀ k : Nat, k < 10 → o = k → (iI (o : Int) = iI (k : Int)) = True := fun k _ h => eq_true (by rw [h])
  have oF : ∀ k : Nat, k < 10 → o ≠ k → (iI (o : Int) = iI (k : Int)) = False := fun k _ h => eq_false (by rw [iI_eq] <;> omega)
  have sT : s = 0 → (iI (s : Int) = (0 : Int32)) = True := fun h => eq_true (by rw [h]; rfl)
  have sF : s ≠ 0 → (iI (s : Int) = (0 : Int32)) = False := fun h => eq_false (by rw [q_0, iI_eq] <;> omega)
  have cT : ¬ i < c → (iI (c : Int) ≤ iI (i : Int)) = True := fun h => eq_true (by rw [iI_le] <;> omega)
  have cF : i < c → (iI (c : Int) ≤ iI (i : Int)) = False := fun h => eq_false (by rw [iI_le] <;> omega)
  by_cases e1 : o = 1
  · have o0 := e1
    have o1 : (iI (o : Int) = (1 : Int32)) = True := oT 1 (by omega) (by omega)
    have o2 : (iI (o : Int) = (2 : Int32)) = False := oF 2 (by omega) (by omega)
    have o3 : (iI (o : Int) = (3 : Int32)) = False := oF 3 (by omega) (by omega)
    have o4 : (iI (o : Int) = (4 : Int32)) = False := oF 4 (by omega) (by omega)
    have o5 : (iI (o : Int) = (5 : Int32)) = False := oF 5 (by omega) (by omega)
    have o6 : (iI (o : Int) = (6 : Int32)) = False := oF 6 (by omega) (by omega)
    by_cases hs : s = 0
    · by_cases hi : i < c
      · obtain ⟨c, rfl⟩ : ∃ k, c = k + 1 := ⟨c - 1, by omega⟩
        obtain ⟨x3, y3, w3, e4, hR'⟩ := z_drop hR (by omega) hi
        obtain ⟨q2, e5, hM'⟩ := z_rf hM (by omega) hi
        unfold f_X2_removes_0 f_X6_command_90
        simp only [o1, itT, itF, k10, k00, bnd_some, gZ_0, gZ_1, sT hs, cF hi, z_has1 hc hi, e4, bnd4_some, bnd6_some, e5]
        exact ⟨_, _, _, _, _, _, _, _, _, _, _, _, _, _, _, _, _, _, _, _, _, _, _, _, _, _, _, rfl, rfl, ⟨c, _, _, _, BD_dp hB i, hR', hM'⟩, Or.inr ⟨rfl, rfl⟩⟩
      · unfold f_X2_removes_0 f_X6_command_90
        simp only [o1, itT, itF, k10, k00, bnd_some, gZ_0, gZ_1, sT hs, cT hi, z_has0 hc hi hi10, bnd6_some]
        exact ⟨_, _, _, _, _, _, _, _, _, _, _, _, _, _, _, _, _, _, _, _, _, _, _, _, _, _, _, rfl, rfl, hS0, hF⟩
    · by_cases hi : i < c
      · unfold f_X6_command_90
        simp only [o1, itT, itF, k10, k00, bnd_some, gZ_0, gZ_1, sF hs, cF hi]
        exact ⟨_, _, _, _, _, _, _, _, _, _, _, _, _, _, _, _, _, _, _, _, _, _, _, _, _, _, _, rfl, rfl, hS0, hF⟩
      · unfold f_X6_command_90
        simp only [o1, itT, itF, k10, k00, bnd_some, gZ_0, gZ_1, sF hs, cT hi]
        exact ⟨_, _, _, _, _, _, _, _, _, _, _, _, _, _, _, _, _, _, _, _, _, _, _, _, _, _, _, rfl, rfl, hS0, hF⟩
  by_cases e2 : o = 2
  · have o0 := e2
    have o1 : (iI (o : Int) = (1 : Int32)) = False := oF 1 (by omega) (by omega)
    have o2 : (iI (o : Int) = (2 : Int32)) = True := oT 2 (by omega) (by omega)
    have o3 : (iI (o : Int) = (3 : Int32)) = False := oF 3 (by omega) (by omega)
    have o4 : (iI (o : Int) = (4 : Int32)) = False := oF 4 (by omega) (by omega)
    have o5 : (iI (o : Int) = (5 : Int32)) = False := oF 5 (by omega) (by omega)
    have o6 : (iI (o : Int) = (6 : Int32)) = False := oF 6 (by omega) (by omega)
    by_cases hi : i < c
    · by_cases hw : s ≤ 400
      · have w1 : f_X5_isWeight_0 (iI s) = some 1 := by rw [z_isw, iI_toInt (by omega) (by omega), if_pos (show (0 : Int) ≤ (s : Int) ∧ (s : Int) ≤ 400 by omega)]
        have w2 : ((400 : Int32) < iI s) = False := eq_false (by rw [q_400, iI_lt] <;> omega)
        have g1 : ∀ q : Option (R_X2_weighs), gIx (iI i) 10 q = q := fun q => gIx_iI (by omega) (by omega) (by omega)
        have g2 : ∀ q : Option (R_X6_command), gIx (iI (3 + 3 * i : Nat)) 31 q = q := fun q => gIx_iI (by omega) (by omega) (by omega)
        have v1 : (iI i).toNatClampNeg = i := iI_clN (by omega)
        have v2 : (iI (3 + 3 * i : Nat)).toNatClampNeg = 3 + 3 * i := iI_clN (by omega)
        unfold f_X2_weighs_0 f_X6_command_131
        simp only [o1, o2, itT, itF, k10, k00, bnd_some, gZ_0, gZ_1, cF hi, z_has1 hc hi, w1, w2, bnd2_some, iI_33, g1, g2, v1, v2]
        exact ⟨_, _, _, _, _, _, _, _, _, _, _, _, _, _, _, _, _, _, _, _, _, _, _, _, _, _, _, rfl, rfl, ⟨c, X, Y, setW W i (s : Int), BD_set hB i (by omega) (by omega), ⟨rfl, fun j hj => by
          by_cases e : j = i
          · rw [e, setW_eq, upd_eq]; exact ⟨(hR.2 i hi).1, (hR.2 i hi).2.1, rfl⟩
          · rw [setW_ne _ _ e, upd_ne e]; exact hR.2 j hj⟩, RM_set hM hi (v0 := 0) (Or.inr hM)⟩, hF⟩
      · have w1 : f_X5_isWeight_0 (iI s) = some 0 := by rw [z_isw, iI_toInt (by omega) (by omega), if_neg (show ¬ ((0 : Int) ≤ (s : Int) ∧ (s : Int) ≤ 400) by omega)]
        have w2 : ((400 : Int32) < iI s) = True := eq_true (by rw [q_400, iI_lt] <;> omega)
        unfold f_X2_weighs_0 f_X6_command_131
        simp only [o1, o2, itT, itF, k10, k00, bnd_some, gZ_0, gZ_1, cF hi, z_has1 hc hi, w1, w2, bnd2_some]
        exact ⟨_, _, _, _, _, _, _, _, _, _, _, _, _, _, _, _, _, _, _, _, _, _, _, _, _, _, _, rfl, rfl, hS0, hF⟩
    · unfold f_X2_weighs_0 f_X6_command_131
      simp only [o1, o2, itT, itF, k10, k00, bnd_some, gZ_0, gZ_1, cT hi, z_has0 hc hi hi10, bnd2_some]
      exact ⟨_, _, _, _, _, _, _, _, _, _, _, _, _, _, _, _, _, _, _, _, _, _, _, _, _, _, _, rfl, rfl, hS0, hF⟩
  by_cases e3 : o = 3
  · have o0 := e3
    have o1 : (iI (o : Int) = (1 : Int32)) = False := oF 1 (by omega) (by omega)
    have o2 : (iI (o : Int) = (2 : Int32)) = False := oF 2 (by omega) (by omega)
    have o3 : (iI (o : Int) = (3 : Int32)) = True := oT 3 (by omega) (by omega)
    have o4 : (iI (o : Int) = (4 : Int32)) = False := oF 4 (by omega) (by omega)
    have o5 : (iI (o : Int) = (5 : Int32)) = False := oF 5 (by omega) (by omega)
    have o6 : (iI (o : Int) = (6 : Int32)) = False := oF 6 (by omega) (by omega)
    by_cases hi : i < c
    · by_cases hs : s = 0
      · obtain ⟨n1, n2, n3, n4, n5, n6, n7, n8, n9, n10, n11, e4⟩ := z_hides hR hB hi t1 t2 t3 t4 t5 t6 t7 t8 t9 t10 t11
        obtain ⟨m0, m1, a', b', d', x', dd', y', e5⟩ := z_mhid hM hB hi p1 p2 a b d xx dd yy
        by_cases hh : hidB X Y W c i = true
        · rw [if_pos hh] at e4 e5
          simp only [o1, o2, o3, itT, itF, k10, k00, bnd_some, gZ_0, gZ_1, sT hs, cF hi, z_has1 hc hi, e4, e5, bnd12_some, bnd9_some]
          exact ⟨_, _, _, _, _, _, _, _, _, _, _, _, _, _, _, _, _, _, _, _, _, _, _, _, _, _, _, rfl, rfl, hS0, hF⟩
        · rw [if_neg hh] at e4 e5
          simp only [o1, o2, o3, itT, itF, k10, k00, bnd_some, gZ_0, gZ_1, sT hs, cF hi, z_has1 hc hi, e4, e5, bnd12_some, bnd9_some]
          exact ⟨_, _, _, _, _, _, _, _, _, _, _, _, _, _, _, _, _, _, _, _, _, _, _, _, _, _, _, rfl, rfl, hS0, hF⟩
      · simp only [o1, o2, o3, itT, itF, k10, k00, bnd_some, gZ_0, gZ_1, sF hs, cF hi]
        exact ⟨_, _, _, _, _, _, _, _, _, _, _, _, _, _, _, _, _, _, _, _, _, _, _, _, _, _, _, rfl, rfl, hS0, hF⟩
    · by_cases hs : s = 0
      · simp only [o1, o2, o3, itT, itF, k10, k00, bnd_some, gZ_0, gZ_1, sT hs, cT hi, z_has0 hc hi hi10]
        exact ⟨_, _, _, _, _, _, _, _, _, _, _, _, _, _, _, _, _, _, _, _, _, _, _, _, _, _, _, rfl, rfl, hS0, hF⟩
      · simp only [o1, o2, o3, itT, itF, k10, k00, bnd_some, gZ_0, gZ_1, sF hs, cT hi]
        exact ⟨_, _, _, _, _, _, _, _, _, _, _, _, _, _, _, _, _, _, _, _, _, _, _, _, _, _, _, rfl, rfl, hS0, hF⟩
  by_cases e4 : o = 4
  · have o0 := e4
    have o1 : (iI (o : Int) = (1 : Int32)) = False := oF 1 (by omega) (by omega)
    have o2 : (iI (o : Int) = (2 : Int32)) = False := oF 2 (by omega) (by omega)
    have o3 : (iI (o : Int) = (3 : Int32)) = False := oF 3 (by omega) (by omega)
    have o4 : (iI (o : Int) = (4 : Int32)) = True := oT 4 (by omega) (by omega)
    have o5 : (iI (o : Int) = (5 : Int32)) = False := oF 5 (by omega) (by omega)
    have o6 : (iI (o : Int) = (6 : Int32)) = False := oF 6 (by omega) (by omega)
    unfold f_X2_finds_0 f_X6_command_218
    by_cases hp : px ≤ 20 ∧ py ≤ 20
    · have q1 : f_X5_inSquare_0 (iI px) (iI py) = some 1 := by rw [z_insq, iI_toInt (by omega) (by omega), iI_toInt (by omega) (by omega), if_pos (by omega)]
      have q2 : f_X6_isPoint_0 (iI px) (iI py) = some 1 := by rw [z_ispt, iI_toInt (by omega) (by omega), iI_toInt (by omega) (by omega), if_pos (by omega)]
      by_cases h0 : c = 0
      · have c0 : (iI (c : Int) = (0 : Int32)) = True := eq_true (by rw [h0]; rfl)
        have c1 : (iI (c : Int) ≤ (0 : Int32)) = True := eq_true (by rw [q_0, iI_le] <;> omega)
        by_cases hi : i < c
        · simp only [o1, o2, o3, o4, itT, itF, k10, k00, bnd_some, gZ_0, gZ_1, q1, q2, c0, c1, cF hi, bnd2_some]
          exact ⟨_, _, _, _, _, _, _, _, _, _, _, _, _, _, _, _, _, _, _, _, _, _, _, _, _, _, _, rfl, rfl, hS0, hF⟩
        · simp only [o1, o2, o3, o4, itT, itF, k10, k00, bnd_some, gZ_0, gZ_1, q1, q2, c0, c1, cT hi, bnd2_some]
          exact ⟨_, _, _, _, _, _, _, _, _, _, _, _, _, _, _, _, _, _, _, _, _, _, _, _, _, _, _, rfl, rfl, hS0, hF⟩
      · have c0 : (iI (c : Int) = (0 : Int32)) = False := eq_false (by rw [q_0, iI_eq] <;> omega)
        have c1 : (iI (c : Int) ≤ (0 : Int32)) = False := eq_false (by rw [q_0, iI_le] <;> omega)
        have e4 := z_ownAt hR hB (a := (px : Int)) (b := (py : Int)) (by omega) (by omega) (by omega) (by omega)
        have e5 := z_mown hM hB (a := (px : Int)) (b := (py : Int)) (by omega) (by omega) (by omega) (by omega)
        obtain ⟨k, k1, k2⟩ := ownr_some (X := X) (Y := Y) (W := W) (show 0 < c by omega) (px : Int) (py : Int)
        rw [k2] at e4 e5
        by_cases hi : i < c
        · simp only [o1, o2, o3, o4, itT, itF, k10, k00, bnd_some, gZ_0, gZ_1, q1, q2, c0, c1, cF hi, bnd2_some, e4, e5]
          exact ⟨_, _, _, _, _, _, _, _, _, _, _, _, _, _, _, _, _, _, _, _, _, _, _, _, _, _, _, rfl, rfl, hS0, Or.inl ⟨k, by omega, rfl, rfl⟩⟩
        · simp only [o1, o2, o3, o4, itT, itF, k10, k00, bnd_some, gZ_0, gZ_1, q1, q2, c0, c1, cT hi, bnd2_some, e4, e5]
          exact ⟨_, _, _, _, _, _, _, _, _, _, _, _, _, _, _, _, _, _, _, _, _, _, _, _, _, _, _, rfl, rfl, hS0, Or.inl ⟨k, by omega, rfl, rfl⟩⟩
    · have q1 : f_X5_inSquare_0 (iI px) (iI py) = some 0 := by rw [z_insq, iI_toInt (by omega) (by omega), iI_toInt (by omega) (by omega), if_neg (by omega)]
      have q2 : f_X6_isPoint_0 (iI px) (iI py) = some 0 := by rw [z_ispt, iI_toInt (by omega) (by omega), iI_toInt (by omega) (by omega), if_neg (by omega)]
      by_cases hi : i < c
      · simp only [o1, o2, o3, o4, itT, itF, k10, k00, bnd_some, gZ_0, gZ_1, q1, q2, cF hi, bnd2_some]
        exact ⟨_, _, _, _, _, _, _, _, _, _, _, _, _, _, _, _, _, _, _, _, _, _, _, _, _, _, _, rfl, rfl, hS0, hF⟩
      · simp only [o1, o2, o3, o4, itT, itF, k10, k00, bnd_some, gZ_0, gZ_1, q1, q2, cT hi, bnd2_some]
        exact ⟨_, _, _, _, _, _, _, _, _, _, _, _, _, _, _, _, _, _, _, _, _, _, _, _, _, _, _, rfl, rfl, hS0, hF⟩
  by_cases e5 : o = 5
  · have o0 := e5
    have o1 : (iI (o : Int) = (1 : Int32)) = False := oF 1 (by omega) (by omega)
    have o2 : (iI (o : Int) = (2 : Int32)) = False := oF 2 (by omega) (by omega)
    have o3 : (iI (o : Int) = (3 : Int32)) = False := oF 3 (by omega) (by omega)
    have o4 : (iI (o : Int) = (4 : Int32)) = False := oF 4 (by omega) (by omega)
    have o5 : (iI (o : Int) = (5 : Int32)) = True := oT 5 (by omega) (by omega)
    have o6 : (iI (o : Int) = (6 : Int32)) = False := oF 6 (by omega) (by omega)
    have hb := FND_i hF hi10
    by_cases hs : s = 0
    · by_cases hf : fx = iI i
      · have f1 := eq_true hf
        have f2 := eq_true (hb.mp hf)
        by_cases hi : i < c
        · simp only [o1, o2, o3, o4, o5, itT, itF, k10, k00, bnd_some, gZ_0, gZ_1, sT hs, cF hi, f1, f2]
          exact ⟨_, _, _, _, _, _, _, _, _, _, _, _, _, _, _, _, _, _, _, _, _, _, _, _, _, _, _, rfl, rfl, hS0, Or.inl ⟨i, hi10, hf, hb.mp hf⟩⟩
        · simp only [o1, o2, o3, o4, o5, itT, itF, k10, k00, bnd_some, gZ_0, gZ_1, sT hs, cT hi, f1, f2]
          exact ⟨_, _, _, _, _, _, _, _, _, _, _, _, _, _, _, _, _, _, _, _, _, _, _, _, _, _, _, rfl, rfl, hS0, Or.inl ⟨i, hi10, hf, hb.mp hf⟩⟩
      · have f1 := eq_false hf
        have f2 := eq_false (fun q => hf (hb.mpr q))
        by_cases hi : i < c
        · simp only [o1, o2, o3, o4, o5, itT, itF, k10, k00, bnd_some, gZ_0, gZ_1, sT hs, cF hi, f1, f2]
          exact ⟨_, _, _, _, _, _, _, _, _, _, _, _, _, _, _, _, _, _, _, _, _, _, _, _, _, _, _, rfl, rfl, hS0, hF⟩
        · simp only [o1, o2, o3, o4, o5, itT, itF, k10, k00, bnd_some, gZ_0, gZ_1, sT hs, cT hi, f1, f2]
          exact ⟨_, _, _, _, _, _, _, _, _, _, _, _, _, _, _, _, _, _, _, _, _, _, _, _, _, _, _, rfl, rfl, hS0, hF⟩
    · by_cases hi : i < c
      · simp only [o1, o2, o3, o4, o5, itT, itF, k10, k00, bnd_some, gZ_0, gZ_1, sF hs, cF hi]
        exact ⟨_, _, _, _, _, _, _, _, _, _, _, _, _, _, _, _, _, _, _, _, _, _, _, _, _, _, _, rfl, rfl, hS0, hF⟩
      · simp only [o1, o2, o3, o4, o5, itT, itF, k10, k00, bnd_some, gZ_0, gZ_1, sF hs, cT hi]
        exact ⟨_, _, _, _, _, _, _, _, _, _, _, _, _, _, _, _, _, _, _, _, _, _, _, _, _, _, _, rfl, rfl, hS0, hF⟩
  by_cases e6 : o = 6
  · have o0 := e6
    have o1 : (iI (o : Int) = (1 : Int32)) = False := oF 1 (by omega) (by omega)
    have o2 : (iI (o : Int) = (2 : Int32)) = False := oF 2 (by omega) (by omega)
    have o3 : (iI (o : Int) = (3 : Int32)) = False := oF 3 (by omega) (by omega)
    have o4 : (iI (o : Int) = (4 : Int32)) = False := oF 4 (by omega) (by omega)
    have o5 : (iI (o : Int) = (5 : Int32)) = False := oF 5 (by omega) (by omega)
    have o6 : (iI (o : Int) = (6 : Int32)) = True := oT 6 (by omega) (by omega)
    by_cases hi : i < c
    · by_cases hz : iI (SZ X Y W c i 21 : Nat) < iI (s : Int)
      · simp only [o1, o2, o3, o4, o5, o6, itT, itF, k10, k00, bnd_some, gZ_0, gZ_1, cF hi, z_has1 hc hi, z_po hR hB hi, z_so hM hB hi, eq_true hz]
        exact ⟨_, _, _, _, _, _, _, _, _, _, _, _, _, _, _, _, _, _, _, _, _, _, _, _, _, _, _, rfl, rfl, hS0, hF⟩
      · simp only [o1, o2, o3, o4, o5, o6, itT, itF, k10, k00, bnd_some, gZ_0, gZ_1, cF hi, z_has1 hc hi, z_po hR hB hi, z_so hM hB hi, eq_false hz]
        exact ⟨_, _, _, _, _, _, _, _, _, _, _, _, _, _, _, _, _, _, _, _, _, _, _, _, _, _, _, rfl, rfl, hS0, hF⟩
    · simp only [o1, o2, o3, o4, o5, o6, itT, itF, k10, k00, bnd_some, gZ_0, gZ_1, cT hi, z_has0 hc hi hi10]
      exact ⟨_, _, _, _, _, _, _, _, _, _, _, _, _, _, _, _, _, _, _, _, _, _, _, _, _, _, _, rfl, rfl, hS0, hF⟩
  have o1 : (iI (o : Int) = (1 : Int32)) = False := oF 1 (by omega) (by omega)
  have o2 : (iI (o : Int) = (2 : Int32)) = False := oF 2 (by omega) (by omega)
  have o3 : (iI (o : Int) = (3 : Int32)) = False := oF 3 (by omega) (by omega)
  have o4 : (iI (o : Int) = (4 : Int32)) = False := oF 4 (by omega) (by omega)
  have o5 : (iI (o : Int) = (5 : Int32)) = False := oF 5 (by omega) (by omega)
  have o6 : (iI (o : Int) = (6 : Int32)) = False := oF 6 (by omega) (by omega)
  by_cases hi : i < c
  · simp only [o1, o2, o3, o4, o5, o6, itT, itF, k10, k00, bnd_some, gZ_0, gZ_1, cF hi]
    exact ⟨_, _, _, _, _, _, _, _, _, _, _, _, _, _, _, _, _, _, _, _, _, _, _, _, _, _, _, rfl, rfl, hS0, hF⟩
  · simp only [o1, o2, o3, o4, o5, o6, itT, itF, k10, k00, bnd_some, gZ_0, gZ_1, cT hi]
    exact ⟨_, _, _, _, _, _, _, _, _, _, _, _, _, _, _, _, _, _, _, _, _, _, _, _, _, _, _, rfl, rfl, hS0, hF⟩
end ZSC
