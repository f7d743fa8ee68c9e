/-! ===== the parts of corners ===== -/
theorem tdiv_nat (a b : Nat) : (a : Int).tdiv (b : Int) = ((a / b : Nat) : Int) := rfl
theorem tmod_nat (a b : Nat) : (a : Int).tmod (b : Int) = ((a % b : Nat) : Int) := rfl
theorem gcd_step (a b : Nat) : Nat.gcd a b = Nat.gcd b (a % b) := by rw [Nat.gcd_comm a b, Nat.gcd_rec b a, Nat.gcd_comm]
theorem half_step {a b k : Nat} (h : a * b < 2 ^ (k + 1)) (hba : b ≤ a) (hb : 0 < b) : b * (a % b) < 2 ^ k := by
  have h1 : a % b < b := Nat.mod_lt _ hb
  have h2 : 2 * (a % b) ≤ a := by
    have := Nat.div_add_mod a b
    have h3 : 1 ≤ a / b := (Nat.one_le_div_iff hb).mpr hba
    have h4 : b * 1 ≤ b * (a / b) := Nat.mul_le_mul_left _ h3
    omega
  have h5 : 2 * (b * (a % b)) ≤ a * b := by
    have := Nat.mul_le_mul_left b h2
    rw [Nat.mul_comm a b, ← Nat.mul_assoc, Nat.mul_comm 2 b, Nat.mul_assoc]
    exact this
  rw [Nat.pow_succ] at h
  omega
theorem z_cd_loop (dd xx yy : Nat → Int32) : ∀ (k t n a b : Nat), a * b < 2 ^ k → b ≤ a → 0 < a → a < 1000000 → t + k < 50 → k < n → f_X0_commonDivisor_18 dd xx yy n (iI a) (iI b) (iI t) = some (iI (Nat.gcd a b : Nat)) := by
  intro k
  induction k with
  | zero =>
    intro t n a b hab hba ha hlt ht hn
    obtain ⟨n, rfl⟩ : ∃ k, n = k + 1 := ⟨n - 1, by omega⟩
    have hb : b = 0 := by
      rcases Nat.eq_zero_or_pos b with q | q
      · exact q
      · have := Nat.mul_le_mul ha q
        omega
    subst hb
    show g_X0_commonDivisor_18 dd xx yy (f_X0_commonDivisor_18 dd xx yy n) (iI a) (iI ((0 : Nat) : Int)) (iI t) = _
    unfold g_X0_commonDivisor_18 f_X0_commonDivisor_49
    rw [if_neg (by rw [q_50, iI_le] <;> omega), if_pos (show iI ((0 : Nat) : Int) = 0 from rfl), nm_eq, q_1, mxI_iI (by omega) (by omega) (by omega) (by omega), Nat.gcd_zero_right]
    congr 2
    omega
  | succ k ih =>
    intro t n a b hab hba ha hlt ht hn
    obtain ⟨n, rfl⟩ : ∃ k, n = k + 1 := ⟨n - 1, by omega⟩
    show g_X0_commonDivisor_18 dd xx yy (f_X0_commonDivisor_18 dd xx yy n) (iI a) (iI b) (iI t) = _
    unfold g_X0_commonDivisor_18 f_X0_commonDivisor_49
    rw [if_neg (by rw [q_50, iI_le] <;> omega)]
    by_cases hb : b = 0
    · subst hb
      rw [if_pos (show iI ((0 : Nat) : Int) = 0 from rfl), nm_eq, q_1, mxI_iI (by omega) (by omega) (by omega) (by omega), Nat.gcd_zero_right]
      congr 2
      omega
    · rw [if_neg (by rw [q_0, iI_eq] <;> omega), gNz_ne (by rw [q_0, iI_eq] <;> omega), nm_eq, iI_rem (by omega) (by omega) (by omega) (by omega), tmod_nat, iI_p1, gcd_step a b]
      have hm : a % b < b := Nat.mod_lt _ (by omega)
      exact ih (t + 1) n b (a % b) (half_step hab hba (by omega)) (by omega) (by omega) (by omega) (by omega) (by omega)
theorem z_cd (dd xx yy : Nat → Int32) (d v : Nat) (hd : 0 < d) (hd2 : d ≤ 3200) (hv : v ≤ 96000) : f_X0_commonDivisor_18 dd xx yy fuel (iI d) (iI v) 0 = some (iI (Nat.gcd v d : Nat)) := by
  by_cases h : v ≤ d
  · rw [Nat.gcd_comm]
    have hp : d * v ≤ 3200 * 3200 := Nat.mul_le_mul hd2 (by omega)
    exact z_cd_loop dd xx yy 30 0 fuel d v (by have : (2 : Nat) ^ 30 = 1073741824 := by rfl
                                               omega) h hd (by omega) (by omega) (by unfold fuel; omega)
  · have hp : v * d ≤ 96000 * 3200 := Nat.mul_le_mul hv hd2
    obtain ⟨n, hn⟩ : ∃ n, fuel = n + 1 := ⟨fuel - 1, by unfold fuel; omega⟩
    have hn2 : 40 < n := by unfold fuel at hn; omega
    rw [hn]
    have key : ∀ z, f_X0_commonDivisor_18 dd xx yy (n + 1) (iI d) (iI v) z = g_X0_commonDivisor_18 dd xx yy (f_X0_commonDivisor_18 dd xx yy n) (iI d) (iI v) z := fun _ => rfl
    rw [key]
    unfold g_X0_commonDivisor_18
    rw [if_neg (by decide), if_neg (by rw [q_0, iI_eq] <;> omega), gNz_ne (by rw [q_0, iI_eq] <;> omega), nm_eq, iI_rem (by omega) (by omega) (by omega) (by omega), tmod_nat, Nat.mod_eq_of_lt (by omega)]
    exact z_cd_loop dd xx yy 30 1 n v d (by have : (2 : Nat) ^ 30 = 1073741824 := by rfl
                                            omega) (by omega) (by omega) (by omega) (by omega) (by omega)
theorem z_dv_loop : ∀ (k n a b : Nat), a * b < 2 ^ k → b ≤ a → 0 < a → a < 1000000 → k < n → f_X6_divisor_6 n (lI a) (lI b) = some (lI (Nat.gcd a b : Nat)) := by
  intro k
  induction k with
  | zero =>
    intro n a b hab hba ha hlt hn
    obtain ⟨n, rfl⟩ : ∃ k, n = k + 1 := ⟨n - 1, by omega⟩
    have hb : b = 0 := by
      rcases Nat.eq_zero_or_pos b with q | q
      · exact q
      · have := Nat.mul_le_mul ha q
        omega
    subst hb
    show g_X6_divisor_6 (f_X6_divisor_6 n) (lI a) (lI ((0 : Nat) : Int)) = _
    unfold g_X6_divisor_6
    rw [if_pos (by rw [ql_0, cmp_le] <;> omega), Nat.gcd_zero_right]
  | succ k ih =>
    intro n a b hab hba ha hlt hn
    obtain ⟨n, rfl⟩ : ∃ k, n = k + 1 := ⟨n - 1, by omega⟩
    show g_X6_divisor_6 (f_X6_divisor_6 n) (lI a) (lI b) = _
    unfold g_X6_divisor_6
    by_cases h : b = 0
    · subst h
      rw [if_pos (by rw [ql_0, cmp_le] <;> omega), Nat.gcd_zero_right]
    · rw [if_neg (by rw [ql_0, cmp_le] <;> omega), gNzl_ne (by rw [ql_0, lI_eq] <;> omega), nm_eq, lI_rem (by omega) (by omega) (by omega) (by omega), tmod_nat, gcd_step a b]
      have hm : a % b < b := Nat.mod_lt _ (by omega)
      exact ih n b (a % b) (half_step hab hba (by omega)) (by omega) (by omega) (by omega) (by omega)
theorem z_dv (d v : Nat) (hd : 0 < d) (hd2 : d ≤ 3200) (hv : v ≤ 96000) : f_X6_divisor_0 (lI v) (lI d) = some (lI (Nat.gcd v d : Nat)) := by
  unfold f_X6_divisor_0
  have hp : v * d ≤ 96000 * 3200 := Nat.mul_le_mul hv hd2
  have h30 : (2 : Nat) ^ 30 = 1073741824 := by rfl
  by_cases h : d ≤ v
  · exact z_dv_loop 30 fuel v d (by omega) h (by omega) (by omega) (by unfold fuel; omega)
  · obtain ⟨n, hn⟩ : ∃ n, fuel = n + 1 := ⟨fuel - 1, by unfold fuel; omega⟩
    have hn2 : 40 < n := by unfold fuel at hn; omega
    rw [hn]
    show g_X6_divisor_6 (f_X6_divisor_6 n) (lI v) (lI d) = _
    unfold g_X6_divisor_6
    rw [if_neg (by rw [ql_0, cmp_le] <;> omega), gNzl_ne (by rw [ql_0, lI_eq] <;> omega), nm_eq, lI_rem (by omega) (by omega) (by omega) (by omega), tmod_nat, Nat.mod_eq_of_lt (by omega), Nat.gcd_comm]
    rw [Nat.mul_comm] at hp
    exact z_dv_loop 30 n d v (by omega) (by omega) (by omega) (by omega) (by omega)
theorem low_same {v d v' d' : Nat} (hd : 0 < d) (hd' : 0 < d') (h : v * d' = v' * d) : v / Nat.gcd v d = v' / Nat.gcd v' d' ∧ d / Nat.gcd v d = d' / Nat.gcd v' d' := by
  have g1 : 0 < Nat.gcd v d := Nat.gcd_pos_of_pos_right _ hd
  have g2 : 0 < Nat.gcd v' d' := Nat.gcd_pos_of_pos_right _ hd'
  have c1 : Nat.Coprime (v / Nat.gcd v d) (d / Nat.gcd v d) := Nat.gcd_div_gcd_div_gcd_of_pos_right hd
  have c2 : Nat.Coprime (v' / Nat.gcd v' d') (d' / Nat.gcd v' d') := Nat.gcd_div_gcd_div_gcd_of_pos_right hd'
  have e1 := Nat.mul_div_cancel' (Nat.gcd_dvd_left v d)
  have e2 := Nat.mul_div_cancel' (Nat.gcd_dvd_right v d)
  have e3 := Nat.mul_div_cancel' (Nat.gcd_dvd_left v' d')
  have e4 := Nat.mul_div_cancel' (Nat.gcd_dvd_right v' d')
  generalize Nat.gcd v d = g at *
  generalize Nat.gcd v' d' = g' at *
  generalize v / g = a at *
  generalize d / g = b at *
  generalize v' / g' = a' at *
  generalize d' / g' = b' at *
  have e : a * b' = a' * b := by
    have : (g * g') * (a * b') = (g * g') * (a' * b) := by
      rw [← e1, ← e2, ← e3, ← e4] at h
      clear e1 e2 e3 e4 c1 c2
      grind
    exact Nat.eq_of_mul_eq_mul_left (Nat.mul_pos g1 g2) this
  constructor
  · refine Nat.dvd_antisymm ?_ ?_
    · exact c1.dvd_of_dvd_mul_right (e ▸ Nat.dvd_mul_right a b')
    · exact c2.dvd_of_dvd_mul_right (e.symm ▸ Nat.dvd_mul_right a' b)
  · refine Nat.dvd_antisymm ?_ ?_
    · exact c1.symm.dvd_of_dvd_mul_left (e ▸ Nat.dvd_mul_left b a')
    · exact c2.symm.dvd_of_dvd_mul_left (e.symm ▸ Nat.dvd_mul_left b' a)
section ZPT
variable {c : Nat} {X Y W : Nat → Int} {cnt : Int32} {x y w : Nat → Int32} {st : Nat → Int32}
theorem inn_pos {L : List Ln} {P : Pt} (h : inn L P) (h1 : (-1, 0, 0) ∈ L) (h2 : (0, -1, 0) ∈ L) : 0 ≤ P.1 ∧ 0 ≤ P.2.1 := by
  have a := h _ h1
  have b := h _ h2
  simp only [ev] at a b
  omega
/-- what a corner's coordinate and its denominator are, in lowest terms -/
def lowV (P : Pt) (ax : Int) : Nat := (if ax = 0 then P.1 else P.2.1).toNat / Nat.gcd (if ax = 0 then P.1 else P.2.1).toNat P.2.2.toNat
def lowD (P : Pt) (ax : Int) : Nat := P.2.2.toNat / Nat.gcd (if ax = 0 then P.1 else P.2.1).toNat P.2.2.toNat
theorem toNat_mul {a b a' b' : Int} (h1 : 0 ≤ a) (h2 : 0 ≤ b) (h3 : 0 ≤ a') (h4 : 0 ≤ b') (h : a * b = a' * b') : a.toNat * b.toNat = a'.toNat * b'.toNat := by
  have : ((a.toNat * b.toNat : Nat) : Int) = ((a'.toNat * b'.toNat : Nat) : Int) := by
    rw [Int.natCast_mul, Int.natCast_mul, Int.toNat_of_nonneg h1, Int.toNat_of_nonneg h2, Int.toNat_of_nonneg h3, Int.toNat_of_nonneg h4]
    exact h
  exact Int.ofNat_inj.mp this
theorem low_eqv {P Q : Pt} (hP : 0 < P.2.2) (hQ : 0 < Q.2.2) (p : 0 ≤ P.1 ∧ 0 ≤ P.2.1) (q : 0 ≤ Q.1 ∧ 0 ≤ Q.2.1) (e : eqv P Q) (ax : Int) : lowV P ax = lowV Q ax ∧ lowD P ax = lowD Q ax := by
  unfold lowV lowD
  by_cases h : ax = 0
  · simp only [h, if_true]
    exact low_same (by omega) (by omega) (toNat_mul p.1 (by omega) q.1 (by omega) e.1)
  · simp only [h, if_false]
    exact low_same (by omega) (by omega) (toNat_mul p.2 (by omega) q.2 (by omega) e.2)
/-- the class's way to a corner: 0 with the corners in order, or an error -/
theorem z_prob (hR : RS c X Y W cnt x y w) (hB : BD c X Y W) (t1 t2 t3 t4 t5 : Int32) (t6 t7 t8 t9 t10 t11 : Nat → Int32) (p k a : Int32) :
    ∃ (r n1 n2 n3 n4 n5 : Int32) (n6 n7 n8 n9 n10 n11 : Nat → Int32), f_X5_problemWithCorner_0 cnt x y w t1 t2 t3 t4 t5 t6 t7 t8 t9 t10 t11 p k a = some (r, n1, n2, n3, n4, n5, n6, n7, n8, n9, n10, n11) ∧
      ((r = -1 ∧ ¬ (0 ≤ p.toInt ∧ p.toInt < c)) ∨ ∃ i m f, i < c ∧ p = iI (i : Nat) ∧ CO (LC X Y W c i) m f ∧ m ≤ 14 ∧ ((r = -1 ∧ ¬ (0 ≤ k.toInt ∧ k.toInt < (pc3 m : Nat))) ∨ ((0 ≤ k.toInt ∧ k.toInt < (pc3 m : Nat)) ∧ ((r = -2 ∧ ¬ (0 ≤ a.toInt ∧ a.toInt ≤ 1)) ∨ (r = 0 ∧ (0 ≤ a.toInt ∧ a.toInt ≤ 1) ∧ RPn m (sortF m f) (iI m) n10 n11 n9))))) := by
  have hc := hB.1
  have ec := hR.1
  subst ec
  unfold f_X5_problemWithCorner_0
  rw [z_has hc, bnd_some]
  by_cases hp : 0 ≤ p.toInt ∧ p.toInt < c
  · rw [if_pos hp, if_neg (by decide)]
    obtain ⟨i, hi, rfl⟩ := p_nat hp
    obtain ⟨m, f, u1, u2, u3, u4, u5, u6, u7, u8, u9, e1, h1, h2, h3, h4⟩ := z_cutOut hR hB hi t1 t2 t3 t4 t5 t6 t7 t8 t9 t10 t11
    rw [e1, bnd11_some, z_pc m h4, bnd_some]
    obtain ⟨kz, k1, k2, rfl⟩ := i_ex k
    obtain ⟨az, a1, a2, rfl⟩ := i_ex a
    rw [iI_toInt k1 k2, iI_toInt a1 a2]
    have pb : pc3 m ≤ 14 := by unfold pc3; split <;> omega
    by_cases hk : kz < 0
    · rw [if_pos (by rw [q_0, iI_lt] <;> omega)]
      exact ⟨_, _, _, _, _, _, _, _, _, _, _, _, rfl, Or.inr ⟨i, m, f, hi, rfl, h3, h4, Or.inl ⟨rfl, by omega⟩⟩⟩
    · rw [if_neg (by rw [q_0, iI_lt] <;> omega)]
      by_cases hk2 : kz < (pc3 m : Nat)
      · rw [if_pos (by rw [iI_lt] <;> omega)]
        have hm3 : 3 ≤ m := by
          rcases Nat.lt_or_ge m 3 with q | q
          · rw [show pc3 m = 0 from if_neg (by omega)] at hk2
            omega
          · exact q
        obtain ⟨x', y', d', e2, h5⟩ := z_inOrder h2 h4 hm3
        unfold f_X5_problemWithCorner_54
        rw [e2, bnd3_some]
        by_cases ha : az = 0
        · rw [if_pos (by rw [ha]; rfl)]
          exact ⟨_, _, _, _, _, _, _, _, _, _, _, _, rfl, Or.inr ⟨i, m, f, hi, rfl, h3, h4, Or.inr ⟨⟨by omega, hk2⟩, Or.inr ⟨rfl, by omega, h5⟩⟩⟩⟩
        · rw [if_neg (by rw [q_0, iI_eq] <;> omega)]
          by_cases ha2 : az = 1
          · rw [if_pos (by rw [ha2]; rfl)]
            exact ⟨_, _, _, _, _, _, _, _, _, _, _, _, rfl, Or.inr ⟨i, m, f, hi, rfl, h3, h4, Or.inr ⟨⟨by omega, hk2⟩, Or.inr ⟨rfl, by omega, h5⟩⟩⟩⟩
          · rw [if_neg (by rw [q_1, iI_eq] <;> omega)]
            exact ⟨_, _, _, _, _, _, _, _, _, _, _, _, rfl, Or.inr ⟨i, m, f, hi, rfl, h3, h4, Or.inr ⟨⟨by omega, hk2⟩, Or.inl ⟨rfl, by omega⟩⟩⟩⟩
      · rw [if_neg (by rw [iI_lt] <;> omega)]
        exact ⟨_, _, _, _, _, _, _, _, _, _, _, _, rfl, Or.inr ⟨i, m, f, hi, rfl, h3, h4, Or.inl ⟨rfl, by omega⟩⟩⟩
  · rw [if_neg hp, if_pos rfl]
    exact ⟨_, _, _, _, _, _, _, _, _, _, _, _, rfl, Or.inl ⟨rfl, hp⟩⟩
/-- the reference's way to a corner -/
theorem z_mpart (hM : RM c X Y W st) (hB : BD c X Y W) (t1 t2 : Int32) (ta tb tc : Nat → Int32) (tx td ty : Nat → Int64) (p k a v : Int32) :
    ∃ (r n1 n2 : Int32) (n3 n4 n5 : Nat → Int32) (n6 n7 n8 : Nat → Int64), f_X6_cornerPart_0 st t1 t2 ta tb tc tx td ty p k a v = some (r, n1, n2, n3, n4, n5, n6, n7, n8) ∧
      ((r = -1 ∧ ¬ (0 ≤ p.toInt ∧ p.toInt < c)) ∨ ∃ i m f, i < c ∧ p = iI (i : Nat) ∧ CO (LMd X Y W c i) m f ∧ ((r = -1 ∧ ¬ (0 ≤ k.toInt ∧ k.toInt < (pc3 m : Nat))) ∨ ((0 ≤ k.toInt ∧ k.toInt < (pc3 m : Nat)) ∧ ((r = -2 ∧ ¬ (0 ≤ a.toInt ∧ a.toInt ≤ 1)) ∨ (r = iI ((if v = 0 then lowD (sortF m f k.toInt.toNat) a.toInt else lowV (sortF m f k.toInt.toNat) a.toInt : Nat) : Int) ∧ (0 ≤ a.toInt ∧ a.toInt ≤ 1)))))) := by
  have hc := hB.1
  unfold f_X6_cornerPart_0
  rw [z_nosite hM hc, bnd_some]
  by_cases hp : 0 ≤ p.toInt ∧ p.toInt < c
  · rw [if_pos hp, if_pos rfl]
    obtain ⟨i, hi, rfl⟩ := p_nat hp
    obtain ⟨m, g, v1, v2, v3, v4, v5, v6, v7, e2, h5, h6, h7⟩ := z_polygon hM hB hi t1 t2 ta tb tc tx td ty
    rw [e2, bnd9_some]
    obtain ⟨kz, k1, k2, rfl⟩ := i_ex k
    obtain ⟨az, a1, a2, rfl⟩ := i_ex a
    rw [iI_toInt k1 k2, iI_toInt a1 a2]
    have pb : pc3 m ≤ 14 := by unfold pc3; split <;> omega
    rw [show iI ((pc3 m : Nat) : Int) - (1 : Int32) = iI (((pc3 m : Nat) : Int) - 1) by rw [q_1, iI_sub], iI_l (z := kz) k1 k2, iI_l (z := ((pc3 m : Nat) : Int) - 1) (by omega) (by omega), iI_l (z := az) a1 a2, ql_0, ql_1, z_in _ _ _ (by omega) (by omega) (by omega) (by omega) (by omega) (by omega), bnd_some]
    by_cases hk : 0 ≤ kz ∧ kz < ((pc3 m : Nat) : Int)
    · rw [if_pos (show (0 : Int) ≤ kz ∧ kz ≤ ((pc3 m : Nat) : Int) - 1 by omega), if_neg (show ¬ (1 : Int32) = 0 by decide), z_in _ _ _ (by omega) (by omega) (by omega) (by omega) (by omega) (by omega), bnd_some]
      have hm3 : 3 ≤ m := by
        rcases Nat.lt_or_ge m 3 with q | q
        · rw [show pc3 m = 0 from if_neg (by omega)] at hk
          omega
        · exact q
      have epc : pc3 m = m := if_pos hm3
      rw [epc] at hk
      obtain ⟨-, hr⟩ := h6 hm3
      obtain ⟨kn, rfl⟩ : ∃ kn : Nat, kz = kn := ⟨kz.toNat, by omega⟩
      obtain ⟨b1, b2, b3, ⟨b4, b5⟩, ⟨b6, b7⟩, b8, b9⟩ := hr kn (by omega)
      obtain ⟨-, hin, -⟩ := (GP_rx (CO_gp h5) (sortF_ok (CO_gp h5)).1).1 kn (by omega)
      obtain ⟨c1, c2⟩ := inn_pos hin (List.mem_append_left _ (by simp [sqM])) (List.mem_append_left _ (by simp [sqM]))
      by_cases ha : 0 ≤ az ∧ az ≤ 1
      · rw [if_pos ha, if_neg (show ¬ (1 : Int32) = 0 by decide), gIx_iI (by omega) (by omega) (by omega), gIx_iI (by omega) (by omega) (by omega), iI_clN (by omega), b1, b2]
        have fin : ∀ V : Int, 0 ≤ V → V ≤ 96000 → ∃ u, f_X6_cornerPart_63 st v1 (iI (pc3 m : Nat)) v2 v3 v4 v5 v6 v7 (iI (kn : Nat)) v (lI V) = some (iI ((if v = 0 then (sortF m g kn).2.2.toNat / Nat.gcd V.toNat (sortF m g kn).2.2.toNat else V.toNat / Nat.gcd V.toNat (sortF m g kn).2.2.toNat : Nat) : Int), u) := by
          intro V hV hV2
          unfold f_X6_cornerPart_63
          have dv := z_dv (sortF m g kn).2.2.toNat V.toNat (by omega) (by omega) (by omega)
          rw [show ((V.toNat : Nat) : Int) = V by omega, show (((sortF m g kn).2.2.toNat : Nat) : Int) = (sortF m g kn).2.2 by omega] at dv
          have gp : 0 < Nat.gcd V.toNat (sortF m g kn).2.2.toNat := Nat.gcd_pos_of_pos_right _ (by omega)
          have gl : Nat.gcd V.toNat (sortF m g kn).2.2.toNat ≤ (sortF m g kn).2.2.toNat := Nat.gcd_le_right _ (by omega)
          rw [gIx_iI (by omega) (by omega) (by omega), iI_clN (by omega), b3, dv, bnd_some, gNzl_ne (by rw [ql_0, lI_eq] <;> omega), gNzl_ne (by rw [ql_0, lI_eq] <;> omega), lI_div (by omega) (by omega) (by omega) (by omega), lI_div (by omega) (by omega) (by omega) (by omega), lI_i, lI_i]
          have t1 : (sortF m g kn).2.2.tdiv ((Nat.gcd V.toNat (sortF m g kn).2.2.toNat : Nat) : Int) = (((sortF m g kn).2.2.toNat / Nat.gcd V.toNat (sortF m g kn).2.2.toNat : Nat) : Int) := by
            rw [← tdiv_nat, show (((sortF m g kn).2.2.toNat : Nat) : Int) = (sortF m g kn).2.2 by omega]
          have t2 : V.tdiv ((Nat.gcd V.toNat (sortF m g kn).2.2.toNat : Nat) : Int) = ((V.toNat / Nat.gcd V.toNat (sortF m g kn).2.2.toNat : Nat) : Int) := by
            rw [← tdiv_nat, show ((V.toNat : Nat) : Int) = V by omega]
          rw [t1, t2]
          by_cases hv : v = 0
          · rw [if_pos hv, if_pos hv]; exact ⟨_, rfl⟩
          · rw [if_neg hv, if_neg hv]; exact ⟨_, rfl⟩
        by_cases ha0 : az = 0
        · rw [if_pos (by rw [ha0]; rfl)]
          obtain ⟨⟨u1, u2, u3, u4, u5, u6, u7, u8⟩, hu⟩ := fin (sortF m g kn).1 c1 b5
          rw [hu]
          refine ⟨_, _, _, _, _, _, _, _, _, rfl, Or.inr ⟨i, m, g, hi, rfl, h5, Or.inr ⟨by omega, Or.inr ⟨?_, ha⟩⟩⟩⟩
          unfold lowD lowV
          rw [if_pos ha0, Int.toNat_natCast]
        · rw [if_neg (by rw [q_0, iI_eq] <;> omega)]
          obtain ⟨⟨u1, u2, u3, u4, u5, u6, u7, u8⟩, hu⟩ := fin (sortF m g kn).2.1 c2 b7
          rw [hu]
          refine ⟨_, _, _, _, _, _, _, _, _, rfl, Or.inr ⟨i, m, g, hi, rfl, h5, Or.inr ⟨by omega, Or.inr ⟨?_, ha⟩⟩⟩⟩
          unfold lowD lowV
          rw [if_neg ha0, Int.toNat_natCast]
      · rw [if_neg ha, if_pos rfl]
        exact ⟨_, _, _, _, _, _, _, _, _, rfl, Or.inr ⟨i, m, g, hi, rfl, h5, Or.inr ⟨by omega, Or.inl ⟨rfl, ha⟩⟩⟩⟩
    · rw [if_neg (show ¬ ((0 : Int) ≤ kz ∧ kz ≤ ((pc3 m : Nat) : Int) - 1) by omega), if_pos rfl]
      exact ⟨_, _, _, _, _, _, _, _, _, rfl, Or.inr ⟨i, m, g, hi, rfl, h5, Or.inl ⟨rfl, hk⟩⟩⟩
  · rw [if_neg hp, if_neg (by decide)]
    exact ⟨_, _, _, _, _, _, _, _, _, rfl, Or.inl ⟨rfl, hp⟩⟩
end ZPT
