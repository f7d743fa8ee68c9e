section ZNM
variable {c : Nat} {X Y W : Nat → Int} {cnt : Int32} {x y w : Nat → Int32} {st : Nat → Int32}
theorem z_coord {m : Nat} {F : Nat → Pt} {xx yy d : Nat → Int32} (h : RPn m F (iI m) xx yy d) (hm : m ≤ 14) {k : Nat} (hk : k < m) {az : Int} (ha : 0 ≤ az ∧ az ≤ 1) : f_X0_coordinate_0 xx yy (iI k) (iI az) = some (iI (if az = 0 then (F k).1 else (F k).2.1)) := by
  obtain ⟨a1, a2, a3, a4⟩ := h.2 k hk
  unfold f_X0_coordinate_0
  rw [gIx_iI (by omega) (by omega) (by omega), gIx_iI (by omega) (by omega) (by omega), iI_clN (by omega), a1, a2]
  by_cases e : az = 0
  · rw [if_pos (by rw [e]; rfl), if_pos e]
  · rw [if_neg (by rw [q_0, iI_eq] <;> omega), if_neg e]
theorem z_comdiv {m : Nat} {F : Nat → Pt} {xx yy d : Nat → Int32} (h : RPn m F (iI m) xx yy d) (hm : m ≤ 14) {k : Nat} (hk : k < m) {az : Int} (ha : 0 ≤ az ∧ az ≤ 1) (hp : 0 ≤ (F k).1 ∧ 0 ≤ (F k).2.1) : f_X0_commonDivisor_0 d xx yy (iI k) (iI az) = some (iI ((Nat.gcd (if az = 0 then (F k).1 else (F k).2.1).toNat (F k).2.2.toNat : Nat) : Int)) := by
  obtain ⟨a1, a2, a3, ⟨b4, b5⟩, ⟨b6, b7⟩, b8, b9⟩ := h.2 k hk
  unfold f_X0_commonDivisor_0
  rw [gIx_iI (by omega) (by omega) (by omega), nm_eq, z_coord h hm hk ha, bnd_some, iI_clN (by omega), a3]
  have hv : 0 ≤ (if az = 0 then (F k).1 else (F k).2.1) ∧ (if az = 0 then (F k).1 else (F k).2.1) ≤ 96000 := by
    split <;> omega
  have e := z_cd d xx yy (F k).2.2.toNat (if az = 0 then (F k).1 else (F k).2.1).toNat (by omega) (by omega) (by omega)
  rw [Int.toNat_of_nonneg (by omega), Int.toNat_of_nonneg hv.1] at e
  exact e
theorem sortF_pos {i m k : Nat} {f : Nat → Pt} (h : CO (LC X Y W c i) m f) (hk : k < m) : 0 < (sortF m f k).2.2 ∧ 0 ≤ (sortF m f k).1 ∧ 0 ≤ (sortF m f k).2.1 := by
  obtain ⟨h0, hin, -⟩ := (GP_rx (CO_gp h) (sortF_ok (CO_gp h)).1).1 k hk
  have := inn_pos hin (List.mem_append_right _ (by simp [sqC])) (List.mem_append_right _ (by simp [sqC]))
  exact ⟨h0, this.1, this.2⟩
theorem sortF_posM {i m k : Nat} {f : Nat → Pt} (h : CO (LMd X Y W c i) m f) (hk : k < m) : 0 < (sortF m f k).2.2 ∧ 0 ≤ (sortF m f k).1 ∧ 0 ≤ (sortF m f k).2.1 := by
  obtain ⟨h0, hin, -⟩ := (GP_rx (CO_gp h) (sortF_ok (CO_gp h)).1).1 k hk
  have := inn_pos hin (List.mem_append_left _ (by simp [sqM])) (List.mem_append_left _ (by simp [sqM]))
  exact ⟨h0, this.1, this.2⟩
/-- the class's answer: numerator (v = 1) or denominator (v = 0) -/
theorem z_cnum {m : Nat} {F : Nat → Pt} {xx yy d : Nat → Int32} (h : RPn m F (iI m) xx yy d) (hm : m ≤ 14) {k : Nat} (hk : k < m) {az : Int} (ha : 0 ≤ az ∧ az ≤ 1) (hp : 0 ≤ (F k).1 ∧ 0 ≤ (F k).2.1) :
    ∃ (V g : Int32), f_X0_coordinate_0 xx yy (iI k) (iI az) = some V ∧ f_X0_commonDivisor_0 d xx yy (iI k) (iI az) = some g ∧ ¬ g = 0 ∧ V / g = iI ((lowV (F k) az : Nat) : Int) ∧ d (iI k).toNatClampNeg / g = iI ((lowD (F k) az : Nat) : Int) := by
  refine ⟨_, _, z_coord h hm hk ha, z_comdiv h hm hk ha hp, ?_⟩
  obtain ⟨a1, a2, a3, ⟨b4, b5⟩, ⟨b6, b7⟩, b8, b9⟩ := h.2 k hk
  have hv : 0 ≤ (if az = 0 then (F k).1 else (F k).2.1) ∧ (if az = 0 then (F k).1 else (F k).2.1) ≤ 96000 := by
    split <;> omega
  rw [iI_clN (by omega), a3]
  unfold lowV lowD
  generalize (if az = 0 then (F k).1 else (F k).2.1) = V at *
  have gp : 0 < Nat.gcd V.toNat (F k).2.2.toNat := Nat.gcd_pos_of_pos_right _ (by omega)
  have gl : Nat.gcd V.toNat (F k).2.2.toNat ≤ (F k).2.2.toNat := Nat.gcd_le_right _ (by omega)
  refine ⟨by rw [q_0, iI_eq] <;> omega, ?_, ?_⟩
  · rw [iI_div (by omega) (by omega) (by omega) (by omega), ← tdiv_nat, Int.toNat_of_nonneg hv.1]
  · rw [iI_div (by omega) (by omega) (by omega) (by omega), ← tdiv_nat, Int.toNat_of_nonneg (show 0 ≤ (F k).2.2 by omega)]
/-- both answers, as the invariant has them -/
theorem z_np (hR : RS c X Y W cnt x y w) (hM : RM c X Y W st) (hB : BD c X Y W) (t1 t2 t3 t4 t5 : Int32) (t6 t7 t8 t9 t10 t11 : Nat → Int32) (s1 s2 : Int32) (sa sb sc : Nat → Int32) (sx sd sy : Nat → Int64) (p k a : Int32) :
    ∃ (r n1 n2 n3 n4 n5 : Int32) (n6 n7 n8 n9 n10 n11 : Nat → Int32), f_X5_problemWithCorner_0 cnt x y w t1 t2 t3 t4 t5 t6 t7 t8 t9 t10 t11 p k a = some (r, n1, n2, n3, n4, n5, n6, n7, n8, n9, n10, n11) ∧
    ∀ v : Int32, ∃ (r' m1 m2 : Int32) (m3 m4 m5 : Nat → Int32) (m6 m7 m8 : Nat → Int64), f_X6_cornerPart_0 st s1 s2 sa sb sc sx sd sy p k a v = some (r', m1, m2, m3, m4, m5, m6, m7, m8) ∧
      ((¬ r = 0 ∧ r' = r) ∨ (r = 0 ∧ (∃ kn : Nat, k = iI kn ∧ kn < 14) ∧ ∃ V g : Int32, f_X0_coordinate_0 n10 n11 k a = some V ∧ f_X0_commonDivisor_0 n9 n10 n11 k a = some g ∧ ¬ g = 0 ∧ r' = if v = 0 then n9 k.toNatClampNeg / g else V / g)) := by
  obtain ⟨r, n1, n2, n3, n4, n5, n6, n7, n8, n9, n10, n11, e1, h1⟩ := z_prob hR hB t1 t2 t3 t4 t5 t6 t7 t8 t9 t10 t11 p k a
  refine ⟨r, n1, n2, n3, n4, n5, n6, n7, n8, n9, n10, n11, e1, fun v => ?_⟩
  obtain ⟨r', m1, m2, m3, m4, m5, m6, m7, m8, e2, h2⟩ := z_mpart hM hB s1 s2 sa sb sc sx sd sy p k a v
  refine ⟨r', m1, m2, m3, m4, m5, m6, m7, m8, e2, ?_⟩
  have hc := hB.1
  have pin : ∀ i : Nat, i < c → 0 ≤ (iI (i : Nat)).toInt ∧ (iI (i : Nat)).toInt < c := by
    intro i hi
    rw [iI_toInt (by omega) (by omega)]
    omega
  rcases h1 with ⟨rfl, hp⟩ | ⟨i, m, f, hi, rfl, hf, hm, h1⟩
  · rcases h2 with ⟨rfl, -⟩ | ⟨j, m', g, hj, rfl, -, -⟩
    · exact Or.inl ⟨by decide, rfl⟩
    · exact absurd (pin j hj) hp
  · rcases h2 with ⟨rfl, hp⟩ | ⟨j, m', g, hj, ej, hg, h2⟩
    · exact absurd (pin i hi) hp
    · have eij : i = j := by
        rw [iI_eq (by omega) (by omega) (by omega) (by omega)] at ej
        omega
      subst eij
      obtain ⟨em, hs⟩ := CO_same hf hg
      subst em
      rcases h1 with ⟨rfl, hk⟩ | ⟨hk, h1⟩
      · rcases h2 with ⟨rfl, -⟩ | ⟨hk2, -⟩
        · exact Or.inl ⟨by decide, rfl⟩
        · exact absurd hk2 hk
      · rcases h2 with ⟨rfl, hk2⟩ | ⟨-, h2⟩
        · exact absurd hk hk2
        · rcases h1 with ⟨rfl, ha⟩ | ⟨rfl, ha, hq⟩
          · rcases h2 with ⟨rfl, -⟩ | ⟨-, ha2⟩
            · exact Or.inl ⟨by decide, rfl⟩
            · exact absurd ha2 ha
          · rcases h2 with ⟨rfl, ha2⟩ | ⟨rfl, -⟩
            · exact absurd ha ha2
            · right
              obtain ⟨kz, k1, k2, rfl⟩ := i_ex k
              obtain ⟨az, a1, a2, rfl⟩ := i_ex a
              rw [iI_toInt k1 k2] at hk ⊢
              rw [iI_toInt a1 a2] at ha ⊢
              have hm3 : 3 ≤ m := by
                rcases Nat.lt_or_ge m 3 with q | q
                · rw [show pc3 m = 0 from if_neg (by omega)] at hk
                  omega
                · exact q
              rw [show pc3 m = m from if_pos hm3] at hk
              obtain ⟨kn, rfl⟩ : ∃ kn : Nat, kz = kn := ⟨kz.toNat, by omega⟩
              have hkn : kn < m := by omega
              have p1 := sortF_pos hf hkn
              have p2 := sortF_posM hg hkn
              obtain ⟨V, g0, w1, w2, w3, w4, w5⟩ := z_cnum hq hm hkn ha p1.2
              obtain ⟨l1, l2⟩ := low_eqv p1.1 p2.1 p1.2 p2.2 (hs kn hkn) az
              refine ⟨rfl, ⟨kn, rfl, by omega⟩, V, g0, w1, w2, w3, ?_⟩
              rw [w4, w5, Int.toNat_natCast, ← l1, ← l2]
              by_cases hv : v = 0
              · rw [if_pos hv, if_pos hv]
              · rw [if_neg hv, if_neg hv]
theorem o15 {Inv : InvT} (H : HS Inv) : op_15 Inv := by
  intro _ _ _ _ _ _ _ _ _ _ _ _ _ _ _ _ _ st _ _ _ _ _ _ _ _ k0 k1 k2 k3 k4 k5 k6 k7 k8 k9 k10 n0 n1 n2 n3 n4 n5 n6 n7 n8 p0 p1 p2 hI
  obtain ⟨c, X, Y, W, hB, hR, hM⟩ := H _ _ _ _ _ _ _ _ _ _ _ _ _ _ _ _ _ _ _ _ _ _ _ _ _ _ hI
  unfold f_X5_cornerNumerator_0 f_X6_cornerNumerator_0
  obtain ⟨r, u1, u2, u3, u4, u5, u6, u7, u8, u9, u10, u11, e1, h1⟩ := z_np hR hM hB k0 k1 k2 k3 k4 k5 k6 k7 k8 k9 k10 n1 n2 n3 n4 n5 n6 n7 n8 p0 p1 p2
  obtain ⟨r', m1, m2, m3, m4, m5, m6, m7, m8, e2, h2⟩ := h1 1
  rw [e1, bnd12_some, e2, bnd9_some]
  rcases h2 with ⟨hr, rfl⟩ | ⟨rfl, ⟨kn, rfl, hk⟩, V, g, w1, w2, w3, rfl⟩
  · rw [if_neg hr]
    exact ⟨_, _, _, _, _, _, _, _, _, _, _, _, _, _, _, _, _, _, _, _, _, rfl, rfl, hI⟩
  · rw [if_pos rfl, w1, bnd_some, w2, bnd_some, gNz_ne w3, if_neg (by decide)]
    exact ⟨_, _, _, _, _, _, _, _, _, _, _, _, _, _, _, _, _, _, _, _, _, rfl, rfl, hI⟩
theorem o16 {Inv : InvT} (H : HS Inv) : op_16 Inv := by
  intro _ _ _ _ _ _ _ _ _ _ _ _ _ _ _ _ _ st _ _ _ _ _ _ _ _ k0 k1 k2 k3 k4 k5 k6 k7 k8 k9 k10 n0 n1 n2 n3 n4 n5 n6 n7 n8 p0 p1 p2 hI
  obtain ⟨c, X, Y, W, hB, hR, hM⟩ := H _ _ _ _ _ _ _ _ _ _ _ _ _ _ _ _ _ _ _ _ _ _ _ _ _ _ hI
  unfold f_X5_cornerDenominator_0 f_X6_cornerDenominator_0
  obtain ⟨r, u1, u2, u3, u4, u5, u6, u7, u8, u9, u10, u11, e1, h1⟩ := z_np hR hM hB k0 k1 k2 k3 k4 k5 k6 k7 k8 k9 k10 n1 n2 n3 n4 n5 n6 n7 n8 p0 p1 p2
  obtain ⟨r', m1, m2, m3, m4, m5, m6, m7, m8, e2, h2⟩ := h1 0
  rw [e1, bnd12_some, e2, bnd9_some]
  rcases h2 with ⟨hr, rfl⟩ | ⟨rfl, ⟨kn, rfl, hk⟩, V, g, w1, w2, w3, rfl⟩
  · rw [if_neg hr]
    exact ⟨_, _, _, _, _, _, _, _, _, _, _, _, _, _, _, _, _, _, _, _, _, rfl, rfl, hI⟩
  · rw [if_pos rfl, gIx_iI (by omega) (by omega) (by omega), w2, bnd_some, gNz_ne w3, if_pos rfl]
    exact ⟨_, _, _, _, _, _, _, _, _, _, _, _, _, _, _, _, _, _, _, _, _, rfl, rfl, hI⟩
end ZNM
