/-! ===== the polygons of both sides ===== -/
/-- how many corners a polygon has -/
abbrev pc3 (m : Nat) : Nat := if 3 ≤ m then m else 0
section ZPP
variable {c : Nat} {X Y W : Nat → Int} {cnt : Int32} {x y w : Nat → Int32} {st : Nat → Int32}
theorem z_in (a b d : Int) (a1 : -9223372036854775808 ≤ a) (a2 : a < 9223372036854775808) (b1 : -9223372036854775808 ≤ b) (b2 : b < 9223372036854775808) (d1 : -9223372036854775808 ≤ d) (d2 : d < 9223372036854775808) : f_X6_in_0 (lI a) (lI b) (lI d) = some (if b ≤ a ∧ a ≤ d then 1 else 0) := by
  unfold f_X6_in_0
  by_cases h1 : a < b
  · rw [if_pos (by rw [cmp_lt] <;> omega), if_neg (by omega)]
  · rw [if_neg (by rw [cmp_lt] <;> omega)]
    by_cases h2 : d < a
    · rw [if_pos (by rw [cmp_gt] <;> omega), if_neg (by omega)]
    · rw [if_neg (by rw [cmp_gt] <;> omega), if_pos (by omega)]
theorem z_nosite (hM : RM c X Y W st) (hc : c ≤ 10) (p : Int32) : f_X6_noSite_0 st p = some (if 0 ≤ p.toInt ∧ p.toInt < c then 0 else 1) := by
  obtain ⟨z, h1, h2, rfl⟩ := i_ex p
  unfold f_X6_noSite_0
  rw [show (0 : Int32).toNatClampNeg = 0 from rfl, hM.1, q_1, iI_sub, iI_l (by omega) (by omega), iI_l (by omega) (by omega), ql_0, z_in _ _ _ (by omega) (by omega) (by omega) (by omega) (by omega) (by omega), bnd_some, iI_toInt (by omega) (by omega)]
  by_cases h : 0 ≤ z ∧ z < (c : Int)
  · rw [if_pos (show (0 : Int) ≤ z ∧ z ≤ (c : Int) - 1 by omega), if_neg (by decide), if_pos h]
  · rw [if_neg (show ¬ ((0 : Int) ≤ z ∧ z ≤ (c : Int) - 1) by omega), if_pos rfl, if_neg h]
theorem z_polygon (hM : RM c X Y W st) (hB : BD c X Y W) {i : Nat} (hi : i < c) (t1 t2 : Int32) (a b d : Nat → Int32) (xx dd yy : Nat → Int64) :
    ∃ (m : Nat) (f : Nat → Pt) (n1 : Int32) (a' b' d' : Nat → Int32) (x' dd' y' : Nat → Int64), f_X6_polygon_0 st t1 t2 a b d xx dd yy (iI i) = some (iI (pc3 m : Nat), n1, iI (pc3 m : Nat), a', b', d', x', dd', y') ∧ CO (LMd X Y W c i) m f ∧ (3 ≤ m → RPm m (sortF m f) (iI m) x' y' dd') ∧ m ≤ 14 := by
  have hc : c ≤ 10 := hB.1
  unfold f_X6_polygon_0
  obtain ⟨a1, b1, d1, e1, h1⟩ := z_lay hM hc hi t1 a b d
  rw [e1, bnd4_some]
  have hlen := @LMd_len X Y W c i
  obtain ⟨m, f, x1, dd1, y1, e2, h2, h3, h4⟩ := z_find h1 (by omega) (LMd_b hB) t2 xx dd yy
  rw [e2, bnd4_some]
  by_cases h : 3 ≤ m
  · rw [if_pos (by rw [q_3, iI_le] <;> omega)]
    obtain ⟨x', y', d', e3, h5⟩ := z_mmn (c := m) (p0 := st) (pl' := iI ((LMd X Y W c i).length : Nat)) (a := a1) (b := b1) (cc := d1) (cnt := iI m) (by omega) (by omega) f (m - 1) 1 fuel x1 y1 dd1 (by omega) (by omega) (by unfold fuel; omega) (by rw [show mnF 1 f = f from rfl]; exact h2)
    rw [show max m 2 = m by omega] at h5
    rw [show (1 : Int32) = iI ((1 : Nat) : Int) from rfl, e3]
    have e : pc3 m = m := if_pos h
    refine ⟨m, f, _, _, _, _, _, _, _, by rw [e], h3, fun _ => h5, by omega⟩
  · rw [if_neg (by rw [q_3, iI_le] <;> omega)]
    have e : pc3 m = 0 := if_neg h
    refine ⟨m, f, iI ((LMd X Y W c i).length : Nat), a1, b1, d1, x1, dd1, y1, ?_, h3, fun q => absurd q h, by omega⟩
    rw [e]
    obtain ⟨n, hn⟩ : ∃ n, fuel = n + 1 := ⟨fuel - 1, by unfold fuel; omega⟩
    rw [hn]
    have k1 : ∀ u v a b d x dd y z, f_X6_polygon_25 st (n + 1) u v a b d x dd y z = g_X6_polygon_25 st (f_X6_polygon_25 st n) u v a b d x dd y z := fun _ _ _ _ _ _ _ _ _ => rfl
    have k2 : ∀ u v a b d x dd y z, f_X6_polygon_56 st (n + 1) u v a b d x dd y z = g_X6_polygon_56 st (f_X6_polygon_56 st n) u v a b d x dd y z := fun _ _ _ _ _ _ _ _ _ => rfl
    rw [k1]
    unfold g_X6_polygon_25
    rw [if_pos (by decide), hn, k2]
    unfold g_X6_polygon_56
    rw [if_pos (by decide)]
    rfl
theorem z_pc (m : Nat) (hm : m ≤ 14) : f_X0_polygonCorners_0 (iI m) = some (iI (pc3 m : Nat)) := by
  unfold f_X0_polygonCorners_0
  by_cases h : 3 ≤ m
  · rw [if_neg (by rw [q_3, iI_lt] <;> omega), show pc3 m = m from if_pos h]
  · rw [if_pos (by rw [q_3, iI_lt] <;> omega), show pc3 m = 0 from if_neg h]
    rfl
/-- both sides see the same corners of a site -/
theorem CO_same {i cC cM : Nat} {f g : Nat → Pt} (hf : CO (LC X Y W c i) cC f) (hg : CO (LMd X Y W c i) cM g) : cC = cM ∧ ∀ k, k < cC → eqv (sortF cC f k) (sortF cM g k) :=
  sort_same (CO_gp hf) (CO_gp hg) (CO_both hf hg).1 (CO_both hf hg).2
/-- how many corners the cell of a site has -/
def NC (X Y W : Nat → Int) (c i m : Nat) : Prop := ∃ f, CO (LMd X Y W c i) m f
theorem NC_un {i m m' : Nat} (h : NC X Y W c i m) (h' : NC X Y W c i m') (hB : ∃ cnt x y w, RS c X Y W cnt x y w) (hb : BD c X Y W) (hi : i < c) : m = m' := by
  obtain ⟨cnt, x, y, w, hR⟩ := hB
  obtain ⟨c', f, mX, mY, mD, a, b, cc, d, xx, yy, -, -, -, h4, -⟩ := z_cutOut hR hb hi 0 0 0 0 0 (fun _ => 0) (fun _ => 0) (fun _ => 0) (fun _ => 0) (fun _ => 0) (fun _ => 0)
  obtain ⟨g, hg⟩ := h
  obtain ⟨g', hg'⟩ := h'
  rw [← (CO_same h4 hg).1, ← (CO_same h4 hg').1]
/-- the invariant holds the same sites on both sides -/
def HS (Inv : InvT) : Prop := ∀ (a1 : Int32) (a2 : Nat → Int32) (a3 : Int32) (a4 a5 a6 : Nat → Int32) (a7 a8 : Int32) (a9 : Nat → Int32) (a10 : Int32) (a11 a12 a13 : Nat → Int32) (a14 a15 : Nat → S4) (a16 : Int32) (a17 a18 : Nat → Int32) (a19 : Int32) (a20 a21 a22 : Nat → Int32) (a23 : Int32) (a24 a25 a26 : Nat → Int32), Inv a1 a2 a3 a4 a5 a6 a7 a8 a9 a10 a11 a12 a13 a14 a15 a16 a17 a18 a19 a20 a21 a22 a23 a24 a25 a26 → ∃ (c : Nat) (X Y W : Nat → Int), BD c X Y W ∧ RS c X Y W a3 a4 a5 a6 ∧ RM c X Y W a18
theorem p_nat {p : Int32} {n : Nat} (h : 0 ≤ p.toInt ∧ p.toInt < n) : ∃ i : Nat, i < n ∧ p = iI i := ⟨p.toInt.toNat, by omega, by rw [show ((p.toInt.toNat : Nat) : Int) = p.toInt by omega]; exact iI_of p⟩
theorem o14 {Inv : InvT} (H : HS Inv) : op_14 Inv := by
  intro _ _ _ _ _ _ _ _ _ _ _ _ _ _ _ _ _ st _ _ _ _ _ _ _ _ k0 k1 k2 k3 k4 k5 k6 k7 k8 k9 k10 n0 n1 n2 n3 n4 n5 n6 n7 n8 p hI
  obtain ⟨c, X, Y, W, hB, hR, hM⟩ := H _ _ _ _ _ _ _ _ _ _ _ _ _ _ _ _ _ _ _ _ _ _ _ _ _ _ hI
  have hc := hB.1
  have ec := hR.1
  subst ec
  unfold f_X5_cornerCount_0 f_X6_cornerCount_0
  rw [z_has hc, z_nosite hM hc, bnd_some, bnd_some]
  by_cases hp : 0 ≤ p.toInt ∧ p.toInt < c
  · rw [if_pos hp, if_pos hp, if_neg (by decide), if_pos rfl]
    obtain ⟨i, hi, rfl⟩ := p_nat hp
    obtain ⟨m, f, u1, u2, u3, u4, u5, u6, u7, u8, u9, e1, h1, h2, h3, h4⟩ := z_cutOut hR hB hi k0 k1 k2 k3 k4 k5 k6 k7 k8 k9 k10
    rw [e1, bnd11_some, z_pc m h4, bnd_some]
    obtain ⟨m', g, v1, v2, v3, v4, v5, v6, v7, e2, h5, h6, h7⟩ := z_polygon hM hB hi n1 n2 n3 n4 n5 n6 n7 n8
    rw [e2, bnd9_some, ← (CO_same h3 h5).1]
    exact ⟨_, _, _, _, _, _, _, _, _, _, _, _, _, _, _, _, _, _, _, _, _, rfl, rfl, hI⟩
  · rw [if_neg hp, if_neg hp, if_pos rfl, if_neg (by decide)]
    exact ⟨_, _, _, _, _, _, _, _, _, _, _, _, _, _, _, _, _, _, _, _, _, rfl, rfl, hI⟩
end ZPP
