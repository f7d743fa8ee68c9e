/-! ===== triangles ===== -/
section ZT
variable {c : Nat} {X Y W : Nat → Int} {cnt : Int32} {x y w : Nat → Int32} {st : Nat → Int32}
/-- the line between a site and a newcomer -/
def plq (X Y W : Nat → Int) (i : Nat) (a b d : Int) : Ln := (2 * (a - X i), 2 * (b - Y i), a * a + b * b - d - lv X Y W i)
theorem pl_plq (i o : Nat) : pl X Y W i o = plq X Y W i (X o) (Y o) (W o) := rfl
theorem plq_b (h : BD c X Y W) (i : Nat) {a b d : Int} (a1 : 0 ≤ a) (a2 : a ≤ 20) (b1 : 0 ≤ b) (b2 : b ≤ 20) (d1 : 0 ≤ d) (d2 : d ≤ 400) : BL (plq X Y W i a b d) := by
  have l := lv_b h i
  have s1 := sq_b (t := a) (by omega) a2
  have s2 := sq_b (t := b) (by omega) b2
  have q := h.2 i
  unfold BL plq
  simp only
  omega
/-- do three sites have a triangle: their lines meet in a point to which no other site is nearer -/
def TR (X Y W : Nat → Int) (c i j k : Nat) : Prop := dt (pl X Y W i j) (pl X Y W i k) ≠ 0 ∧ ∀ o, o < c → ev (pl X Y W i o) (nmt (pl X Y W i j) (pl X Y W i k)) ≤ 0
noncomputable def triB (X Y W : Nat → Int) (c i j k : Nat) : Bool := @decide (TR X Y W c i j k) (Classical.propDecidable _)
theorem triB_t {i j k : Nat} (h : TR X Y W c i j k) : triB X Y W c i j k = true := @decide_eq_true _ (Classical.propDecidable _) h
theorem triB_f {i j k : Nat} (h : ¬ TR X Y W c i j k) : triB X Y W c i j k = false := @decide_eq_false _ (Classical.propDecidable _) h
theorem triB_iff {i j k : Nat} : triB X Y W c i j k = true ↔ TR X Y W c i j k := @decide_eq_true_iff _ (Classical.propDecidable _)
theorem nm_BP (h : BD c X Y W) {i j k : Nat} (hd : dt (pl X Y W i j) (pl X Y W i k) ≠ 0) : BP (nmt (pl X Y W i j) (pl X Y W i k)) := by
  have h1 := nmt_b (pl_b h i j) (pl_b h i k)
  exact ⟨h1.1, h1.2.1, (ev_nmt hd).2.2, h1.2.2⟩
theorem rng_at {i j : Nat} (hj : j < c) : ((List.range c).map (pl X Y W i))[j]? = some (pl X Y W i j) := by
  rw [List.getElem?_map, List.getElem?_range hj]
  rfl
theorem rng_b (h : BD c X Y W) (i : Nat) : ∀ t ∈ (List.range c).map (pl X Y W i), BL t := by
  intro t ht
  obtain ⟨j, -, rfl⟩ := List.mem_map.mp ht
  exact pl_b h i j
theorem rng_inn {i : Nat} {P : Pt} : inn ((List.range c).map (pl X Y W i)) P ↔ ∀ o, o < c → ev (pl X Y W i o) P ≤ 0 := by
  constructor
  · intro h o ho
    exact h _ (List.mem_map.mpr ⟨o, List.mem_range.mpr ho, rfl⟩)
  · intro h t ht
    obtain ⟨o, ho, rfl⟩ := List.mem_map.mp ht
    exact h o (List.mem_range.mp ho)
theorem z_form {i j k : Nat} (hB : BD c X Y W) (hj : j < c) (hk : k < c) {ct : Int32} {a b d : Nat → Int32} (hL : RLn ((List.range c).map (pl X Y W i)) ct a b d) (mX mY mD : Int32) :
    ∃ nX nY nD : Int32, f_X5_formTriangle_0 ct a b d mX mY mD (iI j) (iI k) = some ((if triB X Y W c i j k = true then (1 : Int32) else 0), nX, nY, nD) ∧ (triB X Y W c i j k = true → nX = iI (nmt (pl X Y W i j) (pl X Y W i k)).1 ∧ nY = iI (nmt (pl X Y W i j) (pl X Y W i k)).2.1 ∧ nD = iI (nmt (pl X Y W i j) (pl X Y W i k)).2.2) := by
  have hc := hB.1
  have hl : ((List.range c).map (pl X Y W i)).length ≤ 14 := by simp; omega
  unfold f_X5_formTriangle_0
  rw [z_meet hL hl (rng_b hB i) (rng_at hj) (rng_at hk)]
  by_cases hd : dt (pl X Y W i j) (pl X Y W i k) = 0
  · rw [if_pos hd, bnd4_some, if_pos rfl, triB_f (fun q => q.1 hd)]
    exact ⟨mX, mY, mD, rfl, fun q => by cases q⟩
  · rw [if_neg hd, bnd4_some, if_neg (by decide)]
    obtain ⟨r, hr, hr2⟩ := z_hold hL hl (rng_b hB i) (nm_BP hB hd)
    rw [hr, bnd_some]
    rcases hr2 with ⟨rfl, hi⟩ | ⟨rfl, hi⟩
    · rw [if_neg (by decide), triB_t ⟨hd, rng_inn.mp hi⟩]
      exact ⟨_, _, _, rfl, fun _ => ⟨rfl, rfl, rfl⟩⟩
    · rw [if_pos rfl, triB_f (fun q => hi (rng_inn.mpr q.2))]
      exact ⟨_, _, _, rfl, fun q => by cases q⟩
theorem z_closer (hM : RM c X Y W st) (hB : BD c X Y W) {i : Nat} (hi : i < c) {P : Pt} (hP : BP P) {a b d : Int} (a1 : 0 ≤ a) (a2 : a ≤ 20) (b1 : 0 ≤ b) (b2 : b ≤ 20) (d1 : 0 ≤ d) (d2 : d ≤ 400) : f_X6_isCloser_0 (lI P.1) (lI P.2.1) (lI P.2.2) st (iI i) (iI a) (iI b) (iI d) = some (if ev (plq X Y W i a b d) P ≤ 0 then 0 else 1) := by
  have hc := hB.1
  unfold f_X6_isCloser_0
  have bl := plq_b hB i a1 a2 b1 b2 d1 d2
  have be := ev_b bl hP
  have u3 : (((((iI a * iI a) + (iI b * iI b)) - iI d) - (iI (X i) * iI (X i))) - (iI (Y i) * iI (Y i))) + iI (W i) = iI (plq X Y W i a b d).2.2 := by
    rw [iI_mul, iI_mul, iI_mul, iI_mul, iI_add, iI_sub, iI_sub, iI_sub, iI_add]
    congr 1
    simp only [plq, lv]
    omega
  unfold BL at bl
  rw [z_part0 hM hc hi, bnd_some, z_part1 hM hc hi, bnd_some, nm_eq, nm_eq, z_part2 hM hc hi, bnd_some, nm_eq, u3, q_2, iI_sub, iI_mul, iI_sub, iI_mul]
  have e1 : (2 : Int) * (a - X i) = (plq X Y W i a b d).1 := rfl
  have e2 : (2 : Int) * (b - Y i) = (plq X Y W i a b d).2.1 := rfl
  rw [e1, e2, iI_l (by omega) (by omega), iI_l (by omega) (by omega), iI_l (by omega) (by omega), lI_mul, lI_mul, lI_mul, lI_add]
  by_cases h : ev (plq X Y W i a b d) P ≤ 0
  · rw [if_pos h]
    unfold ev at h
    rw [if_pos (by rw [cmp_le] <;> omega)]
  · rw [if_neg h]
    unfold ev at h
    rw [if_neg (by rw [cmp_le] <;> omega)]
theorem z_at_loop (hM : RM c X Y W st) (hB : BD c X Y W) {i : Nat} (hi : i < c) {P : Pt} (hP : BP P) (t1 : Int32) (a b d : Nat → Int32) :
    ∀ (e o n : Nat), o + e = c → e < n → (∀ q, q < o → ev (pl X Y W i q) P ≤ 0) → ∃ r : Int32, f_X6_areTriangle_12 st n t1 (lI P.1) (lI P.2.1) (lI P.2.2) a b d (iI i) 1 (iI o) = some (r, t1, lI P.1, lI P.2.1, lI P.2.2, a, b, d) ∧ ((r = 1 ∧ ∀ q, q < c → ev (pl X Y W i q) P ≤ 0) ∨ (r = 0 ∧ ¬ ∀ q, q < c → ev (pl X Y W i q) P ≤ 0)) := by
  have hc := hB.1
  intro e
  induction e with
  | zero =>
    intro o n hk hn hok
    obtain ⟨n, rfl⟩ : ∃ k, n = k + 1 := ⟨n - 1, by omega⟩
    have e : o = c := by omega
    subst e
    refine ⟨1, ?_, Or.inl ⟨rfl, hok⟩⟩
    have key : ∀ u v, f_X6_areTriangle_12 st (n + 1) t1 (lI P.1) (lI P.2.1) (lI P.2.2) a b d (iI i) u v = g_X6_areTriangle_12 st (f_X6_areTriangle_12 st n) t1 (lI P.1) (lI P.2.1) (lI P.2.2) a b d (iI i) u v := fun _ _ => rfl
    rw [key]
    unfold g_X6_areTriangle_12
    rw [show (0 : Int32).toNatClampNeg = 0 from rfl, if_pos (by rw [hM.1, iI_le] <;> omega), gZ_1]
  | succ e ih =>
    intro o n hk hn hok
    obtain ⟨n, rfl⟩ : ∃ k, n = k + 1 := ⟨n - 1, by omega⟩
    have key : ∀ n u v, f_X6_areTriangle_12 st (n + 1) t1 (lI P.1) (lI P.2.1) (lI P.2.2) a b d (iI i) u v = g_X6_areTriangle_12 st (f_X6_areTriangle_12 st n) t1 (lI P.1) (lI P.2.1) (lI P.2.2) a b d (iI i) u v := fun _ _ _ => rfl
    rw [key]
    unfold g_X6_areTriangle_12
    have ho : o < c := by omega
    obtain ⟨⟨x1, x2⟩, ⟨y1, y2⟩, w1, w2⟩ := hB.2 o
    rw [show (0 : Int32).toNatClampNeg = 0 from rfl, if_neg (by rw [hM.1, iI_le] <;> omega), if_neg (by decide), z_part0 hM hc ho, bnd_some, z_part1 hM hc ho, bnd_some, z_part2 hM hc ho, bnd_some, z_closer hM hB hi hP x1 x2 y1 y2 w1 w2, bnd_some, iI_p1, ← pl_plq]
    by_cases h : ev (pl X Y W i o) P ≤ 0
    · rw [if_pos h, if_pos rfl]
      exact ih (o + 1) n (by omega) (by omega) (fun q hq => by
        by_cases e : q = o
        · rw [e]; exact h
        · exact hok q (by omega))
    · rw [if_neg h, if_neg (by decide)]
      obtain ⟨n, rfl⟩ : ∃ k, n = k + 1 := ⟨n - 1, by omega⟩
      rw [key]
      unfold g_X6_areTriangle_12
      refine ⟨0, ?_, Or.inr ⟨rfl, fun q => h (q o ho)⟩⟩
      rw [if_pos (show (0 : Int32) = 0 from rfl), gZ_0]
      exact ite_self _
theorem RL_nil (a b d : Nat → Int32) : RLn [] 0 a b d := ⟨rfl, fun k t h => by simp at h⟩
theorem z_areTri (hM : RM c X Y W st) (hB : BD c X Y W) {i j k : Nat} (hi : i < c) (hj : j < c) (hk : k < c) (t1 : Int32) (c1 c2 c3 : Int64) (a b d : Nat → Int32) :
    ∃ (n1 : Int32) (d1 d2 d3 : Int64) (a' b' d' : Nat → Int32), f_X6_areTriangle_0 st t1 c1 c2 c3 a b d (iI i) (iI j) (iI k) = some ((if triB X Y W c i j k = true then (1 : Int32) else 0), n1, d1, d2, d3, a', b', d') ∧ (triB X Y W c i j k = true → d1 = lI (nmt (pl X Y W i j) (pl X Y W i k)).1 ∧ d2 = lI (nmt (pl X Y W i j) (pl X Y W i k)).2.1 ∧ d3 = lI (nmt (pl X Y W i j) (pl X Y W i k)).2.2) := by
  have hc := hB.1
  unfold f_X6_areTriangle_0 f_X6_hasCentre_0
  obtain ⟨a1, b1, e1, h1, r1⟩ := z_near hM hc (RL_nil a b d) 0 rfl (by omega) hi hj
  rw [h1, bnd4_some]
  obtain ⟨a2, b2, e2, h2, r2⟩ := z_near hM hc r1 1 rfl (by omega) hi hk
  rw [h2, bnd4_some, nm_eq, nm_eq, nm_eq]
  obtain ⟨p1, p2, p3⟩ := r2.2 0 (pl X Y W i j) rfl
  obtain ⟨q1, q2, q3⟩ := r2.2 1 (pl X Y W i k) rfl
  have bl := pl_b hB i j
  have bm := pl_b hB i k
  have db := dt_b bl bm
  have nb := nmt_b bl bm
  have bl' := bl
  have bm' := bm
  unfold BL at bl' bm'
  rw [show (0 : Int32).toNatClampNeg = 0 from rfl, show (1 : Int32).toNatClampNeg = 1 from rfl, p1, p2, p3, q1, q2, q3]
  rw [iI_l (z := (pl X Y W i j).1) (by omega) (by omega), iI_l (z := (pl X Y W i j).2.1) (by omega) (by omega), iI_l (z := (pl X Y W i j).2.2) (by omega) (by omega), iI_l (z := (pl X Y W i k).1) (by omega) (by omega), iI_l (z := (pl X Y W i k).2.1) (by omega) (by omega), iI_l (z := (pl X Y W i k).2.2) (by omega) (by omega)]
  simp only [lI_mul, lI_sub]
  rw [show (pl X Y W i j).1 * (pl X Y W i k).2.1 - (pl X Y W i k).1 * (pl X Y W i j).2.1 = dt (pl X Y W i j) (pl X Y W i k) from rfl, show (pl X Y W i j).2.2 * (pl X Y W i k).2.1 - (pl X Y W i k).2.2 * (pl X Y W i j).2.1 = mx (pl X Y W i j) (pl X Y W i k) from rfl, show (pl X Y W i j).1 * (pl X Y W i k).2.2 - (pl X Y W i k).1 * (pl X Y W i j).2.2 = my (pl X Y W i j) (pl X Y W i k) from rfl]
  -- the centre, once it is put in order
  have fin : ∀ P : Pt, -96000 ≤ P.1 ∧ P.1 ≤ 96000 → -96000 ≤ P.2.1 ∧ P.2.1 ≤ 96000 → 0 ≤ P.2.2 ∧ P.2.2 ≤ 3200 → (dt (pl X Y W i j) (pl X Y W i k) = 0 ↔ P.2.2 = 0) → (dt (pl X Y W i j) (pl X Y W i k) ≠ 0 → P = nmt (pl X Y W i j) (pl X Y W i k)) →
      ∃ (n1 : Int32) (d1 d2 d3 : Int64) (a' b' d' : Nat → Int32), bnd8 (f_X6_hasCentre_166 st (iI (1 + 1 : Nat)) (lI P.1) (lI P.2.1) (lI P.2.2) a2 b2 e2) (fun r1 u2 u3 u4 u5 u6 u7 u8 => f_X6_areTriangle_12 st fuel u2 u3 u4 u5 u6 u7 u8 (iI i) r1 (0 : Int32)) = some ((if triB X Y W c i j k = true then (1 : Int32) else 0), n1, d1, d2, d3, a', b', d') ∧ (triB X Y W c i j k = true → d1 = lI (nmt (pl X Y W i j) (pl X Y W i k)).1 ∧ d2 = lI (nmt (pl X Y W i j) (pl X Y W i k)).2.1 ∧ d3 = lI (nmt (pl X Y W i j) (pl X Y W i k)).2.2) := by
    intro P g1 g2 g3 g4 g5
    unfold f_X6_hasCentre_166
    by_cases hd : dt (pl X Y W i j) (pl X Y W i k) = 0
    · have hz := g4.mp hd
      rw [if_pos (by rw [hz, ql_0, cmp_le] <;> omega), bnd8_some, triB_f (fun q => q.1 hd)]
      obtain ⟨n, hn⟩ : ∃ n, fuel = n + 1 := ⟨fuel - 1, by unfold fuel; omega⟩
      have key : ∀ u v, f_X6_areTriangle_12 st (n + 1) (iI (1 + 1 : Nat)) (lI P.1) (lI P.2.1) (lI P.2.2) a2 b2 e2 (iI i) u v = g_X6_areTriangle_12 st (f_X6_areTriangle_12 st n) (iI (1 + 1 : Nat)) (lI P.1) (lI P.2.1) (lI P.2.2) a2 b2 e2 (iI i) u v := fun _ _ => rfl
      rw [hn, key]
      unfold g_X6_areTriangle_12
      refine ⟨iI (1 + 1 : Nat), lI P.1, lI P.2.1, lI P.2.2, a2, b2, e2, ?_, fun q => by cases q⟩
      rw [if_pos (show (0 : Int32) = 0 from rfl), gZ_0]
      exact ite_self _
    · have hP := g5 hd
      have hpos : 0 < P.2.2 := by omega
      rw [if_neg (by rw [ql_0, cmp_le] <;> omega), bnd8_some]
      obtain ⟨r, hr, hr2⟩ := z_at_loop hM hB hi (P := P) ⟨g1, g2, hpos, g3.2⟩ (iI (1 + 1 : Nat)) a2 b2 e2 c 0 fuel (by omega) (by unfold fuel; omega) (fun q hq => by omega)
      have hr' : f_X6_areTriangle_12 st fuel (iI (1 + 1 : Nat)) (lI P.1) (lI P.2.1) (lI P.2.2) a2 b2 e2 (iI i) 1 0 = _ := hr
      rw [hr']
      rw [← hP]
      rcases hr2 with ⟨rfl, hh⟩ | ⟨rfl, hh⟩
      · rw [triB_t ⟨hd, by rw [← hP]; exact hh⟩]
        exact ⟨_, _, _, _, _, _, _, rfl, fun _ => ⟨rfl, rfl, rfl⟩⟩
      · rw [triB_f (fun q => hh (by have := q.2; rwa [← hP] at this))]
        exact ⟨_, _, _, _, _, _, _, rfl, fun q => by cases q⟩
  by_cases hs : 0 ≤ dt (pl X Y W i j) (pl X Y W i k)
  · rw [if_pos (by rw [ql_0, cmp_ge] <;> omega)]
    refine fin (mx (pl X Y W i j) (pl X Y W i k), my (pl X Y W i j) (pl X Y W i k), dt (pl X Y W i j) (pl X Y W i k)) (by simp only; omega) (by simp only; omega) (by simp only; omega) Iff.rfl (fun q => ?_)
    unfold nmt
    rw [if_pos (by omega)]
  · rw [if_neg (by rw [ql_0, cmp_ge] <;> omega), nm_eq, nm_eq, nm_eq, lI_neg, lI_neg, lI_neg]
    refine fin (-mx (pl X Y W i j) (pl X Y W i k), -my (pl X Y W i j) (pl X Y W i k), -dt (pl X Y W i j) (pl X Y W i k)) (by simp only; omega) (by simp only; omega) (by simp only; omega) (by simp only; omega) (fun q => ?_)
    unfold nmt
    rw [if_neg (by omega)]
theorem o19 {Inv : InvT} (H : HS Inv) : op_19 Inv := by
  intro _ _ _ _ _ _ _ _ _ _ _ _ _ _ _ _ _ st _ _ _ _ _ _ _ _ k0 k1 k2 k3 k4 k5 k6 n0 n1 n2 n3 n4 n5 n6 n7 p0 p1 p2 hI
  obtain ⟨c, X, Y, W, hB, hR, hM⟩ := H _ _ _ _ _ _ _ _ _ _ _ _ _ _ _ _ _ _ _ _ _ _ _ _ _ _ hI
  have hc := hB.1
  have ec := hR.1
  subst ec
  unfold f_X5_isTriangle_0 f_X6_isTriangle_0
  rw [z_has hc, z_nosite hM hc, bnd_some, bnd_some]
  by_cases hp0 : 0 ≤ p0.toInt ∧ p0.toInt < c
  · rw [if_pos hp0, if_pos hp0, if_neg (by decide), if_pos rfl, z_has hc, z_nosite hM hc, bnd_some, bnd_some]
    by_cases hp1 : 0 ≤ p1.toInt ∧ p1.toInt < c
    · rw [if_pos hp1, if_pos hp1, if_neg (by decide), if_pos rfl, z_has hc, z_nosite hM hc, bnd_some, bnd_some]
      by_cases hp2 : 0 ≤ p2.toInt ∧ p2.toInt < c
      · rw [if_pos hp2, if_pos hp2, if_neg (by decide), if_pos rfl]
        obtain ⟨i, hi, rfl⟩ := p_nat hp0
        obtain ⟨j, hj, rfl⟩ := p_nat hp1
        obtain ⟨k, hk, rfl⟩ := p_nat hp2
        obtain ⟨a1, b1, d1, e1, h1⟩ := z_compare hR hB hi k0 k4 k5 k6
        rw [e1, bnd4_some]
        obtain ⟨nX, nY, nD, e2, -⟩ := z_form hB hj hk h1 k1 k2 k3
        rw [e2, bnd4_some]
        obtain ⟨v1, v2, v3, v4, v5, v6, v7, e3, -⟩ := z_areTri hM hB hi hj hk n1 n2 n3 n4 n5 n6 n7
        rw [e3, bnd8_some]
        by_cases h : triB X Y W c i j k = true
        · rw [if_pos h, if_neg (by decide), if_neg (by decide)]
          exact ⟨_, _, _, _, _, _, _, _, _, _, _, _, _, _, _, _, rfl, rfl, hI⟩
        · rw [if_neg h, if_pos rfl, if_pos rfl]
          exact ⟨_, _, _, _, _, _, _, _, _, _, _, _, _, _, _, _, rfl, rfl, hI⟩
      · rw [if_neg hp2, if_neg hp2, if_pos rfl, if_neg (by decide)]
        exact ⟨_, _, _, _, _, _, _, _, _, _, _, _, _, _, _, _, rfl, rfl, hI⟩
    · rw [if_neg hp1, if_neg hp1, if_pos rfl, if_neg (by decide)]
      exact ⟨_, _, _, _, _, _, _, _, _, _, _, _, _, _, _, _, rfl, rfl, hI⟩
  · rw [if_neg hp0, if_neg hp0, if_pos rfl, if_neg (by decide)]
    exact ⟨_, _, _, _, _, _, _, _, _, _, _, _, _, _, _, _, rfl, rfl, hI⟩
end ZT
