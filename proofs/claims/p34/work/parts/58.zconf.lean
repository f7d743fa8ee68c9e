/-! ===== conflicts ===== -/
section ZCF
variable {c : Nat} {X Y W : Nat → Int} {cnt : Int32} {x y w : Nat → Int32} {st : Nat → Int32}
theorem z_newc (hR : RS c X Y W cnt x y w) (hB : BD c X Y W) {i : Nat} (hi : i < c) {P : Pt} (hP : BP P) {a b d : Int} (a1 : 0 ≤ a) (a2 : a ≤ 20) (b1 : 0 ≤ b) (b2 : b ≤ 20) (d1 : 0 ≤ d) (d2 : d ≤ 400) : f_X5_newcomerIsNearer_0 x y w (iI P.1) (iI P.2.1) (iI P.2.2) (iI i) (iI a) (iI b) (iI d) = some (if ev (plq X Y W i a b d) P ≤ 0 then 0 else 1) := by
  have hc := hB.1
  unfold f_X5_newcomerIsNearer_0 f_X4_level_0
  rw [gIx_iI (by omega) (by omega) (by omega), iI_clN (by omega), (hR.2 i hi).1, (hR.2 i hi).2.1, nm_eq, nm_eq, bnd_some, z_level hR hc hi, bnd_some, nm_eq, q_2, iI_sub, iI_mul, iI_sub, iI_mul, iI_mul, iI_mul, iI_add, iI_sub, iI_sub]
  have zb := z_beyond (plq_b hB i a1 a2 b1 b2 d1 d2) hP
  have zb' : f_X1_meetingIsBeyond_0 (iI P.1) (iI P.2.1) (iI P.2.2) (iI (2 * (a - X i))) (iI (2 * (b - Y i))) (iI (a * a + b * b - d - lv X Y W i)) = _ := zb
  rw [zb', bnd_some]
  by_cases h : ev (plq X Y W i a b d) P ≤ 0
  · rw [if_pos h]; exact gZ_0
  · rw [if_neg h]; exact gZ_1
theorem z_cf73 (hR : RS c X Y W cnt x y w) (hB : BD c X Y W) {a0 b0 d0 : Int} (g1 : 0 ≤ a0) (g2 : a0 ≤ 20) (g3 : 0 ≤ b0) (g4 : b0 ≤ 20) (g5 : 0 ≤ d0) (g6 : d0 ≤ 400) {i j : Nat} (hij : i < j) (hj : j < c) (k55 : Int32 → Int32 → Int32 → Int32 → (Nat → Int32) → (Nat → Int32) → (Nat → Int32) → Int32 → Int32 → Int32 → Int32 → Int32 → Int32 → Option R_X5_conflicts) {pc : Int32} {a b d : Nat → Int32} (hL : RLn ((List.range c).map (pl X Y W i)) pc a b d) (s : Nat) :
    ∀ (e k n : Nat) (mX mY mD : Int32), k + e = c → e < n → j < k → ∃ mX' mY' mD' : Int32, f_X5_conflicts_73 k55 cnt x y w n pc mX mY mD a b d (iI a0) (iI b0) (iI d0) (iI (s + sumN k (fun k => if i < j ∧ j < k ∧ cnB X Y W c a0 b0 d0 i j k = true then 1 else 0) : Nat)) (iI i) (iI j) (iI k) = k55 pc mX' mY' mD' a b d (iI a0) (iI b0) (iI d0) (iI (s + sumN c (fun k => if i < j ∧ j < k ∧ cnB X Y W c a0 b0 d0 i j k = true then 1 else 0) : Nat)) (iI i) (iI (j + 1 : Nat)) := by
  have hc := hB.1
  intro e
  induction e with
  | zero =>
    intro k n mX mY mD hk hn hjk
    obtain ⟨n, rfl⟩ : ∃ k, n = k + 1 := ⟨n - 1, by omega⟩
    have e : k = c := by omega
    subst e
    refine ⟨mX, mY, mD, ?_⟩
    show g_X5_conflicts_73 k55 cnt x y w (f_X5_conflicts_73 k55 cnt x y w n) _ _ _ _ _ _ _ _ _ _ _ _ _ _ = _
    unfold g_X5_conflicts_73
    rw [if_pos (by rw [hR.1, iI_le] <;> omega), iI_p1]
  | succ e ih =>
    intro k n mX mY mD hk hn hjk
    obtain ⟨n, rfl⟩ : ∃ k, n = k + 1 := ⟨n - 1, by omega⟩
    show ∃ mX' mY' mD' : Int32, g_X5_conflicts_73 k55 cnt x y w (f_X5_conflicts_73 k55 cnt x y w n) _ _ _ _ _ _ _ _ _ _ _ _ _ _ = _
    unfold g_X5_conflicts_73
    obtain ⟨nX, nY, nD, e2, e3⟩ := z_form hB hj (show k < c by omega) hL mX mY mD
    rw [if_neg (by rw [hR.1, iI_le] <;> omega), e2, bnd4_some, iI_p1, iI_p1]
    have ih' := ih (k + 1) n nX nY nD (by omega) (by omega) (by omega)
    rw [sumN_s] at ih'
    by_cases h : triB X Y W c i j k = true
    · rw [if_pos h, if_neg (by decide)]
      obtain ⟨p1, p2, p3⟩ := e3 h
      have e4 := z_newc hR hB (show i < c by omega) (nm_BP hB (triB_iff.mp h).1) g1 g2 g3 g4 g5 g6
      rw [← p1, ← p2, ← p3] at e4
      rw [e4, bnd_some]
      have hcn : cnB X Y W c a0 b0 d0 i j k = decide (0 < ev (plq X Y W i a0 b0 d0) (nmt (pl X Y W i j) (pl X Y W i k))) := by
        unfold cnB
        rw [h, Bool.true_and]
      by_cases h5 : ev (plq X Y W i a0 b0 d0) (nmt (pl X Y W i j) (pl X Y W i k)) ≤ 0
      · rw [if_pos h5, if_pos rfl]
        rwa [if_neg (show ¬ (i < j ∧ j < k ∧ cnB X Y W c a0 b0 d0 i j k = true) from fun z => by
          rw [hcn] at z
          have := of_decide_eq_true z.2.2
          omega), Nat.add_zero] at ih'
      · rw [if_neg h5, if_neg (by decide)]
        rwa [if_pos (show i < j ∧ j < k ∧ cnB X Y W c a0 b0 d0 i j k = true from ⟨hij, hjk, by rw [hcn]; exact decide_eq_true (by omega)⟩), ← Nat.add_assoc] at ih'
    · rw [if_neg h, if_pos rfl]
      rwa [if_neg (show ¬ (i < j ∧ j < k ∧ cnB X Y W c a0 b0 d0 i j k = true) from fun z => h (by
        have := z.2.2
        unfold cnB at this
        exact (Bool.and_eq_true_iff.mp this).1)), Nat.add_zero] at ih'
theorem z_cf55 (hR : RS c X Y W cnt x y w) (hB : BD c X Y W) {a0 b0 d0 : Int} (g1 : 0 ≤ a0) (g2 : a0 ≤ 20) (g3 : 0 ≤ b0) (g4 : b0 ≤ 20) (g5 : 0 ≤ d0) (g6 : d0 ≤ 400) {i : Nat} (hi : i < c) (k24 : Int32 → Int32 → Int32 → Int32 → (Nat → Int32) → (Nat → Int32) → (Nat → Int32) → Int32 → Int32 → Int32 → Int32 → Int32 → Option R_X5_conflicts) {pc : Int32} {a b d : Nat → Int32} (hL : RLn ((List.range c).map (pl X Y W i)) pc a b d) (s : Nat) :
    ∀ (e j n : Nat) (mX mY mD : Int32), j + e = c → e < n → i < j → ∃ mX' mY' mD' : Int32, f_X5_conflicts_55 k24 cnt x y w n pc mX mY mD a b d (iI a0) (iI b0) (iI d0) (iI (s + sumN j (fun j => sumN c (fun k => if i < j ∧ j < k ∧ cnB X Y W c a0 b0 d0 i j k = true then 1 else 0)) : Nat)) (iI i) (iI j) = k24 pc mX' mY' mD' a b d (iI a0) (iI b0) (iI d0) (iI (s + sumN c (fun j => sumN c (fun k => if i < j ∧ j < k ∧ cnB X Y W c a0 b0 d0 i j k = true then 1 else 0)) : Nat)) (iI (i + 1 : Nat)) := by
  have hc := hB.1
  intro e
  induction e with
  | zero =>
    intro j n mX mY mD hk hn hij
    obtain ⟨n, rfl⟩ : ∃ k, n = k + 1 := ⟨n - 1, by omega⟩
    have e : j = c := by omega
    subst e
    refine ⟨mX, mY, mD, ?_⟩
    show g_X5_conflicts_55 k24 cnt x y w (f_X5_conflicts_55 k24 cnt x y w n) _ _ _ _ _ _ _ _ _ _ _ _ _ = _
    unfold g_X5_conflicts_55
    rw [if_pos (by rw [hR.1, iI_le] <;> omega), iI_p1]
  | succ e ih =>
    intro j n mX mY mD hk hn hij
    obtain ⟨n, rfl⟩ : ∃ k, n = k + 1 := ⟨n - 1, by omega⟩
    show ∃ mX' mY' mD' : Int32, g_X5_conflicts_55 k24 cnt x y w (f_X5_conflicts_55 k24 cnt x y w n) _ _ _ _ _ _ _ _ _ _ _ _ _ = _
    unfold g_X5_conflicts_55
    rw [if_neg (by rw [hR.1, iI_le] <;> omega), nm_eq, iI_p1]
    obtain ⟨m1, m2, m3, e1⟩ := z_cf73 hR hB g1 g2 g3 g4 g5 g6 hij (show j < c by omega) (f_X5_conflicts_55 k24 cnt x y w n) hL (s + sumN j (fun j => sumN c (fun k => if i < j ∧ j < k ∧ cnB X Y W c a0 b0 d0 i j k = true then 1 else 0))) e (j + 1) fuel mX mY mD (by omega) (by unfold fuel; omega) (by omega)
    rw [sumN_0 (n := j + 1) (fun k hk => if_neg (by omega)), Nat.add_zero] at e1
    rw [e1]
    have ih' := ih (j + 1) n m1 m2 m3 (by omega) (by omega) (by omega)
    rwa [sumN_s, ← Nat.add_assoc] at ih'
theorem z_cf24 (hR : RS c X Y W cnt x y w) (hB : BD c X Y W) {a0 b0 d0 : Int} (g1 : 0 ≤ a0) (g2 : a0 ≤ 20) (g3 : 0 ≤ b0) (g4 : b0 ≤ 20) (g5 : 0 ≤ d0) (g6 : d0 ≤ 400) :
    ∀ (e i n : Nat) (pc mX mY mD : Int32) (a b d : Nat → Int32), i + e = c → e < n → ∃ (pc' mX' mY' mD' : Int32) (a' b' d' : Nat → Int32), f_X5_conflicts_24 cnt x y w n pc mX mY mD a b d (iI a0) (iI b0) (iI d0) (iI (sumN i (fun i => sumN c (fun j => sumN c (fun k => if i < j ∧ j < k ∧ cnB X Y W c a0 b0 d0 i j k = true then 1 else 0))) : Nat)) (iI i) = some (iI (T0 c (cnB X Y W c a0 b0 d0) : Nat), pc', mX', mY', mD', a', b', d') := by
  have hc := hB.1
  intro e
  induction e with
  | zero =>
    intro i n pc mX mY mD a b d hk hn
    obtain ⟨n, rfl⟩ : ∃ k, n = k + 1 := ⟨n - 1, by omega⟩
    have e : i = c := by omega
    subst e
    refine ⟨pc, mX, mY, mD, a, b, d, ?_⟩
    show g_X5_conflicts_24 cnt x y w (f_X5_conflicts_24 cnt x y w n) _ _ _ _ _ _ _ (iI a0) (iI b0) (iI d0) _ _ = _
    unfold g_X5_conflicts_24
    rw [if_pos (by rw [hR.1, iI_le] <;> omega)]
    rfl
  | succ e ih =>
    intro i n pc mX mY mD a b d hk hn
    obtain ⟨n, rfl⟩ : ∃ k, n = k + 1 := ⟨n - 1, by omega⟩
    show ∃ (pc' mX' mY' mD' : Int32) (a' b' d' : Nat → Int32), g_X5_conflicts_24 cnt x y w (f_X5_conflicts_24 cnt x y w n) _ _ _ _ _ _ _ (iI a0) (iI b0) (iI d0) _ _ = _
    unfold g_X5_conflicts_24
    obtain ⟨a1, b1, d1, e1, h1⟩ := z_compare hR hB (show i < c by omega) pc a b d
    rw [if_neg (by rw [hR.1, iI_le] <;> omega), e1, bnd4_some, nm_eq, iI_p1]
    obtain ⟨m1, m2, m3, e2⟩ := z_cf55 hR hB g1 g2 g3 g4 g5 g6 (show i < c by omega) (f_X5_conflicts_24 cnt x y w n) h1 (sumN i (fun i => sumN c (fun j => sumN c (fun k => if i < j ∧ j < k ∧ cnB X Y W c a0 b0 d0 i j k = true then 1 else 0)))) e (i + 1) fuel mX mY mD (by omega) (by unfold fuel; omega) (by omega)
    rw [sumN_0 (n := i + 1) (fun j hj => sumN_0 (fun k hk => if_neg (by omega))), Nat.add_zero] at e2
    rw [e2]
    exact ih (i + 1) n (iI c) m1 m2 m3 a1 b1 d1 (by omega) (by omega)
theorem z_insq (p q : Int32) : f_X5_inSquare_0 p q = some (if (0 ≤ p.toInt ∧ p.toInt ≤ 20) ∧ 0 ≤ q.toInt ∧ q.toInt ≤ 20 then 1 else 0) := by
  obtain ⟨z, h1, h2, rfl⟩ := i_ex p
  obtain ⟨z', h3, h4, rfl⟩ := i_ex q
  unfold f_X5_inSquare_0
  rw [iI_toInt h1 h2, iI_toInt h3 h4]
  simp (disch := omega) only [q_0, q_20, iI_lt]
  by_cases a : z < 0
  · rw [if_pos a, if_neg (by omega)]
  · rw [if_neg a]
    by_cases b : 20 < z
    · rw [if_pos b, if_neg (by omega)]
    · rw [if_neg b]
      by_cases d : z' < 0
      · rw [if_pos d, if_neg (by omega)]
      · rw [if_neg d]
        by_cases e : 20 < z'
        · rw [if_pos e, if_neg (by omega)]
        · rw [if_neg e, if_pos (by omega)]
theorem z_ispt (p q : Int32) : f_X6_isPoint_0 p q = some (if (0 ≤ p.toInt ∧ p.toInt ≤ 20) ∧ 0 ≤ q.toInt ∧ q.toInt ≤ 20 then 1 else 0) := by
  obtain ⟨z, h1, h2, rfl⟩ := i_ex p
  obtain ⟨z', h3, h4, rfl⟩ := i_ex q
  unfold f_X6_isPoint_0
  rw [iI_toInt h1 h2, iI_toInt h3 h4, iI_l h1 h2, iI_l h3 h4, ql_0, ql_20, z_in _ _ _ (by omega) (by omega) (by omega) (by omega) (by omega) (by omega), z_in _ _ _ (by omega) (by omega) (by omega) (by omega) (by omega) (by omega), bnd_some, bnd_some]
  by_cases a : 0 ≤ z ∧ z ≤ 20
  · rw [if_pos a, if_neg (by decide)]
    by_cases b : 0 ≤ z' ∧ z' ≤ 20
    · rw [if_pos b, if_neg (by decide), if_pos ⟨a, b⟩]
    · rw [if_neg b, if_pos rfl, if_neg (fun q => b q.2)]
  · rw [if_neg a, if_pos rfl, if_neg (fun q => a q.1)]
theorem z_isw (p : Int32) : f_X5_isWeight_0 p = some (if 0 ≤ p.toInt ∧ p.toInt ≤ 400 then 1 else 0) := by
  obtain ⟨z, h1, h2, rfl⟩ := i_ex p
  unfold f_X5_isWeight_0
  rw [iI_toInt h1 h2]
  simp (disch := omega) only [q_0, q_400, iI_lt]
  by_cases a : z < 0
  · rw [if_pos a, if_neg (by omega)]
  · rw [if_neg a]
    by_cases b : 400 < z
    · rw [if_pos b, if_neg (by omega)]
    · rw [if_neg b, if_pos (by omega)]
theorem z_minw (p : Int32) : f_X6_in_0 p.toInt64 (0 : Int64) (400 : Int64) = some (if 0 ≤ p.toInt ∧ p.toInt ≤ 400 then 1 else 0) := by
  obtain ⟨z, h1, h2, rfl⟩ := i_ex p
  rw [iI_toInt h1 h2, iI_l h1 h2, ql_0, ql_400, z_in _ _ _ (by omega) (by omega) (by omega) (by omega) (by omega) (by omega)]
theorem o21 {Inv : InvT} (H : HS Inv) : op_21 Inv := by
  intro _ _ _ _ _ _ _ _ _ _ _ _ _ _ _ _ _ st _ _ _ _ _ _ _ _ k0 k1 k2 k3 k4 k5 k6 n0 n1 n2 n3 n4 n5 n6 n7 p0 p1 p2 hI
  obtain ⟨c, X, Y, W, hB, hR, hM⟩ := H _ _ _ _ _ _ _ _ _ _ _ _ _ _ _ _ _ _ _ _ _ _ _ _ _ _ hI
  have hc := hB.1
  unfold f_X5_conflicts_0 f_X6_conflicts_0 f_X6_countTriangles_0
  rw [z_insq, z_ispt, bnd_some, bnd_some, z_isw, z_minw, bnd_some, bnd_some]
  by_cases h1 : (0 ≤ p0.toInt ∧ p0.toInt ≤ 20) ∧ 0 ≤ p1.toInt ∧ p1.toInt ≤ 20
  · rw [if_pos h1, if_neg (show ¬ (1 : Int32) = 0 by decide), if_neg (show ¬ (1 : Int32) = 0 by decide)]
    by_cases h2 : 0 ≤ p2.toInt ∧ p2.toInt ≤ 400
    · rw [if_pos h2, if_neg (show ¬ (1 : Int32) = 0 by decide), if_neg (show ¬ (1 : Int32) = 0 by decide), iI_of p0, iI_of p1, iI_of p2]
      obtain ⟨u1, u2, u3, u4, u5, u6, u7, e1⟩ := z_cf24 hR hB h1.1.1 h1.1.2 h1.2.1 h1.2.2 h2.1 h2.2 c 0 fuel k0 k1 k2 k3 k4 k5 k6 (by omega) (by unfold fuel; omega)
      obtain ⟨v1, v2, v3, v4, v5, v6, v7, e2⟩ := z_ct6 (x1 := 1) (x2 := iI p0.toInt) (x3 := iI p1.toInt) (x4 := iI p2.toInt) hM hB (Or.inr ⟨rfl, _, _, _, h1.1, h1.2, h2, rfl, rfl, rfl, rfl⟩) c 0 fuel n1 n2 n3 n4 n5 n6 n7 (by omega) (by unfold fuel; omega)
      rw [T0_down (c := c) (q := cnB X Y W c p0.toInt p1.toInt p2.toInt) (fun i j k _ _ _ => cnB_sym)] at e2
      have e2' : f_X6_countTriangles_6 st fuel n1 n2 n3 n4 n5 n6 n7 1 (iI p0.toInt) (iI p1.toInt) (iI p2.toInt) 0 0 = _ := e2
      rw [e2', bnd8_some]
      exact ⟨_, _, _, _, _, _, _, _, _, _, _, _, _, _, _, _, e1, rfl, hI⟩
    · rw [if_neg h2, if_pos rfl, if_pos rfl]
      exact ⟨_, _, _, _, _, _, _, _, _, _, _, _, _, _, _, _, rfl, rfl, hI⟩
  · rw [if_neg h1, if_pos rfl, if_pos rfl]
    exact ⟨_, _, _, _, _, _, _, _, _, _, _, _, _, _, _, _, rfl, rfl, hI⟩
end ZCF
