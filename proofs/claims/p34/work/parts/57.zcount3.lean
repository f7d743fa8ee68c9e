/-! ===== how many triangles ===== -/
theorem sumN_s {n : Nat} {f : Nat → Nat} : sumN (n + 1) f = sumN n f + f n := rfl
theorem sumN_cut {j c : Nat} {f : Nat → Nat} (h : j ≤ c) : sumN j f = sumN c (fun k => if k < j then f k else 0) := by
  induction c with
  | zero => rw [show j = 0 by omega]; rfl
  | succ c ih =>
    by_cases e : j = c + 1
    · subst e
      exact sumN_congr (fun i hi => by rw [if_pos hi])
    · rw [sumN_s, if_neg (by omega), ih (by omega)]
      rfl
theorem sumN_0 {n : Nat} {f : Nat → Nat} (h : ∀ i, i < n → f i = 0) : sumN n f = 0 := by
  rw [sumN_congr (g := fun _ => 0) h, sumN_zero]
/-- how many triples in order have a property -/
def T0 (c : Nat) (q : Nat → Nat → Nat → Bool) : Nat := sumN c (fun i => sumN c (fun j => sumN c (fun k => if i < j ∧ j < k ∧ q i j k = true then 1 else 0)))
theorem T0_down {c : Nat} {q : Nat → Nat → Nat → Bool} (hq : ∀ i j k, i < c → j < c → k < c → q i j k = q k j i) : sumN c (fun i => sumN i (fun j => sumN j (fun k => if q i j k = true then 1 else 0))) = T0 c q := by
  have e1 : sumN c (fun i => sumN i (fun j => sumN j (fun k => if q i j k = true then 1 else 0))) = sumN c (fun i => sumN c (fun j => sumN c (fun k => if j < i ∧ k < j ∧ q i j k = true then 1 else 0))) := by
    refine sumN_congr (fun i hi => ?_)
    rw [sumN_cut (Nat.le_of_lt hi)]
    refine sumN_congr (fun j hj => ?_)
    by_cases h : j < i
    · rw [if_pos h, sumN_cut (Nat.le_of_lt hj)]
      refine sumN_congr (fun k hk => ?_)
      by_cases h2 : k < j
      · rw [if_pos h2]
        by_cases h3 : q i j k = true
        · rw [if_pos h3, if_pos ⟨h, h2, h3⟩]
        · rw [if_neg h3, if_neg (fun z => h3 z.2.2)]
      · rw [if_neg h2, if_neg (fun z => h2 z.2.1)]
    · rw [if_neg h]
      exact (sumN_0 (fun k hk => if_neg (fun z => h z.1))).symm
  rw [e1]
  have e2 : sumN c (fun i => sumN c (fun j => sumN c (fun k => if j < i ∧ k < j ∧ q i j k = true then 1 else 0))) = sumN c (fun i => sumN c (fun k => sumN c (fun j => if j < i ∧ k < j ∧ q i j k = true then 1 else 0))) :=
    sumN_congr (fun i hi => sumN_swap)
  rw [e2, sumN_swap]
  unfold T0
  refine sumN_congr (fun i hi => ?_)
  rw [sumN_swap]
  refine sumN_congr (fun j hj => sumN_congr (fun k hk => ?_))
  rw [hq k j i hk hj hi]
  by_cases h : i < j ∧ j < k ∧ q i j k = true
  · rw [if_pos h, if_pos ⟨h.2.1, h.1, h.2.2⟩]
  · rw [if_neg h, if_neg (fun z => h ⟨z.2.1, z.1, z.2.2⟩)]
section ZC3
variable {c : Nat} {X Y W : Nat → Int} {cnt : Int32} {x y w : Nat → Int32} {st : Nat → Int32}
theorem ev_sgn {P Q : Pt} (hP : 0 < P.2.2) (hQ : 0 < Q.2.2) (e : eqv P Q) (l : Ln) : ev l P ≤ 0 ↔ ev l Q ≤ 0 := by
  constructor
  · intro h
    exact inn_eqv (L := [l]) hP hQ e (fun t ht => by rw [List.mem_singleton.mp ht]; exact h) l (List.mem_singleton.mpr rfl)
  · intro h
    exact inn_eqv (L := [l]) hQ hP (eqv_sy e) (fun t ht => by rw [List.mem_singleton.mp ht]; exact h) l (List.mem_singleton.mpr rfl)
theorem plq_dif (i k : Nat) (a b d : Int) (P : Pt) : ev (plq X Y W i a b d) P - ev (plq X Y W k a b d) P = ev (pl X Y W i k) P := by
  simp only [ev, plq, pl]
  grind
theorem TR_sym {i j k : Nat} (h : TR X Y W c i j k) : TR X Y W c k j i ∧ ∀ a b d, (ev (plq X Y W i a b d) (nmt (pl X Y W i j) (pl X Y W i k)) ≤ 0 ↔ ev (plq X Y W k a b d) (nmt (pl X Y W k j) (pl X Y W k i)) ≤ 0) := by
  obtain ⟨hd, hin⟩ := h
  obtain ⟨e1, e2, e3⟩ := ev_nmt hd
  generalize hP : nmt (pl X Y W i j) (pl X Y W i k) = P at hin e1 e2 e3 ⊢
  have hd' : dt (pl X Y W k j) (pl X Y W k i) ≠ 0 := by
    have : dt (pl X Y W k j) (pl X Y W k i) = -dt (pl X Y W i j) (pl X Y W i k) := by
      simp only [dt, pl]
      clear hd hin e1 e2 e3 hP
      grind
    omega
  have same : ∀ a b d, ev (plq X Y W i a b d) P = ev (plq X Y W k a b d) P := by
    intro a b d
    have := plq_dif (X := X) (Y := Y) (W := W) i k a b d P
    omega
  have s1 : ∀ o, ev (pl X Y W k o) P = ev (pl X Y W i o) P := fun o => (same (X o) (Y o) (W o)).symm
  have z : ev (pl X Y W i i) P = 0 := by
    have := plq_dif (X := X) (Y := Y) (W := W) i i 0 0 0 P
    omega
  obtain ⟨f1, f2, f3⟩ := ev_nmt hd'
  have en := uniq hd' (P := P) (by rw [s1]; exact e1) (by rw [s1]; exact z) f1 f2
  refine ⟨⟨hd', fun o ho => (ev_sgn e3 f3 en _).mp (by rw [s1]; exact hin o ho)⟩, fun a b d => ?_⟩
  rw [same]
  exact ev_sgn e3 f3 en _
theorem triB_sym {i j k : Nat} : triB X Y W c i j k = triB X Y W c k j i := by
  by_cases h : TR X Y W c i j k
  · rw [triB_t h, triB_t (TR_sym h).1]
  · rw [triB_f h, triB_f (fun q => h (TR_sym q).1)]
/-- a triangle to whose centre a newcomer is nearer -/
noncomputable def cnB (X Y W : Nat → Int) (c : Nat) (a b d : Int) (i j k : Nat) : Bool := triB X Y W c i j k && decide (0 < ev (plq X Y W i a b d) (nmt (pl X Y W i j) (pl X Y W i k)))
theorem cnB_sym {a b d : Int} {i j k : Nat} : cnB X Y W c a b d i j k = cnB X Y W c a b d k j i := by
  unfold cnB
  rw [triB_sym (i := k) (j := j) (k := i)]
  by_cases h : TR X Y W c i j k
  · rw [triB_t h]
    have := (TR_sym h).2 a b d
    congr 1
    exact decide_eq_decide.mpr (by omega)
  · rw [triB_f h]
    rfl
theorem z_tc47 (hR : RS c X Y W cnt x y w) (hB : BD c X Y W) {i j : Nat} (hij : i < j) (hj : j < c) (k31 : Int32 → Int32 → Int32 → Int32 → (Nat → Int32) → (Nat → Int32) → (Nat → Int32) → Int32 → Int32 → Int32 → Option R_X5_triangleCount) {pc : Int32} {a b d : Nat → Int32} (hL : RLn ((List.range c).map (pl X Y W i)) pc a b d) (s : Nat) :
    ∀ (e k n : Nat) (mX mY mD : Int32), k + e = c → e < n → j < k → ∃ mX' mY' mD' : Int32, f_X5_triangleCount_47 k31 cnt x y w n pc mX mY mD a b d (iI (s + sumN k (fun k => if i < j ∧ j < k ∧ triB X Y W c i j k = true then 1 else 0) : Nat)) (iI i) (iI j) (iI k) = k31 pc mX' mY' mD' a b d (iI (s + sumN c (fun k => if i < j ∧ j < k ∧ triB X Y W c i j k = true then 1 else 0) : Nat)) (iI i) (iI (j + 1 : Nat)) := by
  have hc := hB.1
  intro e
  induction e with
  | zero =>
    intro k n mX mY mD hk hn hjk
    obtain ⟨n, rfl⟩ : ∃ k, n = k + 1 := ⟨n - 1, by omega⟩
    have e : k = c := by omega
    subst e
    refine ⟨mX, mY, mD, ?_⟩
    show g_X5_triangleCount_47 k31 cnt x y w (f_X5_triangleCount_47 k31 cnt x y w n) _ _ _ _ _ _ _ _ _ _ _ = _
    unfold g_X5_triangleCount_47
    rw [if_pos (by rw [hR.1, iI_le] <;> omega), iI_p1]
  | succ e ih =>
    intro k n mX mY mD hk hn hjk
    obtain ⟨n, rfl⟩ : ∃ k, n = k + 1 := ⟨n - 1, by omega⟩
    show ∃ mX' mY' mD' : Int32, g_X5_triangleCount_47 k31 cnt x y w (f_X5_triangleCount_47 k31 cnt x y w n) _ _ _ _ _ _ _ _ _ _ _ = _
    unfold g_X5_triangleCount_47
    obtain ⟨nX, nY, nD, e2, -⟩ := z_form hB hj (show k < c by omega) hL mX mY mD
    rw [if_neg (by rw [hR.1, iI_le] <;> omega), e2, bnd4_some, iI_p1, iI_p1]
    have ih' := ih (k + 1) n nX nY nD (by omega) (by omega) (by omega)
    rw [sumN_s] at ih'
    by_cases h : triB X Y W c i j k = true
    · rw [if_pos h, if_neg (by decide)]
      rwa [if_pos (show i < j ∧ j < k ∧ triB X Y W c i j k = true from ⟨hij, hjk, h⟩), ← Nat.add_assoc] at ih'
    · rw [if_neg h, if_pos rfl]
      rwa [if_neg (show ¬ (i < j ∧ j < k ∧ triB X Y W c i j k = true) from fun z => h z.2.2), Nat.add_zero] at ih'
theorem z_tc31 (hR : RS c X Y W cnt x y w) (hB : BD c X Y W) {i : Nat} (hi : i < c) (k4 : Int32 → Int32 → Int32 → Int32 → (Nat → Int32) → (Nat → Int32) → (Nat → Int32) → Int32 → Int32 → Option R_X5_triangleCount) {pc : Int32} {a b d : Nat → Int32} (hL : RLn ((List.range c).map (pl X Y W i)) pc a b d) (s : Nat) :
    ∀ (e j n : Nat) (mX mY mD : Int32), j + e = c → e < n → i < j → ∃ mX' mY' mD' : Int32, f_X5_triangleCount_31 k4 cnt x y w n pc mX mY mD a b d (iI (s + sumN j (fun j => sumN c (fun k => if i < j ∧ j < k ∧ triB X Y W c i j k = true then 1 else 0)) : Nat)) (iI i) (iI j) = k4 pc mX' mY' mD' a b d (iI (s + sumN c (fun j => sumN c (fun k => if i < j ∧ j < k ∧ triB X Y W c i j k = true then 1 else 0)) : Nat)) (iI (i + 1 : Nat)) := by
  have hc := hB.1
  intro e
  induction e with
  | zero =>
    intro j n mX mY mD hk hn hij
    obtain ⟨n, rfl⟩ : ∃ k, n = k + 1 := ⟨n - 1, by omega⟩
    have e : j = c := by omega
    subst e
    refine ⟨mX, mY, mD, ?_⟩
    show g_X5_triangleCount_31 k4 cnt x y w (f_X5_triangleCount_31 k4 cnt x y w n) _ _ _ _ _ _ _ _ _ _ = _
    unfold g_X5_triangleCount_31
    rw [if_pos (by rw [hR.1, iI_le] <;> omega), iI_p1]
  | succ e ih =>
    intro j n mX mY mD hk hn hij
    obtain ⟨n, rfl⟩ : ∃ k, n = k + 1 := ⟨n - 1, by omega⟩
    show ∃ mX' mY' mD' : Int32, g_X5_triangleCount_31 k4 cnt x y w (f_X5_triangleCount_31 k4 cnt x y w n) _ _ _ _ _ _ _ _ _ _ = _
    unfold g_X5_triangleCount_31
    rw [if_neg (by rw [hR.1, iI_le] <;> omega), nm_eq, iI_p1]
    obtain ⟨m1, m2, m3, e1⟩ := z_tc47 hR hB hij (show j < c by omega) (f_X5_triangleCount_31 k4 cnt x y w n) hL (s + sumN j (fun j => sumN c (fun k => if i < j ∧ j < k ∧ triB X Y W c i j k = true then 1 else 0))) e (j + 1) fuel mX mY mD (by omega) (by unfold fuel; omega) (by omega)
    rw [sumN_0 (n := j + 1) (fun k hk => if_neg (by omega)), Nat.add_zero] at e1
    rw [e1]
    have ih' := ih (j + 1) n m1 m2 m3 (by omega) (by omega) (by omega)
    rwa [sumN_s, ← Nat.add_assoc] at ih'
theorem z_tc4 (hR : RS c X Y W cnt x y w) (hB : BD c X Y W) :
    ∀ (e i n : Nat) (pc mX mY mD : Int32) (a b d : Nat → Int32), i + e = c → e < n → ∃ (pc' mX' mY' mD' : Int32) (a' b' d' : Nat → Int32), f_X5_triangleCount_4 cnt x y w n pc mX mY mD a b d (iI (sumN i (fun i => sumN c (fun j => sumN c (fun k => if i < j ∧ j < k ∧ triB X Y W c i j k = true then 1 else 0))) : Nat)) (iI i) = some (iI (T0 c (triB X Y W c) : Nat), pc', mX', mY', mD', a', b', d') := by
  have hc := hB.1
  intro e
  induction e with
  | zero =>
    intro i n pc mX mY mD a b d hk hn
    obtain ⟨n, rfl⟩ : ∃ k, n = k + 1 := ⟨n - 1, by omega⟩
    have e : i = c := by omega
    subst e
    refine ⟨pc, mX, mY, mD, a, b, d, ?_⟩
    show g_X5_triangleCount_4 cnt x y w (f_X5_triangleCount_4 cnt x y w n) _ _ _ _ _ _ _ _ _ = _
    unfold g_X5_triangleCount_4
    rw [if_pos (by rw [hR.1, iI_le] <;> omega)]
    rfl
  | succ e ih =>
    intro i n pc mX mY mD a b d hk hn
    obtain ⟨n, rfl⟩ : ∃ k, n = k + 1 := ⟨n - 1, by omega⟩
    show ∃ (pc' mX' mY' mD' : Int32) (a' b' d' : Nat → Int32), g_X5_triangleCount_4 cnt x y w (f_X5_triangleCount_4 cnt x y w n) _ _ _ _ _ _ _ _ _ = _
    unfold g_X5_triangleCount_4
    obtain ⟨a1, b1, d1, e1, h1⟩ := z_compare hR hB (show i < c by omega) pc a b d
    rw [if_neg (by rw [hR.1, iI_le] <;> omega), e1, bnd4_some, nm_eq, iI_p1]
    obtain ⟨m1, m2, m3, e2⟩ := z_tc31 hR hB (show i < c by omega) (f_X5_triangleCount_4 cnt x y w n) h1 (sumN i (fun i => sumN c (fun j => sumN c (fun k => if i < j ∧ j < k ∧ triB X Y W c i j k = true then 1 else 0)))) e (i + 1) fuel mX mY mD (by omega) (by unfold fuel; omega) (by omega)
    rw [sumN_0 (n := i + 1) (fun j hj => sumN_0 (fun k hk => if_neg (by omega))), Nat.add_zero] at e2
    rw [e2]
    exact ih (i + 1) n (iI c) m1 m2 m3 a1 b1 d1 (by omega) (by omega)
/-- what the reference counts -/
def Q6 (X Y W : Nat → Int) (c : Nat) (q : Nat → Nat → Nat → Bool) (x1 x2 x3 x4 : Int32) : Prop := (x1 = 0 ∧ q = triB X Y W c) ∨ (x1 = 1 ∧ ∃ a b d : Int, (0 ≤ a ∧ a ≤ 20) ∧ (0 ≤ b ∧ b ≤ 20) ∧ (0 ≤ d ∧ d ≤ 400) ∧ x2 = iI a ∧ x3 = iI b ∧ x4 = iI d ∧ q = cnB X Y W c a b d)
theorem z_ct30 (hM : RM c X Y W st) (hB : BD c X Y W) {q : Nat → Nat → Nat → Bool} {x1 x2 x3 x4 : Int32} (hq : Q6 X Y W c q x1 x2 x3 x4) {i j : Nat} (hi : i < c) (hj : j < c) (k20 : Int32 → Int64 → Int64 → Int64 → (Nat → Int32) → (Nat → Int32) → (Nat → Int32) → Int32 → Int32 → Int32 → Int32 → Int32 → Int32 → Int32 → Option R_X6_countTriangles) (s : Nat) :
    ∀ (e k n : Nat) (t1 : Int32) (c1 c2 c3 : Int64) (a b d : Nat → Int32), k + e = j → e < n → ∃ (t1' : Int32) (c1' c2' c3' : Int64) (a' b' d' : Nat → Int32), f_X6_countTriangles_30 k20 st n t1 c1 c2 c3 a b d x1 x2 x3 x4 (iI (s + sumN k (fun k => if q i j k = true then 1 else 0) : Nat)) (iI i) (iI j) (iI k) = k20 t1' c1' c2' c3' a' b' d' x1 x2 x3 x4 (iI (s + sumN j (fun k => if q i j k = true then 1 else 0) : Nat)) (iI i) (iI (j + 1 : Nat)) := by
  have hc := hB.1
  intro e
  induction e with
  | zero =>
    intro k n t1 c1 c2 c3 a b d hk hn
    obtain ⟨n, rfl⟩ : ∃ k, n = k + 1 := ⟨n - 1, by omega⟩
    have e : k = j := by omega
    subst e
    refine ⟨t1, c1, c2, c3, a, b, d, ?_⟩
    show g_X6_countTriangles_30 k20 st (f_X6_countTriangles_30 k20 st n) _ _ _ _ _ _ _ _ _ _ _ _ _ _ _ = _
    unfold g_X6_countTriangles_30
    rw [if_pos (by rw [iI_le] <;> omega), iI_p1]
  | succ e ih =>
    intro k n t1 c1 c2 c3 a b d hk hn
    obtain ⟨n, rfl⟩ : ∃ k, n = k + 1 := ⟨n - 1, by omega⟩
    show ∃ (t1' : Int32) (c1' c2' c3' : Int64) (a' b' d' : Nat → Int32), g_X6_countTriangles_30 k20 st (f_X6_countTriangles_30 k20 st n) _ _ _ _ _ _ _ _ _ _ _ _ _ _ _ = _
    unfold g_X6_countTriangles_30
    obtain ⟨v1, v2, v3, v4, v5, v6, v7, e3, h3⟩ := z_areTri hM hB hi hj (show k < c by omega) t1 c1 c2 c3 a b d
    rw [if_neg (by rw [iI_le] <;> omega), e3, bnd8_some, iI_p1, nm_eq, nm_eq, iI_p1]
    have z0 : ∀ m : Nat, iI m + (0 : Int32) = iI m := fun m => by rw [q_0, iI_add, Int.add_zero]
    rw [z0]
    have ih' := ih (k + 1) n v1 v2 v3 v4 v5 v6 v7 (by omega) (by omega)
    rw [sumN_s] at ih'
    by_cases h : triB X Y W c i j k = true
    · rw [if_pos h, if_neg (show ¬ (1 : Int32) = 0 by decide)]
      obtain ⟨p1, p2, p3⟩ := h3 h
      rcases hq with ⟨rfl, rfl⟩ | ⟨rfl, a0, b0, d0, ⟨g1, g2⟩, ⟨g3, g4⟩, ⟨g5, g6⟩, rfl, rfl, rfl, rfl⟩
      · rw [if_pos rfl]
        rwa [if_pos h, ← Nat.add_assoc] at ih'
      · rw [if_neg (by decide)]
        have hP := nm_BP hB (triB_iff.mp h).1
        have e4 := z_closer hM hB hi hP g1 g2 g3 g4 g5 g6
        rw [← p1, ← p2, ← p3] at e4
        rw [e4, bnd_some]
        unfold cnB at ih'
        rw [h, Bool.true_and] at ih'
        by_cases h5 : ev (plq X Y W i a0 b0 d0) (nmt (pl X Y W i j) (pl X Y W i k)) ≤ 0
        · rw [if_pos h5, if_pos rfl]
          rw [if_neg (fun z => by have := of_decide_eq_true z; omega), Nat.add_zero] at ih'
          unfold cnB
          exact ih'
        · rw [if_neg h5, if_neg (by decide)]
          rw [if_pos (decide_eq_true (by omega)), ← Nat.add_assoc] at ih'
          unfold cnB
          exact ih'
    · rw [if_neg h, if_pos rfl]
      have hqf : ¬ q i j k = true := by
        rcases hq with ⟨-, rfl⟩ | ⟨-, a0, b0, d0, -, -, -, -, -, -, rfl⟩
        · exact h
        · unfold cnB
          rw [Bool.eq_false_iff.mpr h, Bool.false_and]
          decide
      rwa [if_neg hqf, Nat.add_zero] at ih'
theorem z_ct20 (hM : RM c X Y W st) (hB : BD c X Y W) {q : Nat → Nat → Nat → Bool} {x1 x2 x3 x4 : Int32} (hq : Q6 X Y W c q x1 x2 x3 x4) {i : Nat} (hi : i < c) (k6 : Int32 → Int64 → Int64 → Int64 → (Nat → Int32) → (Nat → Int32) → (Nat → Int32) → Int32 → Int32 → Int32 → Int32 → Int32 → Int32 → Option R_X6_countTriangles) (s : Nat) :
    ∀ (e j n : Nat) (t1 : Int32) (c1 c2 c3 : Int64) (a b d : Nat → Int32), j + e = i → e < n → ∃ (t1' : Int32) (c1' c2' c3' : Int64) (a' b' d' : Nat → Int32), f_X6_countTriangles_20 k6 st n t1 c1 c2 c3 a b d x1 x2 x3 x4 (iI (s + sumN j (fun j => sumN j (fun k => if q i j k = true then 1 else 0)) : Nat)) (iI i) (iI j) = k6 t1' c1' c2' c3' a' b' d' x1 x2 x3 x4 (iI (s + sumN i (fun j => sumN j (fun k => if q i j k = true then 1 else 0)) : Nat)) (iI (i + 1 : Nat)) := by
  have hc := hB.1
  intro e
  induction e with
  | zero =>
    intro j n t1 c1 c2 c3 a b d hk hn
    obtain ⟨n, rfl⟩ : ∃ k, n = k + 1 := ⟨n - 1, by omega⟩
    have e : j = i := by omega
    subst e
    refine ⟨t1, c1, c2, c3, a, b, d, ?_⟩
    show g_X6_countTriangles_20 k6 st (f_X6_countTriangles_20 k6 st n) _ _ _ _ _ _ _ _ _ _ _ _ _ _ = _
    unfold g_X6_countTriangles_20
    rw [if_pos (by rw [iI_le] <;> omega), iI_p1]
  | succ e ih =>
    intro j n t1 c1 c2 c3 a b d hk hn
    obtain ⟨n, rfl⟩ : ∃ k, n = k + 1 := ⟨n - 1, by omega⟩
    show ∃ (t1' : Int32) (c1' c2' c3' : Int64) (a' b' d' : Nat → Int32), g_X6_countTriangles_20 k6 st (f_X6_countTriangles_20 k6 st n) _ _ _ _ _ _ _ _ _ _ _ _ _ _ = _
    unfold g_X6_countTriangles_20
    rw [if_neg (by rw [iI_le] <;> omega)]
    obtain ⟨v1, v2, v3, v4, v5, v6, v7, e1⟩ := z_ct30 hM hB hq hi (show j < c by omega) (f_X6_countTriangles_20 k6 st n) (s + sumN j (fun j => sumN j (fun k => if q i j k = true then 1 else 0))) j 0 fuel t1 c1 c2 c3 a b d (by omega) (by unfold fuel; omega)
    have e1' : f_X6_countTriangles_30 (f_X6_countTriangles_20 k6 st n) st fuel t1 c1 c2 c3 a b d x1 x2 x3 x4 (iI (s + sumN j (fun j => sumN j (fun k => if q i j k = true then 1 else 0)) : Nat)) (iI i) (iI j) 0 = _ := e1
    rw [e1']
    have ih' := ih (j + 1) n v1 v2 v3 v4 v5 v6 v7 (by omega) (by omega)
    rwa [sumN_s, ← Nat.add_assoc] at ih'
theorem z_ct6 (hM : RM c X Y W st) (hB : BD c X Y W) {q : Nat → Nat → Nat → Bool} {x1 x2 x3 x4 : Int32} (hq : Q6 X Y W c q x1 x2 x3 x4) :
    ∀ (e i n : Nat) (t1 : Int32) (c1 c2 c3 : Int64) (a b d : Nat → Int32), i + e = c → e < n → ∃ (t1' : Int32) (c1' c2' c3' : Int64) (a' b' d' : Nat → Int32), f_X6_countTriangles_6 st n t1 c1 c2 c3 a b d x1 x2 x3 x4 (iI (sumN i (fun i => sumN i (fun j => sumN j (fun k => if q i j k = true then 1 else 0))) : Nat)) (iI i) = some (iI (sumN c (fun i => sumN i (fun j => sumN j (fun k => if q i j k = true then 1 else 0))) : Nat), t1', c1', c2', c3', a', b', d') := by
  have hc := hB.1
  intro e
  induction e with
  | zero =>
    intro i n t1 c1 c2 c3 a b d hk hn
    obtain ⟨n, rfl⟩ : ∃ k, n = k + 1 := ⟨n - 1, by omega⟩
    have e : i = c := by omega
    subst e
    refine ⟨t1, c1, c2, c3, a, b, d, ?_⟩
    show g_X6_countTriangles_6 st (f_X6_countTriangles_6 st n) _ _ _ _ _ _ _ x1 x2 x3 x4 _ _ = _
    unfold g_X6_countTriangles_6
    rw [show (0 : Int32).toNatClampNeg = 0 from rfl, if_pos (by rw [hM.1, iI_le] <;> omega)]
  | succ e ih =>
    intro i n t1 c1 c2 c3 a b d hk hn
    obtain ⟨n, rfl⟩ : ∃ k, n = k + 1 := ⟨n - 1, by omega⟩
    show ∃ (t1' : Int32) (c1' c2' c3' : Int64) (a' b' d' : Nat → Int32), g_X6_countTriangles_6 st (f_X6_countTriangles_6 st n) _ _ _ _ _ _ _ x1 x2 x3 x4 _ _ = _
    unfold g_X6_countTriangles_6
    rw [show (0 : Int32).toNatClampNeg = 0 from rfl, if_neg (by rw [hM.1, iI_le] <;> omega)]
    obtain ⟨v1, v2, v3, v4, v5, v6, v7, e1⟩ := z_ct20 hM hB hq (show i < c by omega) (f_X6_countTriangles_6 st n) (sumN i (fun i => sumN i (fun j => sumN j (fun k => if q i j k = true then 1 else 0)))) i 0 fuel t1 c1 c2 c3 a b d (by omega) (by unfold fuel; omega)
    have e1' : f_X6_countTriangles_20 (f_X6_countTriangles_6 st n) st fuel t1 c1 c2 c3 a b d x1 x2 x3 x4 (iI (sumN i (fun i => sumN i (fun j => sumN j (fun k => if q i j k = true then 1 else 0))) : Nat)) (iI i) 0 = _ := e1
    rw [e1']
    exact ih (i + 1) n v1 v2 v3 v4 v5 v6 v7 (by omega) (by omega)
theorem o20 {Inv : InvT} (H : HS Inv) : op_20 Inv := by
  intro _ _ _ _ _ _ _ _ _ _ _ _ _ _ _ _ _ st _ _ _ _ _ _ _ _ k0 k1 k2 k3 k4 k5 k6 n0 n1 n2 n3 n4 n5 n6 n7 hI
  obtain ⟨c, X, Y, W, hB, hR, hM⟩ := H _ _ _ _ _ _ _ _ _ _ _ _ _ _ _ _ _ _ _ _ _ _ _ _ _ _ hI
  have hc := hB.1
  unfold f_X5_triangleCount_0 f_X6_triangleCount_0 f_X6_countTriangles_0
  obtain ⟨u1, u2, u3, u4, u5, u6, u7, e1⟩ := z_tc4 hR hB c 0 fuel k0 k1 k2 k3 k4 k5 k6 (by omega) (by unfold fuel; omega)
  obtain ⟨v1, v2, v3, v4, v5, v6, v7, e2⟩ := z_ct6 (x1 := 0) (x2 := 0) (x3 := 0) (x4 := 0) hM hB (Or.inl ⟨rfl, rfl⟩) c 0 fuel n1 n2 n3 n4 n5 n6 n7 (by omega) (by unfold fuel; omega)
  rw [T0_down (c := c) (q := triB X Y W c) (fun i j k _ _ _ => triB_sym)] at e2
  have e2' : f_X6_countTriangles_6 st fuel n1 n2 n3 n4 n5 n6 n7 0 0 0 0 0 0 = _ := e2
  rw [e2', bnd8_some]
  exact ⟨_, _, _, _, _, _, _, _, _, _, _, _, _, _, _, _, e1, rfl, hI⟩
end ZC3
