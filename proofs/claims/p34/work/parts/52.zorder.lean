/-! ===== both sides put the corners in order ===== -/
theorem tau_comm {i j k : Nat} : tau i j k = tau j i k := by
  unfold tau
  split <;> split <;> omega
theorem swp_comm {f : Nat → Pt} {i j : Nat} : swp f i j = swp f j i := by
  funext k
  unfold swp
  rw [tau_comm]
theorem z_swapIn {row : Nat → Int32} {i j : Nat} (hi : i < 14) (hj : j < 14) : f_X0_swapIn_0 row (iI i) (iI j) = some (fun k => row (tau i j k)) := by
  unfold f_X0_swapIn_0
  rw [gIx_iI (by omega) (by omega) (by omega), nm_eq, gIx_iI (by omega) (by omega) (by omega), iI_clN (by omega), iI_clN (by omega)]
  congr 1
  funext k
  unfold upd tau
  by_cases h1 : k = j
  · subst h1
    by_cases h2 : k = i
    · subst h2; simp
    · simp [h2]
  · by_cases h2 : k = i
    · subst h2; simp [h1]
    · simp [h1, h2]
theorem RPn_swp {c : Nat} {f : Nat → Pt} {cnt : Int32} {x y d : Nat → Int32} (h : RPn c f cnt x y d) {i j : Nat} (hi : i < c) (hj : j < c) : RPn c (swp f i j) cnt (fun k => x (tau i j k)) (fun k => y (tau i j k)) (fun k => d (tau i j k)) :=
  ⟨h.1, fun k hk => h.2 _ (tau_lt hi hj hk)⟩
theorem z_swap {c : Nat} {f : Nat → Pt} {cnt : Int32} {x y d : Nat → Int32} (h : RPn c f cnt x y d) (hc : c ≤ 14) {i j : Nat} (hi : i < c) (hj : j < c) : f_X0_swap_0 x y d (iI i) (iI j) = some ((fun k => x (tau i j k)), (fun k => y (tau i j k)), (fun k => d (tau i j k))) := by
  unfold f_X0_swap_0
  rw [z_swapIn (by omega) (by omega), bnd_some, z_swapIn (by omega) (by omega), bnd_some, z_swapIn (by omega) (by omega), bnd_some]
theorem z_before {c : Nat} {f : Nat → Pt} {cnt : Int32} {x y d : Nat → Int32} (h : RPn c f cnt x y d) (hc : c ≤ 14) {i j : Nat} (hi : i < c) (hj : j < c) : f_X0_isBefore_0 x d y (iI i) (iI j) = some (if befB (f i) (f j) = true then 1 else 0) := by
  unfold f_X0_isBefore_0
  obtain ⟨a1, a2, a3, a4⟩ := h.2 i hi
  obtain ⟨b1, b2, b3, b4⟩ := h.2 j hj
  have p1 := xd_b a4 b4
  have p2 := xd_b b4 a4
  rw [gIx_iI (by omega) (by omega) (by omega), gIx_iI (by omega) (by omega) (by omega), nm_eq, nm_eq, iI_clN (by omega), iI_clN (by omega), a1, a2, a3, b1, b2, b3, iI_mul, iI_mul, iI_mul, iI_mul]
  by_cases hb : bef (f i) (f j)
  · rw [if_pos (befB_iff.mpr hb)]
    rcases hb with hb | ⟨hb, hb2⟩
    · rw [if_neg (by rw [iI_eq] <;> omega), if_neg (by rw [iI_le] <;> omega)]
    · rw [if_pos (by rw [hb]), if_neg (by rw [iI_le] <;> omega)]
  · rw [if_neg (fun q => hb (befB_iff.mp q))]
    unfold bef at hb
    by_cases e : (f i).1 * (f j).2.2 = (f j).1 * (f i).2.2
    · rw [if_pos (by rw [e]), if_pos (by rw [iI_le] <;> omega)]
    · rw [if_neg (by rw [iI_eq] <;> omega), if_pos (by rw [iI_le] <;> omega)]
theorem D3_b {o P Q : Pt} (ho : BP o) (hP : BP P) (hQ : BP Q) : -1000000000000000 ≤ D3 o P Q ∧ D3 o P Q ≤ 1000000000000000 := by
  have p1 := xd_b hP hQ
  have p2 := xd_b hQ hP
  obtain ⟨⟨x1, x2⟩, ⟨y1, y2⟩, d1, d2⟩ := ho
  have hP' := hP
  have hQ' := hQ
  obtain ⟨⟨px1, px2⟩, ⟨py1, py2⟩, -⟩ := hP'
  obtain ⟨⟨qx1, qx2⟩, ⟨qy1, qy2⟩, -⟩ := hQ'
  have m1 := mul_b (A := 96000) (B := 614400000) x1 x2 (b := P.2.1 * Q.2.2 - Q.2.1 * P.2.2) (by omega) (by omega)
  have m2 := mul_b (A := 96000) (B := 614400000) y1 y2 (b := P.1 * Q.2.2 - Q.1 * P.2.2) (by omega) (by omega)
  have n1 := mul_b (A := 96000) (B := 96000) px1 px2 qy1 qy2
  have n2 := mul_b (A := 96000) (B := 96000) qx1 qx2 py1 py2
  have m3 := mul_b (A := 3200) (B := 18432000000) (a := o.2.2) (b := P.1 * Q.2.1 - Q.1 * P.2.1) (by omega) d2 (by omega) (by omega)
  unfold D3
  omega
theorem z_turn {c : Nat} {f : Nat → Pt} {cnt : Int32} {x y d : Nat → Int32} (h : RPn c f cnt x y d) (hc : c ≤ 14) {i j : Nat} (hi : i < c) (hj : j < c) : f_X0_turn_0 x y d (iI i) (iI j) = some (lI (D3 (f 0) (f i) (f j))) := by
  unfold f_X0_turn_0
  obtain ⟨o1, o2, o3, o4⟩ := h.2 0 (by omega)
  obtain ⟨a1, a2, a3, a4⟩ := h.2 i hi
  obtain ⟨b1, b2, b3, b4⟩ := h.2 j hj
  rw [gIx_iI (by omega) (by omega) (by omega), gIx_iI (by omega) (by omega) (by omega), iI_clN (by omega), iI_clN (by omega), show (0 : Int32).toNatClampNeg = 0 from rfl, o1, o2, o3, a1, a2, a3, b1, b2, b3]
  unfold BP at o4 a4 b4
  rw [iI_l (z := (f 0).1) (by omega) (by omega), iI_l (z := (f 0).2.1) (by omega) (by omega), iI_l (z := (f 0).2.2) (by omega) (by omega), iI_l (z := (f i).1) (by omega) (by omega), iI_l (z := (f i).2.1) (by omega) (by omega), iI_l (z := (f i).2.2) (by omega) (by omega), iI_l (z := (f j).1) (by omega) (by omega), iI_l (z := (f j).2.1) (by omega) (by omega), iI_l (z := (f j).2.2) (by omega) (by omega)]
  simp only [lI_mul, lI_sub, lI_add]
  rfl
theorem iI_p1 (k : Nat) : iI k + (1 : Int32) = iI ((k + 1 : Nat) : Int) := by rw [q_1, iI_add]; rfl
theorem z_ins {c : Nat} {cnt : Int32} (hc : c ≤ 14) (k33 : (Nat → Int32) → (Nat → Int32) → (Nat → Int32) → Int32 → Option R_X0_putInOrder) (k : Nat) :
    ∀ (m n : Nat) (f : Nat → Pt) (x y d : Nat → Int32), m < c → m < n → RPn c f cnt x y d → ∃ x' y' d', f_X0_putInOrder_43 k33 cnt n x d y (iI k) (iI m) = k33 x' d' y' (iI ((k + 1 : Nat) : Int)) ∧ RPn c (insF m f) cnt x' y' d' := by
  intro m
  induction m with
  | zero =>
    intro n f x y d hm hn h
    obtain ⟨n, rfl⟩ : ∃ k, n = k + 1 := ⟨n - 1, by omega⟩
    refine ⟨x, y, d, ?_, h⟩
    have key : ∀ z, f_X0_putInOrder_43 k33 cnt (n + 1) x d y (iI k) z = g_X0_putInOrder_43 k33 cnt (f_X0_putInOrder_43 k33 cnt n) x d y (iI k) z := fun _ => rfl
    rw [key]
    unfold g_X0_putInOrder_43
    rw [if_pos (by rw [q_1, iI_le] <;> omega), iI_p1]
  | succ m ih =>
    intro n f x y d hm hn h
    obtain ⟨n, rfl⟩ : ∃ k, n = k + 1 := ⟨n - 1, by omega⟩
    show ∃ x' y' d', g_X0_putInOrder_43 k33 cnt (f_X0_putInOrder_43 k33 cnt n) _ _ _ _ _ = _ ∧ _
    unfold g_X0_putInOrder_43 insF
    by_cases h0 : m = 0
    · subst h0
      rw [if_pos (by rw [q_1, iI_le] <;> omega), if_pos rfl, iI_p1]
      exact ⟨x, y, d, rfl, h⟩
    · rw [if_neg (by rw [q_1, iI_le] <;> omega), if_neg h0]
      have em : iI ((m + 1 : Nat) : Int) - (1 : Int32) = iI (m : Int) := by rw [q_1, iI_sub]; congr 1; omega
      have em2 : iI ((m + 1 : Nat) : Int) + (-1 : Int32) = iI (m : Int) := by rw [show (-1 : Int32) = iI (-1) from rfl, iI_add]; congr 1; omega
      rw [em, em2, z_turn h hc (by omega) (by omega), bnd_some]
      have hb := D3_b (h.2 0 (by omega)).2.2.2 (h.2 m (by omega)).2.2.2 (h.2 (m + 1) hm).2.2.2
      by_cases hd : D3 (f 0) (f m) (f (m + 1)) < 0
      · rw [if_pos hd, if_neg (by rw [ql_0, cmp_ge] <;> omega), z_swap h hc (by omega) (by omega), bnd3_some]
        exact ih n _ _ _ _ (by omega) (by omega) (RPn_swp h (by omega) (by omega))
      · rw [if_neg hd, if_pos (by rw [ql_0, cmp_ge] <;> omega), iI_p1]
        exact ⟨x, y, d, rfl, h⟩
theorem z_srt {c : Nat} {cnt : Int32} (hc : c ≤ 14) (g0 : Nat → Pt) :
    ∀ (e k n : Nat) (x y d : Nat → Int32), k + e = max c 2 → 2 ≤ k → e < n → RPn c (srtF k g0) cnt x y d → ∃ x' y' d', f_X0_putInOrder_33 cnt n x d y (iI k) = some (x', d', y') ∧ RPn c (srtF (max c 2) g0) cnt x' y' d' := by
  intro e
  induction e with
  | zero =>
    intro k n x y d hk h2 hn h
    obtain ⟨n, rfl⟩ : ∃ k, n = k + 1 := ⟨n - 1, by omega⟩
    have e : k = max c 2 := by omega
    subst e
    refine ⟨x, y, d, ?_, h⟩
    show g_X0_putInOrder_33 _ _ _ _ _ _ = _
    unfold g_X0_putInOrder_33
    rw [if_pos (by rw [h.1, iI_le] <;> omega)]
  | succ e ih =>
    intro k n x y d hk h2 hn h
    obtain ⟨n, rfl⟩ : ∃ k, n = k + 1 := ⟨n - 1, by omega⟩
    show ∃ x' y' d', g_X0_putInOrder_33 cnt (f_X0_putInOrder_33 cnt n) _ _ _ _ = _ ∧ _
    unfold g_X0_putInOrder_33
    rw [if_neg (by rw [h.1, iI_le] <;> omega)]
    obtain ⟨x1, y1, d1, e1, h1⟩ := z_ins hc (f_X0_putInOrder_33 cnt n) k k fuel (srtF k g0) x y d (by omega) (by unfold fuel; omega) h
    rw [e1]
    have e3 : insF k (srtF k g0) = srtF (k + 1) g0 := by rw [srtF, if_neg (by omega)]
    rw [e3] at h1
    exact ih (k + 1) n x1 y1 d1 (by omega) (by omega) (by omega) h1
theorem z_mn {c : Nat} {cnt : Int32} (hc : c ≤ 14) (hc1 : 1 ≤ c) (f0 : Nat → Pt) :
    ∀ (e k n : Nat) (x y d : Nat → Int32), k + e = c → 1 ≤ k → e < n → RPn c (mnF k f0) cnt x y d → ∃ x' y' d', f_X0_putInOrder_2 cnt n x d y (iI k) = some (x', d', y') ∧ RPn c (srtF (max c 2) (mnF c f0)) cnt x' y' d' := by
  intro e
  induction e with
  | zero =>
    intro k n x y d hk h2 hn h
    obtain ⟨n, rfl⟩ : ∃ k, n = k + 1 := ⟨n - 1, by omega⟩
    have e : k = c := by omega
    subst e
    show ∃ x' y' d', g_X0_putInOrder_2 cnt (f_X0_putInOrder_2 cnt n) _ _ _ _ = _ ∧ _
    unfold g_X0_putInOrder_2
    rw [if_pos (by rw [h.1, iI_le] <;> omega)]
    exact z_srt hc (mnF k f0) (max k 2 - 2) 2 fuel x y d (by omega) (by omega) (by unfold fuel; omega) h
  | succ e ih =>
    intro k n x y d hk h2 hn h
    obtain ⟨n, rfl⟩ : ∃ k, n = k + 1 := ⟨n - 1, by omega⟩
    show ∃ x' y' d', g_X0_putInOrder_2 cnt (f_X0_putInOrder_2 cnt n) _ _ _ _ = _ ∧ _
    unfold g_X0_putInOrder_2
    rw [if_neg (by rw [h.1, iI_le] <;> omega), iI_p1, show (0 : Int32) = iI ((0 : Nat) : Int) from rfl, z_before h hc (by omega) (by omega), bnd_some]
    have e3 : mnF (k + 1) f0 = if befB (mnF k f0 k) (mnF k f0 0) = true then swp (mnF k f0) k 0 else mnF k f0 := by rw [mnF, if_neg (by omega)]
    by_cases hb : befB (mnF k f0 k) (mnF k f0 0) = true
    · rw [if_pos hb] at e3
      rw [if_pos hb, if_neg (by decide), z_swap h hc (by omega) (by omega), bnd3_some]
      refine ih (k + 1) n _ _ _ (by omega) (by omega) (by omega) ?_
      rw [e3]
      exact RPn_swp h (by omega) (by omega)
    · rw [if_neg hb] at e3
      rw [if_neg hb, if_pos (show (0 : Int32) = iI ((0 : Nat) : Int) from rfl)]
      refine ih (k + 1) n x y d (by omega) (by omega) (by omega) ?_
      rw [e3]
      exact h
theorem z_inOrder {c : Nat} {f : Nat → Pt} {cnt : Int32} {x y d : Nat → Int32} (h : RPn c f cnt x y d) (hc : c ≤ 14) (hc3 : 3 ≤ c) : ∃ x' y' d', f_X0_putInOrder_0 cnt x d y = some (x', d', y') ∧ RPn c (sortF c f) cnt x' y' d' := by
  unfold f_X0_putInOrder_0
  obtain ⟨x', y', d', e, h'⟩ := z_mn (cnt := cnt) hc (by omega) f (c - 1) 1 fuel x y d (by omega) (by omega) (by unfold fuel; omega) (by rw [show mnF 1 f = f from rfl]; exact h)
  rw [show max c 2 = c by omega] at h'
  exact ⟨x', y', d', e, h'⟩
/-! the reference -/
theorem RPm_swp {c : Nat} {f : Nat → Pt} {cnt : Int32} {x y d : Nat → Int64} (h : RPm c f cnt x y d) {i j : Nat} (hi : i < c) (hj : j < c) : RPm c (swp f i j) cnt (fun k => x (tau i j k)) (fun k => y (tau i j k)) (fun k => d (tau i j k)) :=
  ⟨h.1, fun k hk => h.2 _ (tau_lt hi hj hk)⟩
theorem updL_swap {row : Nat → Int64} {i j : Nat} : vp_updL (vp_updL row i (row j)) j (row i) = fun k => row (tau i j k) := by
  funext k
  unfold vp_updL tau
  by_cases h1 : k = j
  · subst h1
    by_cases h2 : k = i
    · subst h2; simp
    · simp [h2]
  · by_cases h2 : k = i
    · subst h2; simp [h1]
    · simp [h1, h2]
theorem z_mswap {x y d : Nat → Int64} {i j : Nat} (hi : i < 40) (hj : j < 40) : f_X6_swap_0 x y d (iI i) (iI j) = some ((fun k => x (tau i j k)), (fun k => y (tau i j k)), (fun k => d (tau i j k))) := by
  unfold f_X6_swap_0
  rw [gIx_iI (by omega) (by omega) (by omega), nm_eq, nm_eq, nm_eq, gIx_iI (by omega) (by omega) (by omega), iI_clN (by omega), iI_clN (by omega), updL_swap, updL_swap, updL_swap]
theorem z_left {c : Nat} {f : Nat → Pt} {cnt : Int32} {x y d : Nat → Int64} (h : RPm c f cnt x y d) (hc : c ≤ 40) {i j : Nat} (hi : i < c) (hj : j < c) : f_X6_isLeft_0 x d y (iI i) (iI j) = some (if befB (f i) (f j) = true then 1 else 0) := by
  unfold f_X6_isLeft_0
  obtain ⟨a1, a2, a3, a4⟩ := h.2 i hi
  obtain ⟨b1, b2, b3, b4⟩ := h.2 j hj
  have p1 := xd_b a4 b4
  have p2 := xd_b b4 a4
  rw [gIx_iI (by omega) (by omega) (by omega), gIx_iI (by omega) (by omega) (by omega), nm_eq, nm_eq, iI_clN (by omega), iI_clN (by omega), a1, a2, a3, b1, b2, b3, lI_mul, lI_mul, lI_mul, lI_mul]
  by_cases hb : bef (f i) (f j)
  · rw [if_pos (befB_iff.mpr hb)]
    rcases hb with hb | ⟨hb, hb2⟩
    · rw [if_pos (by rw [cmp_lt] <;> omega)]
    · rw [if_neg (by rw [cmp_lt] <;> omega), if_pos (by rw [cmp_eq] <;> omega), if_neg (by rw [cmp_ge] <;> omega)]
  · rw [if_neg (fun q => hb (befB_iff.mp q))]
    unfold bef at hb
    by_cases e : (f i).1 * (f j).2.2 = (f j).1 * (f i).2.2
    · rw [if_neg (by rw [cmp_lt] <;> omega), if_pos (by rw [cmp_eq] <;> omega), if_pos (by rw [cmp_ge] <;> omega)]
    · rw [if_neg (by rw [cmp_lt] <;> omega), if_neg (by rw [cmp_eq] <;> omega)]
theorem z_ahead {c : Nat} {f : Nat → Pt} {cnt : Int32} {x y d : Nat → Int64} (h : RPm c f cnt x y d) (hc : c ≤ 40) {i j : Nat} (hi : i < c) (hj : j < c) : f_X6_isAhead_0 x d y (iI i) (iI j) = some (if D3 (f 0) (f j) (f i) < 0 then 1 else 0) := by
  unfold f_X6_isAhead_0
  obtain ⟨o1, o2, o3, o4⟩ := h.2 0 (by omega)
  obtain ⟨a1, a2, a3, a4⟩ := h.2 i hi
  obtain ⟨b1, b2, b3, b4⟩ := h.2 j hj
  have p1 := xd_b a4 o4
  have p2 := xd_b o4 a4
  have p3 := xd_b b4 o4
  have p4 := xd_b o4 b4
  rw [gIx_iI (by omega) (by omega) (by omega), nm_eq, nm_eq, gIx_iI (by omega) (by omega) (by omega), nm_eq, nm_eq, iI_clN (by omega), iI_clN (by omega), show (0 : Int32).toNatClampNeg = 0 from rfl, o1, o2, o3, a1, a2, a3, b1, b2, b3]
  simp only [lI_mul, lI_sub]
  have e : ((f i).1 * (f 0).2.2 - (f 0).1 * (f i).2.2) * ((f j).2.1 * (f 0).2.2 - (f 0).2.1 * (f j).2.2) - ((f i).2.1 * (f 0).2.2 - (f 0).2.1 * (f i).2.2) * ((f j).1 * (f 0).2.2 - (f 0).1 * (f j).2.2) = -((f 0).2.2 * D3 (f 0) (f j) (f i)) := by
    simp only [D3]
    clear p1 p2 p3 p4 o1 o2 o3 o4 a1 a2 a3 a4 b1 b2 b3 b4 h
    grind
  have m1 := mul_b (A := 614400000) (B := 614400000) (a := (f i).1 * (f 0).2.2 - (f 0).1 * (f i).2.2) (b := (f j).2.1 * (f 0).2.2 - (f 0).2.1 * (f j).2.2) (by omega) (by omega) (by omega) (by omega)
  have m2 := mul_b (A := 614400000) (B := 614400000) (a := (f i).2.1 * (f 0).2.2 - (f 0).2.1 * (f i).2.2) (b := (f j).1 * (f 0).2.2 - (f 0).1 * (f j).2.2) (by omega) (by omega) (by omega) (by omega)
  rw [ql_0]
  have od := o4.2.2.1
  by_cases hd : D3 (f 0) (f j) (f i) < 0
  · rw [if_pos hd, if_neg (by
      have := Int.mul_pos od (show 0 < -D3 (f 0) (f j) (f i) by omega)
      rw [Int.mul_neg] at this
      rw [cmp_le] <;> omega)]
  · rw [if_neg hd, if_pos (by
      have := Int.mul_nonneg (Int.le_of_lt od) (show 0 ≤ D3 (f 0) (f j) (f i) by omega)
      rw [cmp_le] <;> omega)]
section ZO
variable {p0 : Nat → Int32} {pl' : Int32} {a b cc : Nat → Int32}
theorem z_mins {c : Nat} {cnt : Int32} (hc : c ≤ 40) (k56 : Int32 → Int32 → (Nat → Int32) → (Nat → Int32) → (Nat → Int32) → (Nat → Int64) → (Nat → Int64) → (Nat → Int64) → Int32 → Option R_X6_polygon) (k : Nat) :
    ∀ (m n : Nat) (f : Nat → Pt) (x y d : Nat → Int64), m < c → m < n → RPm c f cnt x y d → ∃ x' y' d', f_X6_polygon_67 k56 p0 n pl' cnt a b cc x d y (iI k) (iI m) = k56 pl' cnt a b cc x' d' y' (iI ((k + 1 : Nat) : Int)) ∧ RPm c (insF m f) cnt x' y' d' := by
  intro m
  induction m with
  | zero =>
    intro n f x y d hm hn h
    obtain ⟨n, rfl⟩ : ∃ k, n = k + 1 := ⟨n - 1, by omega⟩
    refine ⟨x, y, d, ?_, h⟩
    have key : ∀ z, f_X6_polygon_67 k56 p0 (n + 1) pl' cnt a b cc x d y (iI k) z = g_X6_polygon_67 k56 p0 (f_X6_polygon_67 k56 p0 n) pl' cnt a b cc x d y (iI k) z := fun _ => rfl
    rw [key]
    unfold g_X6_polygon_67
    rw [if_pos (by rw [q_1, iI_le] <;> omega), iI_p1]
  | succ m ih =>
    intro n f x y d hm hn h
    obtain ⟨n, rfl⟩ : ∃ k, n = k + 1 := ⟨n - 1, by omega⟩
    show ∃ x' y' d', g_X6_polygon_67 k56 p0 (f_X6_polygon_67 k56 p0 n) _ _ _ _ _ _ _ _ _ _ = _ ∧ _
    unfold g_X6_polygon_67 insF
    by_cases h0 : m = 0
    · subst h0
      rw [if_pos (by rw [q_1, iI_le] <;> omega), if_pos rfl, iI_p1]
      exact ⟨x, y, d, rfl, h⟩
    · rw [if_neg (by rw [q_1, iI_le] <;> omega), if_neg h0]
      have em : iI ((m + 1 : Nat) : Int) - (1 : Int32) = iI (m : Int) := by rw [q_1, iI_sub]; congr 1; omega
      have em2 : iI ((m + 1 : Nat) : Int) + (-1 : Int32) = iI (m : Int) := by rw [show (-1 : Int32) = iI (-1) from rfl, iI_add]; congr 1; omega
      rw [em, em2, z_ahead h hc (by omega) (by omega), bnd_some]
      by_cases hd : D3 (f 0) (f m) (f (m + 1)) < 0
      · rw [if_pos hd, if_pos hd, if_neg (by decide), z_mswap (by omega) (by omega), bnd3_some]
        rw [swp_comm]
        exact ih n _ _ _ _ (by omega) (by omega) (RPm_swp h (by omega) (by omega))
      · rw [if_neg hd, if_neg hd, if_pos rfl, iI_p1]
        exact ⟨x, y, d, rfl, h⟩
theorem z_msrt {c : Nat} {cnt : Int32} (hc : c ≤ 40) (g0 : Nat → Pt) :
    ∀ (e k n : Nat) (x y d : Nat → Int64), k + e = max c 2 → 2 ≤ k → e < n → RPm c (srtF k g0) cnt x y d → ∃ x' y' d', f_X6_polygon_56 p0 n pl' cnt a b cc x d y (iI k) = some (cnt, pl', cnt, a, b, cc, x', d', y') ∧ RPm c (srtF (max c 2) g0) cnt x' y' d' := by
  intro e
  induction e with
  | zero =>
    intro k n x y d hk h2 hn h
    obtain ⟨n, rfl⟩ : ∃ k, n = k + 1 := ⟨n - 1, by omega⟩
    have e : k = max c 2 := by omega
    subst e
    refine ⟨x, y, d, ?_, h⟩
    show g_X6_polygon_56 p0 _ _ _ _ _ _ _ _ _ _ = _
    unfold g_X6_polygon_56
    rw [if_pos (by rw [h.1, iI_le] <;> omega)]
  | succ e ih =>
    intro k n x y d hk h2 hn h
    obtain ⟨n, rfl⟩ : ∃ k, n = k + 1 := ⟨n - 1, by omega⟩
    show ∃ x' y' d', g_X6_polygon_56 p0 (f_X6_polygon_56 p0 n) _ _ _ _ _ _ _ _ _ = _ ∧ _
    unfold g_X6_polygon_56
    rw [if_neg (by rw [h.1, iI_le] <;> omega)]
    obtain ⟨x1, y1, d1, e1, h1⟩ := z_mins (p0 := p0) (pl' := pl') (a := a) (b := b) (cc := cc) hc (f_X6_polygon_56 p0 n) k k fuel (srtF k g0) x y d (by omega) (by unfold fuel; omega) h
    rw [e1]
    have e3 : insF k (srtF k g0) = srtF (k + 1) g0 := by rw [srtF, if_neg (by omega)]
    rw [e3] at h1
    exact ih (k + 1) n x1 y1 d1 (by omega) (by omega) (by omega) h1
theorem z_mmn {c : Nat} {cnt : Int32} (hc : c ≤ 40) (hc1 : 1 ≤ c) (f0 : Nat → Pt) :
    ∀ (e k n : Nat) (x y d : Nat → Int64), k + e = c → 1 ≤ k → e < n → RPm c (mnF k f0) cnt x y d → ∃ x' y' d', f_X6_polygon_25 p0 n pl' cnt a b cc x d y (iI k) = some (cnt, pl', cnt, a, b, cc, x', d', y') ∧ RPm c (srtF (max c 2) (mnF c f0)) cnt x' y' d' := by
  intro e
  induction e with
  | zero =>
    intro k n x y d hk h2 hn h
    obtain ⟨n, rfl⟩ : ∃ k, n = k + 1 := ⟨n - 1, by omega⟩
    have e : k = c := by omega
    subst e
    show ∃ x' y' d', g_X6_polygon_25 p0 (f_X6_polygon_25 p0 n) _ _ _ _ _ _ _ _ _ = _ ∧ _
    unfold g_X6_polygon_25
    rw [if_pos (by rw [h.1, iI_le] <;> omega)]
    exact z_msrt hc (mnF k f0) (max k 2 - 2) 2 fuel x y d (by omega) (by omega) (by unfold fuel; omega) h
  | succ e ih =>
    intro k n x y d hk h2 hn h
    obtain ⟨n, rfl⟩ : ∃ k, n = k + 1 := ⟨n - 1, by omega⟩
    show ∃ x' y' d', g_X6_polygon_25 p0 (f_X6_polygon_25 p0 n) _ _ _ _ _ _ _ _ _ = _ ∧ _
    unfold g_X6_polygon_25
    rw [if_neg (by rw [h.1, iI_le] <;> omega), iI_p1, show (0 : Int32) = iI ((0 : Nat) : Int) from rfl, z_left h hc (by omega) (by omega), bnd_some]
    have e3 : mnF (k + 1) f0 = if befB (mnF k f0 k) (mnF k f0 0) = true then swp (mnF k f0) k 0 else mnF k f0 := by rw [mnF, if_neg (by omega)]
    by_cases hb : befB (mnF k f0 k) (mnF k f0 0) = true
    · rw [if_pos hb] at e3
      rw [if_pos hb, if_neg (by decide), z_mswap (by omega) (by omega), bnd3_some]
      refine ih (k + 1) n _ _ _ (by omega) (by omega) (by omega) ?_
      rw [e3, swp_comm]
      exact RPm_swp h (by omega) (by omega)
    · rw [if_neg hb] at e3
      rw [if_neg hb, if_pos (show (0 : Int32) = iI ((0 : Nat) : Int) from rfl)]
      refine ih (k + 1) n x y d (by omega) (by omega) (by omega) ?_
      rw [e3]
      exact h
end ZO
