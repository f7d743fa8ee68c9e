/-! ===== the reference's search for corners ===== -/
section ZF
variable {L : List Ln} {pc : Int32} {a b cc : Nat → Int32}
theorem nmt_l {l m : Ln} (hd : dt l m ≠ 0) : (if 0 ≤ dt l m then mx l m else -mx l m) = (nmt l m).1 ∧ (if 0 ≤ dt l m then my l m else -my l m) = (nmt l m).2.1 ∧ (if 0 ≤ dt l m then dt l m else -dt l m) = (nmt l m).2.2 := by
  unfold nmt
  by_cases h : 0 < dt l m
  · rw [if_pos h, if_pos (by omega), if_pos (by omega), if_pos (by omega)]
    exact ⟨rfl, rfl, rfl⟩
  · rw [if_neg h, if_neg (by omega), if_neg (by omega), if_neg (by omega)]
    exact ⟨rfl, rfl, rfl⟩
theorem z_find_in (hL : RLn L pc a b cc) (hl : L.length ≤ 40) (hB : ∀ t ∈ L, BL t) {p : Nat} {lp : Ln} (hp : L[p]? = some lp) (k7 : Int32 → (Nat → Int64) → (Nat → Int64) → (Nat → Int64) → Int32 → Option R_X6_findCorners) :
    ∀ (e q n : Nat) (c : Nat) (f : Nat → Pt) (done : List (Ln × Ln)) (cnt : Int32) (x d y : Nat → Int64), q + e = p → e < n → CI L done c f → c ≤ L.length → RPm c f cnt x y d →
      ∃ (c' : Nat) (f' : Nat → Pt) (done' : List (Ln × Ln)) (x' d' y' : Nat → Int64), f_X6_findCorners_17 k7 pc a b cc n cnt x d y (iI p) (iI q) = k7 (iI c') x' d' y' (iI p + 1) ∧ CI L done' c' f' ∧ c' ≤ L.length ∧ RPm c' f' (iI c') x' y' d' ∧ (∀ u ∈ done, u ∈ done') ∧ ∀ (j : Nat) (m : Ln), q ≤ j → j < p → L[j]? = some m → (lp, m) ∈ done' := by
  have lpl : p < L.length := (List.getElem?_eq_some_iff.mp hp).1
  intro e
  induction e with
  | zero =>
    intro q n c f done cnt x d y hq hn hC hcl hR
    obtain ⟨n, rfl⟩ : ∃ k, n = k + 1 := ⟨n - 1, by omega⟩
    refine ⟨c, f, done, x, d, y, ?_, hC, hcl, by have := hR; rw [hR.1] at this; exact this, fun u hu => hu, fun j m hj hj2 hm => by omega⟩
    show g_X6_findCorners_17 _ _ _ _ _ _ _ _ _ _ _ _ = _
    unfold g_X6_findCorners_17
    rw [if_pos (by rw [iI_le] <;> omega), hR.1]
  | succ e ih =>
    intro q n c f done cnt x d y hq hn hC hcl hR
    obtain ⟨n, rfl⟩ : ∃ k, n = k + 1 := ⟨n - 1, by omega⟩
    obtain ⟨m, hm⟩ : ∃ m, L[q]? = some m := ⟨L[q]'(by omega), List.getElem?_eq_getElem (by omega)⟩
    have ml := List.mem_of_getElem? hp
    have mm := List.mem_of_getElem? hm
    have e1 : iI q + (1 : Int32) = iI ((q + 1 : Nat) : Int) := by rw [q_1, iI_add]; rfl
    have step : ∀ (c1 : Nat) (f1 : Nat → Pt) (cnt1 : Int32) (x1 d1 y1 : Nat → Int64), CI L ((lp, m) :: done) c1 f1 → c1 ≤ L.length → RPm c1 f1 cnt1 x1 y1 d1 →
        ∃ (c' : Nat) (f' : Nat → Pt) (done' : List (Ln × Ln)) (x' d' y' : Nat → Int64), f_X6_findCorners_17 k7 pc a b cc n cnt1 x1 d1 y1 (iI p) (iI q + 1) = k7 (iI c') x' d' y' (iI p + 1) ∧ CI L done' c' f' ∧ c' ≤ L.length ∧ RPm c' f' (iI c') x' y' d' ∧ (∀ u ∈ done, u ∈ done') ∧ ∀ (j : Nat) (m : Ln), q ≤ j → j < p → L[j]? = some m → (lp, m) ∈ done' := by
      intro c1 f1 cnt1 x1 d1 y1 g1 g2 g3
      rw [e1]
      obtain ⟨c', f', done', x', d', y', r1, r2, r3, r4, r5, r6⟩ := ih (q + 1) n c1 f1 ((lp, m) :: done) cnt1 x1 d1 y1 (by omega) (by omega) g1 g2 g3
      refine ⟨c', f', done', x', d', y', r1, r2, r3, r4, fun u hu => r5 u (List.mem_cons_of_mem _ hu), fun j m' hj hj2 hm' => ?_⟩
      by_cases ej : j = q
      · subst ej
        rw [hm] at hm'
        cases hm'
        exact r5 _ List.mem_cons_self
      · exact r6 j m' (by omega) hj2 hm'
    show ∃ (c' : Nat) (f' : Nat → Pt) (done' : List (Ln × Ln)) (x' d' y' : Nat → Int64), g_X6_findCorners_17 k7 pc a b cc (f_X6_findCorners_17 k7 pc a b cc n) _ _ _ _ _ _ = _ ∧ _
    unfold g_X6_findCorners_17
    obtain ⟨a1, a2, a3⟩ := hL.2 p lp hp
    obtain ⟨b1, b2, b3⟩ := hL.2 q m hm
    have bl := hB lp ml
    have bm := hB m mm
    have hdb := dt_b bl bm
    unfold BL at bl bm
    rw [if_neg (by rw [iI_le] <;> omega), gIx_iI (by omega) (by omega) (by omega), gIx_iI (by omega) (by omega) (by omega), nm_eq, nm_eq, nm_eq, iI_clN (by omega), iI_clN (by omega), a1, a2, a3, b1, b2, b3]
    rw [iI_l (z := lp.1) (by omega) (by omega), iI_l (z := lp.2.1) (by omega) (by omega), iI_l (z := lp.2.2) (by omega) (by omega), iI_l (z := m.1) (by omega) (by omega), iI_l (z := m.2.1) (by omega) (by omega), iI_l (z := m.2.2) (by omega) (by omega)]
    rw [lI_mul, lI_mul, lI_mul, lI_mul, lI_mul, lI_mul, lI_sub, lI_sub, lI_sub]
    have d0 : lI (lp.1 * m.2.1 - m.1 * lp.2.1) = lI (dt lp m) := rfl
    have x0 : lI (lp.2.2 * m.2.1 - m.2.2 * lp.2.1) = lI (mx lp m) := rfl
    have y0 : lI (lp.1 * m.2.2 - m.1 * lp.2.2) = lI (my lp m) := rfl
    rw [d0, x0, y0, ql_0]
    by_cases hd : dt lp m = 0
    · rw [if_pos (by rw [cmp_eq] <;> omega)]
      exact step c f cnt x d y (CI_skip hC (Or.inl hd)) hcl hR
    · rw [if_neg (by rw [cmp_eq] <;> omega)]
      obtain ⟨n1, n2, n3⟩ := nmt_l hd
      have hbp : BP (nmt lp m) := by
        have h1 := nmt_b (hB lp ml) (hB m mm)
        exact ⟨h1.1, h1.2.1, (ev_nmt hd).2.2, h1.2.2⟩
      have key : ∃ (c' : Nat) (f' : Nat → Pt) (done' : List (Ln × Ln)) (x' d' y' : Nat → Int64), f_X6_findCorners_167 (f_X6_findCorners_17 k7 pc a b cc n) pc a b cc cnt x d y (iI p) (iI q) (lI (nmt lp m).1) (lI (nmt lp m).2.1) (lI (nmt lp m).2.2) = k7 (iI c') x' d' y' (iI p + 1) ∧ CI L done' c' f' ∧ c' ≤ L.length ∧ RPm c' f' (iI c') x' y' d' ∧ (∀ u ∈ done, u ∈ done') ∧ ∀ (j : Nat) (m : Ln), q ≤ j → j < p → L[j]? = some m → (lp, m) ∈ done' := by
        unfold f_X6_findCorners_167
        obtain ⟨c', x', d', y', s1, s2⟩ := z_note hL hl hB hR (by omega) hbp (fun hi hh => by have := (CI_put hC ml mm hd hi hh).2; omega)
        rw [s1, bnd4_some]
        rcases s2 with ⟨rfl, rfl, rfl, rfl, hex⟩ | ⟨rfl, hi, hno, hR2⟩
        · exact step c' f (iI c') _ _ _ (CI_skip hC (Or.inr hex)) hcl (by have := hR; rw [hR.1] at this; exact this)
        · obtain ⟨t1, t2⟩ := CI_put hC ml mm hd hi hno
          exact step (c + 1) _ _ _ _ _ t1 t2 hR2
      by_cases hs : 0 ≤ dt lp m
      · have hcmp : 0 ≤ lg_cmp (lI (dt lp m)) (lI 0) := by rw [cmp_ge] <;> omega
        rw [if_pos hs] at n1 n2 n3
        rw [← n1, ← n2, ← n3] at key
        rw [if_pos hcmp]
        unfold f_X6_findCorners_141
        rw [ql_0, if_pos hcmp]
        unfold f_X6_findCorners_155
        rw [ql_0, if_pos hcmp]
        exact key
      · have hcmp : ¬ 0 ≤ lg_cmp (lI (dt lp m)) (lI 0) := by rw [cmp_ge] <;> omega
        rw [if_neg hs] at n1 n2 n3
        rw [← n1, ← n2, ← n3] at key
        rw [if_neg hcmp, lI_neg]
        unfold f_X6_findCorners_141
        rw [ql_0, if_neg hcmp, lI_neg]
        unfold f_X6_findCorners_155
        rw [ql_0, if_neg hcmp, lI_neg]
        exact key
theorem z_find_out (hL : RLn L pc a b cc) (hl : L.length ≤ 40) (hB : ∀ t ∈ L, BL t) :
    ∀ (e p n : Nat) (c : Nat) (f : Nat → Pt) (done : List (Ln × Ln)) (cnt : Int32) (x d y : Nat → Int64), p + e = L.length → e < n → CI L done c f → c ≤ L.length → RPm c f cnt x y d →
      ∃ (c' : Nat) (f' : Nat → Pt) (done' : List (Ln × Ln)) (x' d' y' : Nat → Int64), f_X6_findCorners_7 pc a b cc n cnt x d y (iI p) = some (iI c', x', d', y') ∧ CI L done' c' f' ∧ c' ≤ L.length ∧ RPm c' f' (iI c') x' y' d' ∧ (∀ u ∈ done, u ∈ done') ∧ ∀ (i j : Nat) (l m : Ln), p ≤ i → j < i → L[i]? = some l → L[j]? = some m → (l, m) ∈ done' := by
  intro e
  induction e with
  | zero =>
    intro p n c f done cnt x d y hq hn hC hcl hR
    obtain ⟨n, rfl⟩ : ∃ k, n = k + 1 := ⟨n - 1, by omega⟩
    refine ⟨c, f, done, x, d, y, ?_, hC, hcl, by have := hR; rw [hR.1] at this; exact this, fun u hu => hu, fun i j l m hi hij hl2 hm => ?_⟩
    · show g_X6_findCorners_7 _ _ _ _ _ _ _ _ _ _ = _
      unfold g_X6_findCorners_7
      rw [if_pos (by rw [hL.1, iI_le] <;> omega), hR.1]
    · have := (List.getElem?_eq_some_iff.mp hl2).1
      omega
  | succ e ih =>
    intro p n c f done cnt x d y hq hn hC hcl hR
    obtain ⟨n, rfl⟩ : ∃ k, n = k + 1 := ⟨n - 1, by omega⟩
    obtain ⟨lp, hp⟩ : ∃ m, L[p]? = some m := ⟨L[p]'(by omega), List.getElem?_eq_getElem (by omega)⟩
    show ∃ (c' : Nat) (f' : Nat → Pt) (done' : List (Ln × Ln)) (x' d' y' : Nat → Int64), g_X6_findCorners_7 _ _ _ _ (f_X6_findCorners_7 pc a b cc n) _ _ _ _ _ = _ ∧ _
    unfold g_X6_findCorners_7
    rw [if_neg (by rw [hL.1, iI_le] <;> omega)]
    have e1 : iI p + (1 : Int32) = iI ((p + 1 : Nat) : Int) := by rw [q_1, iI_add]; rfl
    obtain ⟨c1, f1, done1, x1, d1, y1, r1, r2, r3, r4, r5, r6⟩ := z_find_in hL hl hB hp (f_X6_findCorners_7 pc a b cc n) p 0 fuel c f done cnt x d y (by omega) (by unfold fuel; omega) hC hcl hR
    rw [show (0 : Int32) = iI ((0 : Nat) : Int) from rfl, r1, e1]
    obtain ⟨c2, f2, done2, x2, d2, y2, s1, s2, s3, s4, s5, s6⟩ := ih (p + 1) n c1 f1 done1 (iI c1) x1 d1 y1 (by omega) (by omega) r2 r3 r4
    refine ⟨c2, f2, done2, x2, d2, y2, s1, s2, s3, s4, fun u hu => s5 u (r5 u hu), fun i j l m hi hij hl2 hm => ?_⟩
    by_cases ei : i = p
    · subst ei
      rw [hp] at hl2
      cases hl2
      exact s5 _ (r6 j m (by omega) hij hm)
    · exact s6 i j l m (by omega) hij hl2 hm
theorem z_find (hL : RLn L pc a b cc) (hl : L.length ≤ 40) (hB : ∀ t ∈ L, BL t) (t1 : Int32) (t2 t3 t4 : Nat → Int64) : ∃ (c' : Nat) (f : Nat → Pt) (x d y : Nat → Int64), f_X6_findCorners_0 pc a b cc t1 t2 t3 t4 = some (iI c', x, d, y) ∧ RPm c' f (iI c') x y d ∧ CO L c' f ∧ c' ≤ L.length := by
  unfold f_X6_findCorners_0
  obtain ⟨c', f', done', x', d', y', r1, r2, r3, r4, r5, r6⟩ := z_find_out hL hl hB L.length 0 fuel 0 (fun _ => (0, 0, 1)) [] 0 t2 t3 t4 (by omega) (by unfold fuel; omega) CI_0 (by omega) ⟨rfl, fun k hk => by omega⟩
  exact ⟨c', f', x', d', y', r1, r4, CO_of r2 (fun i j l m hij hl hm => Or.inr (r6 j i m l (by omega) hij hm hl)), r3⟩
end ZF
theorem LC_LMd {X Y W : Nat → Int} {c i : Nat} : (∀ l ∈ LMd X Y W c i, l ∈ LC X Y W c i) ∧ ∀ l ∈ LC X Y W c i, l ∈ LMd X Y W c i ∨ l = (0, 0, 0) := by
  constructor
  · intro l hl
    rcases List.mem_append.mp hl with q | q
    · refine List.mem_append_right _ ?_
      simp only [sqM, List.mem_cons, List.not_mem_nil, or_false] at q
      simp only [sqC, List.mem_cons, List.not_mem_nil, or_false]
      rcases q with rfl | rfl | rfl | rfl <;> simp
    · obtain ⟨j, hj, rfl⟩ := List.mem_map.mp q
      exact List.mem_append_left _ (List.mem_map.mpr ⟨j, (List.mem_filter.mp hj).1, rfl⟩)
  · intro l hl
    rcases List.mem_append.mp hl with q | q
    · obtain ⟨j, hj, rfl⟩ := List.mem_map.mp q
      by_cases e : j = i
      · right
        subst e
        unfold pl
        simp
      · left
        exact List.mem_append_right _ (List.mem_map.mpr ⟨j, List.mem_filter.mpr ⟨hj, by simpa using e⟩, rfl⟩)
    · left
      refine List.mem_append_left _ ?_
      simp only [sqC, List.mem_cons, List.not_mem_nil, or_false] at q
      simp only [sqM, List.mem_cons, List.not_mem_nil, or_false]
      rcases q with rfl | rfl | rfl | rfl <;> simp
/-- the class's row of corners and the reference's, of one cell -/
theorem CO_both {X Y W : Nat → Int} {c i cC cM : Nat} {f g : Nat → Pt} (hf : CO (LC X Y W c i) cC f) (hg : CO (LMd X Y W c i) cM g) : (∀ k, k < cC → ∃ j, j < cM ∧ eqv (f k) (g j)) ∧ ∀ j, j < cM → ∃ k, k < cC ∧ eqv (g j) (f k) := by
  obtain ⟨d1, h1, h2⟩ := hf
  obtain ⟨d2, g1, g2⟩ := hg
  obtain ⟨s1, s2⟩ := LC_LMd (X := X) (Y := Y) (W := W) (c := c) (i := i)
  refine ⟨CI_match (d1 := d1) h1.1 g1 s1 s2 g2, ?_⟩
  -- the other way: every line of LMd is one of LC; a corner needs two lines that are not parallel
  intro j hj
  obtain ⟨h0, hin, l, m, hl, hm, hd, e1, e2⟩ := g1.1.1 j hj
  have hinC : inn (LC X Y W c i) (g j) := by
    intro t ht
    rcases s2 t ht with q | q
    · exact hin t q
    · rw [q]; simp [ev]
  have key : ∀ l m, l ∈ LC X Y W c i → m ∈ LC X Y W c i → dt l m ≠ 0 → ev l (g j) = 0 → ev m (g j) = 0 → (l, m) ∈ d1 → ∃ k, k < cC ∧ eqv (g j) (f k) := by
    intro l m hl hm hd e1 e2 hq
    obtain ⟨a1, a2, a3⟩ := ev_nmt hd
    have en := uniq hd e1 e2 a1 a2
    have hi : inn (LC X Y W c i) (nmt l m) := inn_eqv h0 a3 en hinC
    obtain ⟨k, k1, k2⟩ := h1.2 (l, m) hq hd hi
    exact ⟨k, k1, eqv_tr (by omega) en k2⟩
  rcases h2 l m (s1 l hl) (s1 m hm) hd with q | q
  · exact key l m (s1 l hl) (s1 m hm) hd e1 e2 q
  · have hd' : dt m l ≠ 0 := by simp only [dt] at hd ⊢; omega
    exact key m l (s1 m hm) (s1 l hl) hd' e2 e1 q
theorem CO_gp {L : List Ln} {c : Nat} {f : Nat → Pt} (h : CO L c f) : GP L c f := by
  obtain ⟨d, h1, -⟩ := h
  exact h1.1
