/-! ===== the law's cells ===== -/
section CEL
variable {c : Nat} {X Y W : Nat → Int}
theorem pw_00 (i : Nat) : pw X Y W i 0 0 = lv X Y W i := by
  simp only [pw, lv]
  grind
theorem ln_b (hB : BD c X Y W) (i j : Nat) : (-40 ≤ 2 * (X j - X i) ∧ 2 * (X j - X i) ≤ 40) ∧ (-40 ≤ 2 * (Y j - Y i) ∧ 2 * (Y j - Y i) ≤ 40) ∧ -1200 ≤ lv X Y W j - lv X Y W i ∧ lv X Y W j - lv X Y W i ≤ 1200 := pl_b hB i j
theorem l_ce386 {i : Nat} (hi : i < c) {P : Pt} {xn xd yn yd : Nat} (hE : isE (LC X Y W c i) P) (hL : LOW P xn xd yn yd) {x4 x5 x6 : Int32} {k128 : ST → Int32 → Int32 → Int32 → Int32 → Int32 → Int32 → Option R_L_cells} (hk : ∀ s, GS s c X Y W → RJ s (k128 s (iI (c : Nat)) 1 (iI (i : Nat)) x4 x5 (x6 + 1))) {s : ST} (h : GS s c X Y W) :
    ∀ (e j n : Nat), j + e = c → e < n → RJ s (f_L_cells_386 k128 n s (iI (c : Nat)) 1 (iI (i : Nat)) x4 x5 x6 (lI (xn : Nat)) (lI (xd : Nat)) (lI (yn : Nat)) (lI (yd : Nat)) (iI ((hx01 P + hy01 P + sumN j (fun j => if hldB X Y W i P j = true then 1 else 0) : Nat) : Int)) (iI (j : Nat))) := by
  have hc := h.1.1
  have hx2 : hx01 P ≤ 1 := by unfold hx01; split <;> omega
  have hy2 : hy01 P ≤ 1 := by unfold hy01; split <;> omega
  have sb : ∀ j, sumN j (fun j => if hldB X Y W i P j = true then 1 else 0) ≤ j := by
    intro j
    have : sumN j (fun j => if hldB X Y W i P j = true then 1 else 0) ≤ j * 1 := by
      rw [← sumN_const]
      exact sumN_le (fun i hi => by split <;> omega)
    omega
  intro e
  induction e with
  | zero =>
    intro j n hj hn
    obtain ⟨n, rfl⟩ : ∃ k, n = k + 1 := ⟨n - 1, by omega⟩
    have ej : j = c := by omega
    subst ej
    show RJ s (g_L_cells_386 k128 (f_L_cells_386 k128 n) s _ _ _ _ _ _ _ _ _ _ _ _)
    unfold g_L_cells_386
    have h2 := held_2 hE
    have h3 := sb j
    rw [if_pos (show iI (j : Nat) ≤ iI (j : Nat) by rw [iI_le] <;> omega), if_neg (by decide), if_neg (by rw [q_1, iI_le] <;> omega)]
    exact hk s h
  | succ e ih =>
    intro j n hj hn
    obtain ⟨n, rfl⟩ : ∃ k, n = k + 1 := ⟨n - 1, by omega⟩
    have hjc : j < c := by omega
    have ih' := ih (j + 1) n (by omega) (by omega)
    show RJ s (g_L_cells_386 k128 (f_L_cells_386 k128 n) s _ _ _ _ _ _ _ _ _ _ _ _)
    unfold g_L_cells_386
    obtain ⟨⟨a1, a2⟩, ⟨b1, b2⟩, d1, d2⟩ := ln_b h.1 i j
    have bi := pw_b h.1 i (a := 0) (b := 0) (by omega) (by omega) (by omega) (by omega)
    have bj := pw_b h.1 j (a := 0) (b := 0) (by omega) (by omega) (by omega) (by omega)
    obtain ⟨⟨x1, x2, x3⟩, ⟨y1, y2, y3⟩, -, -⟩ := id hL
    have ea : ((2 : Int32) * (iI (X j) - iI (X i))).toInt64 = lI (2 * (X j - X i)) := by
      rw [q_2, iI_sub, iI_mul, iI_l (by omega) (by omega)]
    have eb : ((2 : Int32) * (iI (Y j) - iI (Y i))).toInt64 = lI (2 * (Y j - Y i)) := by
      rw [q_2, iI_sub, iI_mul, iI_l (by omega) (by omega)]
    have ed : (iI (pw X Y W j 0 0 + 1000) - iI (pw X Y W i 0 0 + 1000)).toInt64 = lI (lv X Y W j - lv X Y W i) := by
      rw [iI_sub, iI_l (by omega) (by omega), pw_00, pw_00]
      congr 1
      omega
    have el : ((lI (2 * (X j - X i)) * lI (xn : Nat)) * lI (yd : Nat)) + ((lI (2 * (Y j - Y i)) * lI (yn : Nat)) * lI (xd : Nat)) = lI (2 * (X j - X i) * xn * yd + 2 * (Y j - Y i) * yn * xd) := by
      rw [lI_mul, lI_mul, lI_mul, lI_mul, lI_add]
    have er : (lI (lv X Y W j - lv X Y W i) * lI (xd : Nat)) * lI (yd : Nat) = lI ((lv X Y W j - lv X Y W i) * xd * yd) := by
      rw [lI_mul, lI_mul]
    have m1 := mul_b (A := 40) (B := 96000) a1 a2 (b := (xn : Int)) (by omega) (by omega)
    have m2 := mul_b (A := 3840000) (B := 3200) (a := 2 * (X j - X i) * xn) (by omega) (by omega) (b := (yd : Int)) (by omega) (by omega)
    have m3 := mul_b (A := 40) (B := 96000) b1 b2 (b := (yn : Int)) (by omega) (by omega)
    have m4 := mul_b (A := 3840000) (B := 3200) (a := 2 * (Y j - Y i) * yn) (by omega) (by omega) (b := (xd : Int)) (by omega) (by omega)
    have m5 := mul_b (A := 1200) (B := 3200) d1 d2 (b := (xd : Int)) (by omega) (by omega)
    have m6 := mul_b (A := 3840000) (B := 3200) (a := (lv X Y W j - lv X Y W i) * xd) (by omega) (by omega) (b := (yd : Int)) (by omega) (by omega)
    have p1 := q_power h (i := j) hjc (a := 0) (b := 0) (by omega) (by omega) (by omega) (by omega)
    have p2 := q_power h (i := i) hi (a := 0) (b := 0) (by omega) (by omega) (by omega) (by omega)
    have p1' : F_X5_powerDistance s (iI (j : Nat)) 0 0 = _ := p1
    have p2' : F_X5_powerDistance s (iI (i : Nat)) 0 0 = _ := p2
    obtain ⟨g1, g2⟩ := low_sgn hL hE.1 (pl X Y W i j)
    have hin : ev (pl X Y W i j) P ≤ 0 := hE.2.1 _ (LC_pl hjc)
    have le := g1.mpr hin
    have le' : 2 * (X j - X i) * xn * yd + 2 * (Y j - Y i) * yn * xd ≤ (lv X Y W j - lv X Y W i) * xd * yd := le
    have eq' : 2 * (X j - X i) * xn * yd + 2 * (Y j - Y i) * yn * xd = (lv X Y W j - lv X Y W i) * xd * yd ↔ ev (pl X Y W i j) P = 0 := g2
    rw [if_neg (show ¬ iI (c : Nat) ≤ iI (j : Nat) by rw [iI_le] <;> omega), q_site0 h hjc, bnd2_some, q_site0 h hi, bnd2_some, ea, nm_eq, q_site1 h hjc, bnd2_some, q_site1 h hi, bnd2_some, eb, nm_eq, p1', bnd2_some, p2', bnd2_some, ed, nm_eq, el, nm_eq, er, if_neg (by decide), if_neg (show ¬ 0 < lg_cmp (lI (2 * (X j - X i) * xn * yd + 2 * (Y j - Y i) * yn * xd)) (lI ((lv X Y W j - lv X Y W i) * xd * yd)) by rw [cmp_gt] <;> omega)]
    unfold f_L_cells_491
    rw [iI_p1, er]
    have s3 := sb j
    have keep : hldB X Y W i P j = false → RJ s (f_L_cells_386 k128 n s (iI (c : Nat)) 1 (iI (i : Nat)) x4 x5 x6 (lI (xn : Nat)) (lI (xd : Nat)) (lI (yn : Nat)) (lI (yd : Nat)) (iI ((hx01 P + hy01 P + sumN j (fun j => if hldB X Y W i P j = true then 1 else 0) : Nat) : Int) + 0) (iI (j + 1 : Nat))) := by
      intro hb
      have e1 : sumN (j + 1) (fun j => if hldB X Y W i P j = true then 1 else 0) = sumN j (fun j => if hldB X Y W i P j = true then 1 else 0) := by
        rw [sq_cat, hb, if_neg (by decide)]
        omega
      rw [e1] at ih'
      rw [q_0, iI_add, Int.add_zero]
      exact ih'
    have inc : hldB X Y W i P j = true → RJ s (f_L_cells_386 k128 n s (iI (c : Nat)) 1 (iI (i : Nat)) x4 x5 x6 (lI (xn : Nat)) (lI (xd : Nat)) (lI (yn : Nat)) (lI (yd : Nat)) (iI ((hx01 P + hy01 P + sumN j (fun j => if hldB X Y W i P j = true then 1 else 0) : Nat) : Int) + 1) (iI (j + 1 : Nat))) := by
      intro hb
      have e1 : sumN (j + 1) (fun j => if hldB X Y W i P j = true then 1 else 0) = sumN j (fun j => if hldB X Y W i P j = true then 1 else 0) + 1 := by
        rw [sq_cat, hb, if_pos rfl]
      rw [e1] at ih'
      rw [iI_p1]
      exact ih'
    by_cases e1 : j = i
    · rw [if_pos (by rw [e1]), nm_eq]
      exact keep (decide_eq_false (fun q => q.1 e1))
    · rw [if_neg (by rw [iI_eq] <;> omega)]
      by_cases e2 : ev (pl X Y W i j) P = 0
      · have e2' := eq'.mpr e2
        rw [if_pos (show lg_cmp (lI (2 * (X j - X i) * xn * yd + 2 * (Y j - Y i) * yn * xd)) (lI ((lv X Y W j - lv X Y W i) * xd * yd)) = 0 by rw [cmp_eq] <;> omega)]
        by_cases e3 : 2 * (X j - X i) = 0
        · rw [if_pos (show lg_cmp (lI (2 * (X j - X i))) 0 = 0 by rw [ql_0, cmp_eq] <;> omega)]
          by_cases e4 : 2 * (Y j - Y i) = 0
          · rw [if_pos (show lg_cmp (lI (2 * (Y j - Y i))) 0 = 0 by rw [ql_0, cmp_eq] <;> omega), nm_eq]
            exact keep (decide_eq_false (fun q => q.2.2 ⟨e3, e4⟩))
          · rw [if_neg (show ¬ lg_cmp (lI (2 * (Y j - Y i))) 0 = 0 by rw [ql_0, cmp_eq] <;> omega), nm_eq]
            exact inc (decide_eq_true ⟨e1, e2, fun q => e4 q.2⟩)
        · rw [if_neg (show ¬ lg_cmp (lI (2 * (X j - X i))) 0 = 0 by rw [ql_0, cmp_eq] <;> omega), nm_eq]
          exact inc (decide_eq_true ⟨e1, e2, fun q => e3 q.1⟩)
      · have e2' := mt eq'.mp e2
        rw [if_neg (show ¬ lg_cmp (lI (2 * (X j - X i) * xn * yd + 2 * (Y j - Y i) * yn * xd)) (lI ((lv X Y W j - lv X Y W i) * xd * yd)) = 0 by rw [cmp_eq] <;> omega), nm_eq]
        exact keep (decide_eq_false (fun q => e2 q.2.1))
theorem l_ce327 {i : Nat} (hi : i < c) {P : Pt} {xn xd yn yd : Nat} (hE : isE (LC X Y W c i) P) (hL : LOW P xn xd yn yd) {x4 x5 x6 : Int32} {k128 : ST → Int32 → Int32 → Int32 → Int32 → Int32 → Int32 → Option R_L_cells} (hk : ∀ s, GS s c X Y W → RJ s (k128 s (iI (c : Nat)) 1 (iI (i : Nat)) x4 x5 (x6 + 1))) {s : ST} (h : GS s c X Y W) :
    RJ s (f_L_cells_327 k128 s (iI (c : Nat)) (iI (i : Nat)) x4 x5 x6 (lI (xn : Nat)) (lI (xd : Nat)) (lI (yn : Nat)) (lI (yd : Nat)) 1) := by
  have hc := h.1.1
  obtain ⟨⟨x1, x2, x3⟩, ⟨y1, y2, y3⟩, ex, ey⟩ := id hL
  have h0 := hE.1
  have kx0 := (sgn_of (a := (xn : Int)) (b := P.1) (x := P.2.2) (y := xd) ex h0 (by omega)).2
  have kx1 := (sgn_of (a := (xn : Int) - 20 * xd) (b := P.1 - 20 * P.2.2) (x := P.2.2) (y := xd) (by rw [Int.sub_mul, Int.sub_mul, ex]; congr 1; rw [Int.mul_right_comm]) h0 (by omega)).2
  have ky0 := (sgn_of (a := (yn : Int)) (b := P.2.1) (x := P.2.2) (y := yd) ey h0 (by omega)).2
  have ky1 := (sgn_of (a := (yn : Int) - 20 * yd) (b := P.2.1 - 20 * P.2.2) (x := P.2.2) (y := yd) (by rw [Int.sub_mul, Int.sub_mul, ey]; congr 1; rw [Int.mul_right_comm]) h0 (by omega)).2
  have go := l_ce386 hi hE hL hk h c 0 fuel (by omega) (by unfold fuel; omega)
  have e20x : (20 : Int64) * lI (xd : Nat) = lI (20 * (xd : Int)) := by rw [ql_20, lI_mul]
  have e20y : (20 : Int64) * lI (yd : Nat) = lI (20 * (yd : Int)) := by rw [ql_20, lI_mul]
  have stepy : ∀ hx : Nat, hx = hx01 P → RJ s (f_L_cells_352 k128 s (iI (c : Nat)) 1 (iI (i : Nat)) x4 x5 x6 (lI (xn : Nat)) (lI (xd : Nat)) (lI (yn : Nat)) (lI (yd : Nat)) (iI (hx : Nat))) := by
    intro hx ehx
    subst ehx
    unfold f_L_cells_352
    have go1 : hy01 P = 1 → RJ s (f_L_cells_386 k128 fuel s (iI (c : Nat)) 1 (iI (i : Nat)) x4 x5 x6 (lI (xn : Nat)) (lI (xd : Nat)) (lI (yn : Nat)) (lI (yd : Nat)) (iI ((hx01 P : Nat) : Int) + 1) 0) := by
      intro q
      rw [q] at go
      rw [iI_p1]
      exact go
    have go0 : hy01 P = 0 → RJ s (f_L_cells_386 k128 fuel s (iI (c : Nat)) 1 (iI (i : Nat)) x4 x5 x6 (lI (xn : Nat)) (lI (xd : Nat)) (lI (yn : Nat)) (lI (yd : Nat)) (iI ((hx01 P : Nat) : Int) + 0) 0) := by
      intro q
      rw [q] at go
      rw [q_0, iI_add, Int.add_zero]
      exact go
    by_cases a : (yn : Int) = 0
    · rw [if_pos (show lg_cmp (lI (yn : Nat)) 0 = 0 by rw [ql_0, cmp_eq] <;> omega), nm_eq]
      exact go1 (if_pos (Or.inl (ky0.mp a)))
    · rw [if_neg (show ¬ lg_cmp (lI (yn : Nat)) 0 = 0 by rw [ql_0, cmp_eq] <;> omega), e20y]
      by_cases b : (yn : Int) - 20 * yd = 0
      · rw [if_pos (show lg_cmp (lI (yn : Nat)) (lI (20 * (yd : Int))) = 0 by rw [cmp_eq] <;> omega), nm_eq]
        exact go1 (if_pos (Or.inr (by have := ky1.mp b; omega)))
      · rw [if_neg (show ¬ lg_cmp (lI (yn : Nat)) (lI (20 * (yd : Int))) = 0 by rw [cmp_eq] <;> omega), nm_eq]
        refine go0 (if_neg ?_)
        rintro (q | q)
        · exact a (ky0.mpr q)
        · exact b (ky1.mpr (by omega))
  unfold f_L_cells_327
  by_cases a : (xn : Int) = 0
  · rw [if_pos (show lg_cmp (lI (xn : Nat)) 0 = 0 by rw [ql_0, cmp_eq] <;> omega)]
    exact stepy 1 (if_pos (Or.inl (kx0.mp a))).symm
  · rw [if_neg (show ¬ lg_cmp (lI (xn : Nat)) 0 = 0 by rw [ql_0, cmp_eq] <;> omega), e20x]
    by_cases b : (xn : Int) - 20 * xd = 0
    · rw [if_pos (show lg_cmp (lI (xn : Nat)) (lI (20 * (xd : Int))) = 0 by rw [cmp_eq] <;> omega)]
      exact stepy 1 (if_pos (Or.inr (by have := kx1.mp b; omega))).symm
    · rw [if_neg (show ¬ lg_cmp (lI (xn : Nat)) (lI (20 * (xd : Int))) = 0 by rw [cmp_eq] <;> omega)]
      refine stepy 0 (Eq.symm (if_neg ?_))
      rintro (q | q)
      · exact a (kx0.mpr q)
      · exact b (kx1.mpr (by omega))
theorem cmp_lt0 {a b : Int} (a1 : -1000000000 ≤ a) (a2 : a ≤ 1000000000) (b1 : -1000000000 ≤ b) (b2 : b ≤ 1000000000) (h : b ≤ a) : ¬ lg_cmp (lI a) (lI b) < 0 := by
  rw [cmp_lt] <;> omega
theorem cmp_le0 {a b : Int} (a1 : -1000000000 ≤ a) (a2 : a ≤ 1000000000) (b1 : -1000000000 ≤ b) (b2 : b ≤ 1000000000) (h : b < a) : ¬ lg_cmp (lI a) (lI b) ≤ 0 := by
  rw [cmp_le] <;> omega
theorem cmp_gt0 {a b : Int} (a1 : -1000000000 ≤ a) (a2 : a ≤ 1000000000) (b1 : -1000000000 ≤ b) (b2 : b ≤ 1000000000) (h : a ≤ b) : ¬ 0 < lg_cmp (lI a) (lI b) := by
  rw [cmp_gt] <;> omega
theorem l_ce567 {i m : Nat} (hi : i < c) {f : Nat → Pt} (hf : CO (LC X Y W c i) m f) {k9 : ST → Int32 → Int32 → Int32 → Option R_L_cells} (hk : ∀ s, GS s c X Y W → RJ s (k9 s (iI (c : Nat)) 1 (iI (i + 1 : Nat)))) :
    ∀ (e j n : Nat), j + e = c → e < n → ∀ s, GS s c X Y W → RJ s (f_L_cells_567 k9 n s (iI (c : Nat)) 1 (iI (i : Nat)) (bits (nbF X Y W c i m f) c) (iI (j : Nat))) := by
  intro e
  induction e with
  | zero =>
    intro j n hj hn s h
    have hc := h.1.1
    obtain ⟨n, rfl⟩ : ∃ k, n = k + 1 := ⟨n - 1, by omega⟩
    show RJ s (g_L_cells_567 k9 (f_L_cells_567 k9 n) s _ _ _ _ _)
    unfold g_L_cells_567
    rw [if_pos (show iI (c : Nat) ≤ iI (j : Nat) by rw [iI_le] <;> omega), iI_p1]
    exact hk s h
  | succ e ih =>
    intro j n hj hn s h
    have hc := h.1.1
    obtain ⟨n, rfl⟩ : ∃ k, n = k + 1 := ⟨n - 1, by omega⟩
    have hjc : j < c := by omega
    show RJ s (g_L_cells_567 k9 (f_L_cells_567 k9 n) s _ _ _ _ _)
    unfold g_L_cells_567
    obtain ⟨m', g, s1, k1, hg, e1⟩ := q_nb h hjc
    have h1 := GS_E k1 h
    rw [if_neg (show ¬ iI (c : Nat) ≤ iI (j : Nat) by rw [iI_le] <;> omega), if_neg (by decide), e1, bnd2_some, bits_at _ c hc j (by omega), bits_at _ c hc i (by omega)]
    have eb : (if j < c ∧ nbF X Y W c i m f j = true then (1 : Int32) else 0) = (if i < c ∧ nbF X Y W c j m' g i = true then (1 : Int32) else 0) := by
      rw [nb_mut hi hjc hf hg]
      by_cases q : nbF X Y W c j m' g i = true
      · rw [if_pos ⟨hjc, q⟩, if_pos ⟨hi, q⟩]
      · rw [if_neg (fun w => q w.2), if_neg (fun w => q w.2)]
    rw [if_pos eb, iI_p1]
    exact RJ_E k1 (ih (j + 1) n (by omega) (by omega) s1 h1)
theorem l_ce128 {i m m' : Nat} (hi : i < c) {f f' : Nat → Pt} (hf : CO (LC X Y W c i) m f) (hf' : CO (LC X Y W c i) m' f') (hm : m ≤ 14) {k9 : ST → Int32 → Int32 → Int32 → Option R_L_cells} (hk : ∀ s, GS s c X Y W → RJ s (k9 s (iI (c : Nat)) 1 (iI (i + 1 : Nat)))) :
    ∀ (e k n : Nat), k + e = pc3 m → e < n → ∀ s, GS s c X Y W → RJ s (f_L_cells_128 k9 n s (iI (c : Nat)) 1 (iI (i : Nat)) (iI (pc3 m : Nat)) (bits (nbF X Y W c i m' f') c) (iI (k : Nat))) := by
  have hp14 : pc3 m ≤ 14 := by unfold pc3; split <;> omega
  intro e
  induction e with
  | zero =>
    intro k n hke hn s h
    have hc := h.1.1
    obtain ⟨n, rfl⟩ : ∃ k, n = k + 1 := ⟨n - 1, by omega⟩
    show RJ s (g_L_cells_128 k9 (f_L_cells_128 k9 n) s _ _ _ _ _ _)
    unfold g_L_cells_128
    rw [if_pos (show iI (pc3 m : Nat) ≤ iI (k : Nat) by rw [iI_le] <;> omega)]
    exact l_ce567 hi hf' hk c 0 fuel (by omega) (by unfold fuel; omega) s h
  | succ e ih =>
    intro k n hke hn s h
    have hc := h.1.1
    obtain ⟨n, rfl⟩ : ∃ k, n = k + 1 := ⟨n - 1, by omega⟩
    have hkp : k < pc3 m := by omega
    have h0p : 0 < pc3 m := by omega
    have hm3 : 3 ≤ m := by
      rcases Nat.lt_or_ge m 3 with q | q
      · rw [show pc3 m = 0 from if_neg (by omega)] at hkp
        omega
      · exact q
    have epc : pc3 m = m := if_pos hm3
    have hG := GP_rx (CO_gp hf) (sortF_ok (CO_gp hf)).1
    have hLM := (sortF_ok (CO_gp hf)).2.1
    have hEk := hG.1 k (by omega)
    have hE0 := hG.1 0 (by omega)
    have lk := LOW_of h.1 hEk
    have l0 := LOW_of h.1 hE0
    obtain ⟨sq1, sq2⟩ := low_sq lk hEk
    have hb : k = 0 ∨ bef (sortF m f 0) (sortF m f k) := by
      rcases Nat.eq_zero_or_pos k with q | q
      · exact Or.inl q
      · exact Or.inr (hLM k (by omega) (by omega))
    have az : (0 : Int) ≤ 0 ∧ (0 : Int) ≤ 1 := by omega
    have ao : (0 : Int) ≤ 1 ∧ (1 : Int) ≤ 1 := by omega
    obtain ⟨s1, k1, e1⟩ := q_cn h hi hf hm hkp az
    have h1 := GS_E k1 h
    obtain ⟨s2, k2, e2⟩ := q_cd h1 hi hf hm hkp az
    have h2 := GS_E k2 h1
    obtain ⟨s3, k3, e3⟩ := q_cn h2 hi hf hm hkp ao
    have h3 := GS_E k3 h2
    obtain ⟨s4, k4, e4⟩ := q_cd h3 hi hf hm hkp ao
    have h4 := GS_E k4 h3
    obtain ⟨s5, k5, e5⟩ := q_cn h4 hi hf hm h0p az
    have h5 := GS_E k5 h4
    obtain ⟨s6, k6, e6⟩ := q_cd h5 hi hf hm h0p az
    have h6 := GS_E k6 h5
    obtain ⟨s7, k7, e7⟩ := q_cn h6 hi hf hm h0p ao
    have h7 := GS_E k7 h6
    obtain ⟨s8, k8, e8⟩ := q_cd h7 hi hf hm h0p ao
    have h8 := GS_E k8 h7
    have k18 := E_tr k1 (E_tr k2 (E_tr k3 (E_tr k4 (E_tr k5 (E_tr k6 (E_tr k7 k8))))))
    have e1' : F_X5_cornerNumerator s (iI (i : Nat)) (iI (k : Nat)) 0 = _ := e1
    have e2' : F_X5_cornerDenominator s1 (iI (i : Nat)) (iI (k : Nat)) 0 = _ := e2
    have e3' : F_X5_cornerNumerator s2 (iI (i : Nat)) (iI (k : Nat)) 1 = _ := e3
    have e4' : F_X5_cornerDenominator s3 (iI (i : Nat)) (iI (k : Nat)) 1 = _ := e4
    have e5' : F_X5_cornerNumerator s4 (iI (i : Nat)) 0 0 = _ := e5
    have e6' : F_X5_cornerDenominator s5 (iI (i : Nat)) 0 0 = _ := e6
    have e7' : F_X5_cornerNumerator s6 (iI (i : Nat)) 0 1 = _ := e7
    have e8' : F_X5_cornerDenominator s7 (iI (i : Nat)) 0 1 = _ := e8
    have bq := fun q => low_bef l0 lk hE0.1 hEk.1 q
    have go := fun (xn xd yn yd : Nat) (hL : LOW (sortF m f k) xn xd yn yd) => RJ_E k18 (l_ce327 (x4 := iI (pc3 m : Nat)) (x5 := bits (nbF X Y W c i m' f') c) (x6 := iI (k : Nat)) (k128 := f_L_cells_128 k9 n) hi hEk hL (fun s h => by
      rw [iI_p1]
      exact ih (k + 1) n (by omega) (by omega) s h) h8)
    show RJ s (g_L_cells_128 k9 (f_L_cells_128 k9 n) s _ _ _ _ _ _)
    unfold g_L_cells_128
    rw [if_neg (show ¬ iI (pc3 m : Nat) ≤ iI (k : Nat) by rw [iI_le] <;> omega), if_neg (by decide)]
    rw [e1', bnd2_some, nm_eq, e2', bnd2_some, nm_eq, e3', bnd2_some, nm_eq, e4', bnd2_some, nm_eq, e5', bnd2_some, nm_eq, e6', bnd2_some, nm_eq, e7', bnd2_some, nm_eq, e8', bnd2_some, nm_eq]
    revert lk l0 sq1 sq2 bq go
    generalize lowV (sortF m f k) 0 = xn
    generalize lowD (sortF m f k) 0 = xd
    generalize lowV (sortF m f k) 1 = yn
    generalize lowD (sortF m f k) 1 = yd
    generalize lowV (sortF m f 0) 0 = fn
    generalize lowD (sortF m f 0) 0 = fd
    generalize lowV (sortF m f 0) 1 = gn
    generalize lowD (sortF m f 0) 1 = gd
    intro lk l0 sq1 sq2 bq go
    have go' := go xn xd yn yd lk
    obtain ⟨⟨x1, x2, x3⟩, ⟨y1, y2, y3⟩, -, -⟩ := lk
    obtain ⟨⟨f1, f2, f3⟩, ⟨g1, g2, g3⟩, -, -⟩ := l0
    have m1 := mul_b (A := 96000) (B := 3200) (a := (fn : Int)) (by omega) (by omega) (b := (xd : Int)) (by omega) (by omega)
    have m2 := mul_b (A := 96000) (B := 3200) (a := (xn : Int)) (by omega) (by omega) (b := (fd : Int)) (by omega) (by omega)
    have m3 := mul_b (A := 96000) (B := 3200) (a := (gn : Int)) (by omega) (by omega) (b := (yd : Int)) (by omega) (by omega)
    have m4 := mul_b (A := 96000) (B := 3200) (a := (yn : Int)) (by omega) (by omega) (b := (gd : Int)) (by omega) (by omega)
    rw [iI_l (by omega) (by omega), iI_l (by omega) (by omega), iI_l (by omega) (by omega), iI_l (by omega) (by omega), iI_l (by omega) (by omega), iI_l (by omega) (by omega), iI_l (by omega) (by omega), iI_l (by omega) (by omega)]
    rw [ql_0, ql_20, lI_mul, lI_mul, lI_mul, lI_mul, lI_mul, lI_mul]
    rw [if_neg (cmp_lt0 (by omega) (by omega) (by omega) (by omega) (by omega)), if_neg (cmp_le0 (by omega) (by omega) (by omega) (by omega) (by omega)), if_neg (cmp_gt0 (by omega) (by omega) (by omega) (by omega) (by omega)), if_neg (cmp_lt0 (by omega) (by omega) (by omega) (by omega) (by omega)), if_neg (cmp_le0 (by omega) (by omega) (by omega) (by omega) (by omega)), if_neg (cmp_gt0 (by omega) (by omega) (by omega) (by omega) (by omega))]
    rcases hb with hb | hb
    · rw [if_pos (show iI (k : Nat) = 0 by rw [hb]; rfl)]
      exact go'
    · by_cases hk0 : k = 0
      · rw [if_pos (show iI (k : Nat) = 0 by rw [hk0]; rfl)]
        exact go'
      · rw [if_neg (show ¬ iI (k : Nat) = 0 by rw [q_0, iI_eq] <;> omega)]
        rcases bq hb with q | ⟨q1, q2⟩
        · rw [if_pos (show lg_cmp (lI ((fn : Int) * xd)) (lI ((xn : Int) * fd)) < 0 by rw [cmp_lt] <;> omega)]
          exact go'
        · rw [if_neg (show ¬ lg_cmp (lI ((fn : Int) * xd)) (lI ((xn : Int) * fd)) < 0 by rw [cmp_lt] <;> omega), if_pos (show lg_cmp (lI ((fn : Int) * xd)) (lI ((xn : Int) * fd)) = 0 by rw [cmp_eq] <;> omega), if_neg (show ¬ 0 ≤ lg_cmp (lI ((gn : Int) * yd)) (lI ((yn : Int) * gd)) by rw [cmp_ge] <;> omega)]
          exact go'
theorem l_ce9 : ∀ (e i n : Nat), i + e = c → e < n → ∀ s, GS s c X Y W → RJ s (f_L_cells_9 n s (iI (c : Nat)) 1 (iI (i : Nat))) := by
  intro e
  induction e with
  | zero =>
    intro i n hi hn s h
    have hc := h.1.1
    obtain ⟨n, rfl⟩ : ∃ k, n = k + 1 := ⟨n - 1, by omega⟩
    show RJ s (g_L_cells_9 (f_L_cells_9 n) s _ _ _)
    unfold g_L_cells_9
    rw [if_pos (show iI (c : Nat) ≤ iI (i : Nat) by rw [iI_le] <;> omega)]
    exact ⟨s, E_rf s, rfl⟩
  | succ e ih =>
    intro i n hi hn s h
    have hc := h.1.1
    obtain ⟨n, rfl⟩ : ∃ k, n = k + 1 := ⟨n - 1, by omega⟩
    have hic : i < c := by omega
    obtain ⟨m, f, s1, k1, hf, hm, e1⟩ := q_cc h hic
    have h1 := GS_E k1 h
    obtain ⟨m', f', s2, k2, hf', e2⟩ := q_nb h1 hic
    have h2 := GS_E k2 h1
    have hp14 : pc3 m ≤ 14 := by unfold pc3; split <;> omega
    have hh := hid_iff h.1 hic hf
    have hk : ∀ s, GS s c X Y W → RJ s (f_L_cells_9 n s (iI (c : Nat)) 1 (iI (i + 1 : Nat))) := fun s h => ih (i + 1) n (by omega) (by omega) s h
    have g128 : ∀ s, GS s c X Y W → RJ s (f_L_cells_128 (f_L_cells_9 n) fuel s (iI (c : Nat)) 1 (iI (i : Nat)) (iI (pc3 m : Nat)) (bits (nbF X Y W c i m' f') c) 0) := fun s h => l_ce128 hic hf hf' hm hk (pc3 m) 0 fuel (by omega) (by unfold fuel; omega) s h
    have arg : (30000 : Int64) + ((1000 : Int32) * iI (i : Nat)).toInt64 = lI ((30000 + 1000 * i : Nat) : Int) := by
      rw [show (1000 : Int32) = iI 1000 from rfl, iI_mul, iI_l (by omega) (by omega), show (30000 : Int64) = lI 30000 from rfl, lI_add]
      congr 1
    have nii : ((bits (nbF X Y W c i m' f') c >>> (iI (i : Nat) &&& 31)) &&& 1) = 0 := by
      rw [bits_at _ c hc i (by omega), if_neg (fun q => by rw [nbF_f (Or.inl rfl)] at q; exact absurd q.2 (by decide))]
    have nend := bits_end (nbF X Y W c i m' f') hc
    have tail : ∀ s, GS s c X Y W → RJ s (f_L_cells_83 (f_L_cells_9 n) s (iI (c : Nat)) (iI (i : Nat)) (iI (pc3 m : Nat)) (bits (nbF X Y W c i m' f') c)) := by
      intro s h
      unfold f_L_cells_83
      obtain ⟨s3, k3, e3⟩ := q_run3 h hic
      rw [arg, e3, bnd2_some]
      refine RJ_E k3 ?_
      have h3 := GS_E k3 h
      by_cases hz : pc3 m = 0
      · rw [hh, decide_eq_true hz, if_pos (show iI (pc3 m : Nat) = 0 by rw [hz]; rfl)]
        unfold f_L_cells_109
        rw [if_pos (by decide), if_pos nend]
        exact g128 s3 h3
      · rw [hh, decide_eq_false hz, if_neg (show ¬ iI (pc3 m : Nat) = 0 by rw [q_0, iI_eq] <;> omega)]
        unfold f_L_cells_109
        rw [if_pos (by decide), if_pos nend]
        exact g128 s3 h3
    have g43 : ∀ s, GS s c X Y W → RJ s (f_L_cells_43 (f_L_cells_9 n) s (iI (c : Nat)) (iI (i : Nat)) (iI (pc3 m : Nat)) (bits (nbF X Y W c i m' f') c)) := by
      intro s h
      unfold f_L_cells_43
      obtain ⟨s3, k3, e3⟩ := q_hid h
      have h3 := GS_E k3 h
      rw [e3, bnd2_some, bits_at _ c hc i (by omega)]
      refine RJ_E k3 ?_
      by_cases hz : pc3 m = 0
      · rw [if_pos (show iI (pc3 m : Nat) = 0 by rw [hz]; rfl)]
        unfold f_L_cells_61
        have hid : hidB X Y W c i = true := by rw [hh, decide_eq_true hz]
        have b0 : bits (nbF X Y W c i m' f') c = 0 := bits_none (fun j hj => nbF_f (Or.inr (Or.inl hid)))
        rw [if_pos (show i < c ∧ hidB X Y W c i = true from ⟨hic, hid⟩), if_pos rfl, if_pos nii]
        by_cases w : 0 < iI (pc3 m : Nat)
        · rw [if_pos w]
          exact tail s3 h3
        · rw [if_neg w, if_pos b0]
          exact tail s3 h3
      · rw [if_neg (show ¬ iI (pc3 m : Nat) = 0 by rw [q_0, iI_eq] <;> omega)]
        unfold f_L_cells_61
        have hid : ¬ hidB X Y W c i = true := by rw [hh, decide_eq_false hz]; decide
        rw [if_neg (show ¬ (i < c ∧ hidB X Y W c i = true) from fun q => hid q.2), if_pos rfl, if_pos nii, if_pos (show 0 < iI (pc3 m : Nat) by rw [q_0, iI_lt] <;> omega)]
        exact tail s3 h3
    show RJ s (g_L_cells_9 (f_L_cells_9 n) s _ _ _)
    unfold g_L_cells_9
    rw [if_neg (show ¬ iI (c : Nat) ≤ iI (i : Nat) by rw [iI_le] <;> omega), if_neg (by decide), e1, bnd2_some, e2, bnd2_some]
    refine RJ_E k1 (RJ_E k2 ?_)
    by_cases hz : pc3 m = 0
    · rw [if_pos (show iI (pc3 m : Nat) = 0 by rw [hz]; rfl)]
      exact g43 s2 h2
    · have h3 : 3 ≤ pc3 m := by
        rcases Nat.lt_or_ge m 3 with q | q
        · exact absurd (if_neg (by omega)) hz
        · rw [show pc3 m = m from if_pos q]
          exact q
      rw [if_neg (show ¬ iI (pc3 m : Nat) = 0 by rw [q_0, iI_eq] <;> omega), if_neg (show ¬ iI (pc3 m : Nat) ≤ 2 by rw [q_2, iI_le] <;> omega)]
      exact g43 s2 h2
theorem l_cells {s : ST} (h : GS s c X Y W) : RJ s (f_L_cells_0 s) := by
  have hc := h.1.1
  unfold f_L_cells_0
  rw [q_siteCount h, bnd2_some]
  exact l_ce9 c 0 fuel (by omega) (by unfold fuel; omega) s h
end CEL
