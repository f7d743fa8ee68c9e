/-! ===== the reference's lines and corners ===== -/
def sqM : List Ln := [(-1, 0, 0), (1, 0, 20), (0, -1, 0), (0, 1, 20)]
abbrev LMd (X Y W : Nat → Int) (c i : Nat) : List Ln := sqM ++ ((List.range c).filter (fun k => decide (k ≠ i))).map (pl X Y W i)
section ZM
variable {c : Nat} {X Y W : Nat → Int} {st : Nat → Int32}
theorem z_part0 (hR : RM c X Y W st) (hc : c ≤ 10) {i : Nat} (hi : i < c) : f_X6_part_0 st (iI i) 0 = some (iI (X i)) := by
  unfold f_X6_part_0
  have e : ((1 : Int32) + (3 : Int32) * iI i) + 0 = iI (1 + 3 * (i : Int)) := by rw [q_1, q_3, iI_mul, iI_add, q_0, iI_add]; congr 1
  rw [e, gIx_iI (by omega) (by omega) (by omega), iI_cl (by omega) (by omega)]
  rw [show (1 + 3 * (i : Int)).toNat = 1 + 3 * i by omega, (hR.2 i hi).1]
theorem z_part1 (hR : RM c X Y W st) (hc : c ≤ 10) {i : Nat} (hi : i < c) : f_X6_part_0 st (iI i) 1 = some (iI (Y i)) := by
  unfold f_X6_part_0
  have e : ((1 : Int32) + (3 : Int32) * iI i) + 1 = iI (2 + 3 * (i : Int)) := by rw [q_1, q_3, iI_mul, iI_add, iI_add]; congr 1; omega
  rw [e, gIx_iI (by omega) (by omega) (by omega), iI_cl (by omega) (by omega)]
  rw [show (2 + 3 * (i : Int)).toNat = 2 + 3 * i by omega, (hR.2 i hi).2.1]
theorem z_part2 (hR : RM c X Y W st) (hc : c ≤ 10) {i : Nat} (hi : i < c) : f_X6_part_0 st (iI i) 2 = some (iI (W i)) := by
  unfold f_X6_part_0
  have e : ((1 : Int32) + (3 : Int32) * iI i) + 2 = iI (3 + 3 * (i : Int)) := by rw [q_1, q_3, q_2, iI_mul, iI_add, iI_add]; congr 1; omega
  rw [e, gIx_iI (by omega) (by omega) (by omega), iI_cl (by omega) (by omega)]
  rw [show (3 + 3 * (i : Int)).toNat = 3 + 3 * i by omega, (hR.2 i hi).2.2]
theorem z_dist (hR : RM c X Y W st) (hc : c ≤ 10) {i : Nat} (hi : i < c) (a b : Int) : f_X6_distance_0 st (iI i) (iI a) (iI b) = some (iI (pw X Y W i a b)) := by
  unfold f_X6_distance_0
  rw [z_part0 hR hc hi, bnd_some, nm_eq, z_part1 hR hc hi, bnd_some, nm_eq, z_part2 hR hc hi, bnd_some, iI_sub, iI_sub, iI_mul, iI_mul, iI_add, iI_sub]
  rfl
theorem z_mput {L : List Ln} {ct : Int32} {a b d : Nat → Int32} (h : RLn L ct a b d) (n : Nat) (hn : L.length = n) (hl : n < 40) (t : Ln) {u v w' : Int32} (hu : u = iI t.1) (hv : v = iI t.2.1) (hw : w' = iI t.2.2) : ∃ a' b' d', f_X6_addPlane_0 ct a b d u v w' = some (iI (n + 1 : Nat), a', b', d') ∧ RLn (L ++ [t]) (iI (n + 1 : Nat)) a' b' d' := by
  subst hn
  refine ⟨_, _, _, ?_, RLn_put h t⟩
  rw [h.1, hu, hv, hw]
  unfold f_X6_addPlane_0
  rw [gIx_iI (by omega) (by omega) (by omega), nm_eq, q_1, iI_add, iI_clN (by omega)]
  rfl
theorem z_near (hR : RM c X Y W st) (hc : c ≤ 10) {L : List Ln} {ct : Int32} {a b d : Nat → Int32} (h : RLn L ct a b d) (n : Nat) (hn : L.length = n) (hl : n < 40) {i j : Nat} (hi : i < c) (hj : j < c) : ∃ a' b' d', f_X6_addNearer_0 st ct a b d (iI i) (iI j) = some (iI (n + 1 : Nat), a', b', d') ∧ RLn (L ++ [pl X Y W i j]) (iI (n + 1 : Nat)) a' b' d' := by
  unfold f_X6_addNearer_0
  rw [z_part0 hR hc hi, bnd_some, z_part1 hR hc hi, bnd_some, z_part0 hR hc hj, bnd_some, z_part1 hR hc hj, bnd_some, z_part2 hR hc hj, bnd_some, z_part2 hR hc hi, bnd_some]
  obtain ⟨a', b', d', e, h2⟩ := z_mput h n hn hl (pl X Y W i j) (u := (2 : Int32) * (iI (X j) - iI (X i))) (v := (2 : Int32) * (iI (Y j) - iI (Y i))) (w' := (((((iI (X j) * iI (X j)) + (iI (Y j) * iI (Y j))) - iI (W j)) - (iI (X i) * iI (X i))) - (iI (Y i) * iI (Y i))) + iI (W i)) (by rw [q_2, iI_sub, iI_mul]; rfl) (by rw [q_2, iI_sub, iI_mul]; rfl) (by rw [iI_mul, iI_mul, iI_mul, iI_mul, iI_add, iI_sub, iI_sub, iI_sub, iI_add]; congr 1; simp only [pl, lv]; omega)
  rw [e, bnd4_some]
  exact ⟨a', b', d', rfl, h2⟩
theorem z_lay_loop (hR : RM c X Y W st) (hc : c ≤ 10) {i : Nat} (hi : i < c) :
    ∀ (e j n : Nat) (L : List Ln) (ct : Int32) (a b d : Nat → Int32), j + e = c → e < n → L = LMd X Y W j i → RLn L ct a b d → ∃ a' b' d', f_X6_layCell_37 st n ct a b d (iI i) (iI j) = some (iI ((LMd X Y W c i).length : Nat), a', b', d') ∧ RLn (LMd X Y W c i) (iI ((LMd X Y W c i).length : Nat)) a' b' d' := by
  intro e
  induction e with
  | zero =>
    intro j n L ct a b d hj hn hLd hL
    obtain ⟨n, rfl⟩ : ∃ k, n = k + 1 := ⟨n - 1, by omega⟩
    have e : j = c := by omega
    subst e
    subst hLd
    refine ⟨a, b, d, ?_, ?_⟩
    · show g_X6_layCell_37 _ _ _ _ _ _ _ _ = _
      unfold g_X6_layCell_37
      rw [show (0 : Int32).toNatClampNeg = 0 from rfl, hR.1, if_pos (by rw [iI_le] <;> omega), hL.1]
    · have := hL
      rw [hL.1] at this
      exact this
  | succ e ih =>
    intro j n L ct a b d hj hn hLd hL
    obtain ⟨n, rfl⟩ : ∃ k, n = k + 1 := ⟨n - 1, by omega⟩
    show ∃ a' b' d', g_X6_layCell_37 _ (f_X6_layCell_37 st n) _ _ _ _ _ _ = _ ∧ _
    unfold g_X6_layCell_37
    rw [show (0 : Int32).toNatClampNeg = 0 from rfl, hR.1, if_neg (by rw [iI_le] <;> omega)]
    have e1 : iI j + (1 : Int32) = iI ((j + 1 : Nat) : Int) := by rw [q_1, iI_add]; rfl
    rw [e1]
    by_cases hji : j = i
    · rw [if_pos (by rw [hji])]
      refine ih (j + 1) n L ct a b d (by omega) (by omega) ?_ hL
      rw [hLd]
      unfold LMd
      rw [List.range_succ, List.filter_append]
      have : [j].filter (fun k => decide (k ≠ i)) = [] := by simp [hji]
      rw [this, List.append_nil]
    · rw [if_neg (by rw [iI_eq] <;> omega)]
      have hlen : L.length ≤ 4 + j := by
        rw [hLd]
        unfold LMd
        rw [List.length_append, List.length_map]
        have := List.length_filter_le (fun k => decide (k ≠ i)) (List.range j)
        rw [List.length_range] at this
        have e4 : sqM.length = 4 := rfl
        omega
      obtain ⟨a', b', d', e2, h2⟩ := z_near hR hc hL L.length rfl (by omega) hi (j := j) (by omega)
      rw [e2, bnd4_some]
      refine ih (j + 1) n _ _ a' b' d' (by omega) (by omega) ?_ h2
      rw [hLd]
      unfold LMd
      rw [List.range_succ, List.filter_append]
      have : [j].filter (fun k => decide (k ≠ i)) = [j] := by simp [hji]
      rw [this, List.map_append, List.append_assoc]
      rfl
theorem z_lay (hR : RM c X Y W st) (hc : c ≤ 10) {i : Nat} (hi : i < c) (ct : Int32) (a b d : Nat → Int32) : ∃ a' b' d', f_X6_layCell_0 st ct a b d (iI i) = some (iI ((LMd X Y W c i).length : Nat), a', b', d') ∧ RLn (LMd X Y W c i) (iI ((LMd X Y W c i).length : Nat)) a' b' d' := by
  unfold f_X6_layCell_0
  have h0 : RLn [] (0 : Int32) a b d := ⟨rfl, fun k t hk => by cases hk⟩
  obtain ⟨a1, b1, d1, e1, h1⟩ := z_mput h0 0 rfl (by omega) (-1, 0, 0) (u := -1) (v := 0) (w' := 0) rfl rfl rfl
  obtain ⟨a2, b2, d2, e2, h2⟩ := z_mput h1 1 rfl (by omega) (1, 0, 20) (u := 1) (v := 0) (w' := 20) rfl rfl rfl
  obtain ⟨a3, b3, d3, e3, h3⟩ := z_mput h2 2 rfl (by omega) (0, -1, 0) (u := 0) (v := -1) (w' := 0) rfl rfl rfl
  obtain ⟨a4, b4, d4, e4, h4⟩ := z_mput h3 3 rfl (by omega) (0, 1, 20) (u := 0) (v := 1) (w' := 20) rfl rfl rfl
  rw [e1, bnd4_some, e2, bnd4_some, e3, bnd4_some, e4, bnd4_some]
  exact z_lay_loop hR hc hi c 0 fuel _ _ a4 b4 d4 (by omega) (by unfold fuel; omega) rfl h4
end ZM
theorem LMd_len {X Y W : Nat → Int} {c i : Nat} : (LMd X Y W c i).length ≤ 4 + c := by
  unfold LMd
  rw [List.length_append, List.length_map]
  have := List.length_filter_le (fun k => decide (k ≠ i)) (List.range c)
  rw [List.length_range] at this
  have e4 : sqM.length = 4 := rfl
  omega
theorem LMd_b {X Y W : Nat → Int} {c i : Nat} (h : BD c X Y W) : ∀ t ∈ LMd X Y W c i, BL t := by
  intro t ht
  rcases List.mem_append.mp ht with q | q
  · simp only [sqM, List.mem_cons, List.not_mem_nil, or_false] at q
    rcases q with rfl | rfl | rfl | rfl <;> (unfold BL; refine ⟨⟨?_, ?_⟩, ⟨?_, ?_⟩, ?_, ?_⟩ <;> decide)
  · obtain ⟨j, -, rfl⟩ := List.mem_map.mp q
    exact pl_b h i j
def RPm (c : Nat) (f : Nat → Pt) (cnt : Int32) (x y d : Nat → Int64) : Prop := cnt = iI c ∧ ∀ k, k < c → x k = lI (f k).1 ∧ y k = lI (f k).2.1 ∧ d k = lI (f k).2.2 ∧ BP (f k)
theorem updL_eq {f : Nat → Int64} {k : Nat} {x : Int64} : vp_updL f k x k = x := by unfold vp_updL; rw [if_pos rfl]
theorem updL_ne {f : Nat → Int64} {k j : Nat} {x : Int64} (h : j ≠ k) : vp_updL f k x j = f j := by unfold vp_updL; rw [if_neg h]
theorem z_with_loop {L : List Ln} {ct : Int32} {a b d : Nat → Int32} (h : RLn L ct a b d) (hl : L.length ≤ 40) (hB : ∀ t ∈ L, BL t) {P : Pt} (hP : BP P) :
    ∀ (e k n : Nat) (r0 : Int32), k + e = L.length → e + 1 < n → ((r0 = 1 ∧ ∀ j t, j < k → L[j]? = some t → ev t P ≤ 0) ∨ (r0 = 0 ∧ ¬ inn L P)) → ∃ r : Int32, f_X6_isWithin_6 (iI (L.length : Nat)) a b d n (lI P.1) (lI P.2.1) (lI P.2.2) r0 (iI k) = some r ∧ ((r = 1 ∧ inn L P) ∨ (r = 0 ∧ ¬ inn L P)) := by
  intro e
  induction e with
  | zero =>
    intro k n r0 hk hn hok
    obtain ⟨n, rfl⟩ : ∃ k, n = k + 1 := ⟨n - 1, by omega⟩
    have e0 : f_X6_isWithin_6 (iI (L.length : Nat)) a b d (n + 1) (lI P.1) (lI P.2.1) (lI P.2.2) r0 (iI k) = gZ r0 (some r0) := by
      show g_X6_isWithin_6 _ _ _ _ _ _ _ _ _ _ = _
      unfold g_X6_isWithin_6
      rw [if_pos (by rw [iI_le] <;> omega)]
    rw [e0]
    rcases hok with ⟨rfl, hok⟩ | ⟨rfl, hok⟩
    · refine ⟨1, gZ_1, Or.inl ⟨rfl, fun t ht => ?_⟩⟩
      obtain ⟨j, hj⟩ := List.getElem?_of_mem ht
      exact hok j t (by have := (List.getElem?_eq_some_iff.mp hj).1; omega) hj
    · exact ⟨0, gZ_0, Or.inr ⟨rfl, hok⟩⟩
  | succ e ih =>
    intro k n r0 hk hn hok
    obtain ⟨n, rfl⟩ : ∃ k, n = k + 1 := ⟨n - 1, by omega⟩
    show ∃ r : Int32, g_X6_isWithin_6 _ _ _ _ (f_X6_isWithin_6 (iI (L.length : Nat)) a b d n) _ _ _ _ _ = _ ∧ _
    unfold g_X6_isWithin_6
    rw [if_neg (by rw [iI_le] <;> omega)]
    rcases hok with ⟨rfl, hok⟩ | ⟨rfl, hok⟩
    · obtain ⟨t, ht⟩ : ∃ t, L[k]? = some t := ⟨L[k]'(by omega), List.getElem?_eq_getElem (by omega)⟩
      have bt := hB t (List.mem_of_getElem? ht)
      obtain ⟨a1, a2, a3⟩ := h.2 k t ht
      have hb := ev_b bt hP
      have hbt := bt
      unfold BL at hbt
      rw [if_neg (by decide), gIx_iI (by omega) (by omega) (by omega), iI_clN (by omega), a1, a2, a3, iI_l (by omega) (by omega), iI_l (by omega) (by omega), iI_l (by omega) (by omega), lI_mul, lI_mul, lI_add, lI_mul]
      have e1 : iI k + (1 : Int32) = iI ((k + 1 : Nat) : Int) := by rw [q_1, iI_add]; rfl
      rw [e1]
      by_cases hv : ev t P ≤ 0
      · rw [if_neg (by rw [cmp_gt] <;> (unfold ev at hv; omega))]
        refine ih (k + 1) n 1 (by omega) (by omega) (Or.inl ⟨rfl, fun j u hj hu => ?_⟩)
        by_cases e : j = k
        · subst e; rw [ht] at hu; cases hu; exact hv
        · exact hok j u (by omega) hu
      · rw [if_pos (by rw [cmp_gt] <;> (unfold ev at hv; omega))]
        exact ih (k + 1) n 0 (by omega) (by omega) (Or.inr ⟨rfl, fun hi => hv (hi t (List.mem_of_getElem? ht))⟩)
    · rw [if_pos rfl]
      exact ⟨0, gZ_0, Or.inr ⟨rfl, hok⟩⟩
theorem z_with {L : List Ln} {ct : Int32} {a b d : Nat → Int32} (h : RLn L ct a b d) (hl : L.length ≤ 40) (hB : ∀ t ∈ L, BL t) {P : Pt} (hP : BP P) : ∃ r : Int32, f_X6_isWithin_0 ct a b d (lI P.1) (lI P.2.1) (lI P.2.2) = some r ∧ ((r = 1 ∧ inn L P) ∨ (r = 0 ∧ ¬ inn L P)) := by
  unfold f_X6_isWithin_0
  rw [h.1]
  exact z_with_loop h hl hB hP L.length 0 fuel 1 (by omega) (by unfold fuel; omega) (Or.inl ⟨rfl, fun j t hj => by omega⟩)
theorem z_note_loop {L : List Ln} {pc : Int32} {a b cc : Nat → Int32} {c : Nat} {f : Nat → Pt} {x y d : Nat → Int64} {cnt : Int32} (h : RPm c f cnt x y d) (hc : c ≤ 40) {P : Pt} (hP : BP P) (hcap : inn L P → (∀ k, k < c → ¬ eqv P (f k)) → c < 40) :
    ∀ (e k n : Nat) (r0 : Int32), k + e = c → e + 1 < n → ((r0 = 1 ∧ inn L P ∧ ∀ j, j < k → ¬ eqv P (f j)) ∨ (r0 = 0 ∧ (¬ inn L P ∨ ∃ j, j < c ∧ eqv P (f j)))) → ∃ (c' : Nat) (x' d' y' : Nat → Int64), f_X6_noteCorner_13 pc a b cc n (iI c) x d y (lI P.1) (lI P.2.1) (lI P.2.2) r0 (iI k) = some (iI (c' : Nat), x', d', y') ∧ ((c' = c ∧ x' = x ∧ d' = d ∧ y' = y ∧ (¬ inn L P ∨ ∃ j, j < c ∧ eqv P (f j))) ∨ (c' = c + 1 ∧ inn L P ∧ (∀ j, j < c → ¬ eqv P (f j)) ∧ RPm (c + 1) (gpUp f c P) (iI (c + 1 : Nat)) x' y' d')) := by
  have fin0 : (¬ inn L P ∨ ∃ j, j < c ∧ eqv P (f j)) → ∃ (c' : Nat) (x' d' y' : Nat → Int64), f_X6_noteCorner_86 pc a b cc (iI c) x d y (lI P.1) (lI P.2.1) (lI P.2.2) 0 = some (iI (c' : Nat), x', d', y') ∧ ((c' = c ∧ x' = x ∧ d' = d ∧ y' = y ∧ (¬ inn L P ∨ ∃ j, j < c ∧ eqv P (f j))) ∨ (c' = c + 1 ∧ inn L P ∧ (∀ j, j < c → ¬ eqv P (f j)) ∧ RPm (c + 1) (gpUp f c P) (iI (c + 1 : Nat)) x' y' d')) := by
    intro hq
    refine ⟨c, x, d, y, ?_, Or.inl ⟨rfl, rfl, rfl, rfl, hq⟩⟩
    unfold f_X6_noteCorner_86
    rw [if_pos rfl]
  intro e
  induction e with
  | zero =>
    intro k n r0 hk hn hok
    obtain ⟨n, rfl⟩ : ∃ k, n = k + 1 := ⟨n - 1, by omega⟩
    have e : k = c := by omega
    subst e
    show ∃ (c' : Nat) (x' d' y' : Nat → Int64), g_X6_noteCorner_13 _ _ _ _ (f_X6_noteCorner_13 pc a b cc n) _ _ _ _ _ _ _ _ _ = _ ∧ _
    unfold g_X6_noteCorner_13
    rw [if_pos (by rw [iI_le] <;> omega)]
    rcases hok with ⟨rfl, hi, hok⟩ | ⟨rfl, hok⟩
    · have h40 := hcap hi hok
      refine ⟨k + 1, vp_updL x k (lI P.1), vp_updL d k (lI P.2.2), vp_updL y k (lI P.2.1), ?_, Or.inr ⟨rfl, hi, hok, rfl, fun j hj => ?_⟩⟩
      · unfold f_X6_noteCorner_86
        rw [if_neg (by decide), gIx_iI (by omega) (by omega) (by omega), nm_eq, iI_clN (by omega), q_1, iI_add]
        rfl
      · unfold gpUp
        by_cases ej : j = k
        · rw [if_pos ej, ej, updL_eq, updL_eq, updL_eq]
          exact ⟨rfl, rfl, rfl, hP⟩
        · rw [if_neg ej, updL_ne ej, updL_ne ej, updL_ne ej]
          exact h.2 j (by omega)
    · exact fin0 hok
  | succ e ih =>
    intro k n r0 hk hn hok
    obtain ⟨n, rfl⟩ : ∃ k, n = k + 1 := ⟨n - 1, by omega⟩
    show ∃ (c' : Nat) (x' d' y' : Nat → Int64), g_X6_noteCorner_13 _ _ _ _ (f_X6_noteCorner_13 pc a b cc n) _ _ _ _ _ _ _ _ _ = _ ∧ _
    unfold g_X6_noteCorner_13
    rw [if_neg (by rw [iI_le] <;> omega)]
    rcases hok with ⟨rfl, hi, hok⟩ | ⟨rfl, hok⟩
    · obtain ⟨a1, a2, a3, a4⟩ := h.2 k (by omega)
      have b1 := xd_b hP a4
      have b2 := xd_b a4 hP
      rw [if_neg (by decide), gIx_iI (by omega) (by omega) (by omega), iI_clN (by omega), a1, a2, a3, lI_mul, lI_mul, lI_mul, lI_mul]
      have e1 : iI k + (1 : Int32) = iI ((k + 1 : Nat) : Int) := by rw [q_1, iI_add]; rfl
      rw [e1]
      have nxt : ¬ eqv P (f k) → ∀ j, j < k + 1 → ¬ eqv P (f j) := by
        intro hq j hj
        by_cases ej : j = k
        · rw [ej]; exact hq
        · exact hok j (by omega)
      by_cases hx : P.1 * (f k).2.2 = (f k).1 * P.2.2
      · rw [if_pos (by rw [cmp_eq] <;> omega)]
        by_cases hy : P.2.1 * (f k).2.2 = (f k).2.1 * P.2.2
        · rw [if_pos (by rw [cmp_eq] <;> omega)]
          exact ih (k + 1) n 0 (by omega) (by omega) (Or.inr ⟨rfl, Or.inr ⟨k, by omega, hx, hy⟩⟩)
        · rw [if_neg (by rw [cmp_eq] <;> omega)]
          exact ih (k + 1) n 1 (by omega) (by omega) (Or.inl ⟨rfl, hi, nxt (fun q => hy q.2)⟩)
      · rw [if_neg (by rw [cmp_eq] <;> omega)]
        exact ih (k + 1) n 1 (by omega) (by omega) (Or.inl ⟨rfl, hi, nxt (fun q => hx q.1)⟩)
    · rw [if_pos rfl]
      exact fin0 hok
theorem z_note {L : List Ln} {pc : Int32} {a b cc : Nat → Int32} (hL : RLn L pc a b cc) (hl : L.length ≤ 40) (hB : ∀ t ∈ L, BL t) {c : Nat} {f : Nat → Pt} {x y d : Nat → Int64} {cnt : Int32} (h : RPm c f cnt x y d) (hc : c ≤ 40) {P : Pt} (hP : BP P) (hcap : inn L P → (∀ k, k < c → ¬ eqv P (f k)) → c < 40) :
    ∃ (c' : Nat) (x' d' y' : Nat → Int64), f_X6_noteCorner_0 pc a b cc cnt x d y (lI P.1) (lI P.2.1) (lI P.2.2) = some (iI (c' : Nat), x', d', y') ∧ ((c' = c ∧ x' = x ∧ d' = d ∧ y' = y ∧ (¬ inn L P ∨ ∃ j, j < c ∧ eqv P (f j))) ∨ (c' = c + 1 ∧ inn L P ∧ (∀ j, j < c → ¬ eqv P (f j)) ∧ RPm (c + 1) (gpUp f c P) (iI (c + 1 : Nat)) x' y' d')) := by
  unfold f_X6_noteCorner_0
  obtain ⟨r, hr, hr2⟩ := z_with hL hl hB hP
  rw [hr, bnd_some, h.1]
  refine z_note_loop h hc hP hcap c 0 fuel r (by omega) (by unfold fuel; omega) ?_
  rcases hr2 with ⟨rfl, hi⟩ | ⟨rfl, hi⟩
  · exact Or.inl ⟨rfl, hi, fun j hj => by omega⟩
  · exact Or.inr ⟨rfl, Or.inl hi⟩
