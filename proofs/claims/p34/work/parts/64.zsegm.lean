section ZSM
variable {c : Nat} {X Y W : Nat → Int} {cnt : Int32} {x y w : Nat → Int32} {st : Nat → Int32} {a b u v : Int}
theorem z_meets0 {ct : Int32} {ta tb tc : Nat → Int32} (k n : Nat) (x2 x3 x4 x5 k' : Int32) (y1 y2 y3 y4 : Int64) : f_X6_meets_27 st (n + 1) ct ta tb tc x2 x3 x4 x5 y1 y2 y3 y4 0 k' = some (0, ct, ta, tb, tc) := by
  show g_X6_meets_27 st (f_X6_meets_27 st n) ct ta tb tc x2 x3 x4 x5 y1 y2 y3 y4 0 k' = _
  unfold g_X6_meets_27 f_X6_meets_194
  rw [if_pos (show (0 : Int32) = 0 from rfl)]
  by_cases h : ct ≤ k'
  · rw [if_pos h]
  · rw [if_neg h]; rfl
theorem z_mso {L : List Ln} {ct : Int32} {ta tb tc : Nat → Int32} (hL : RLn L ct ta tb tc) (hl : L.length ≤ 14) (hB : ∀ t ∈ L, BL t) (h : PQ a b u v) :
    ∀ (e k n : Nat) (S : S4I), k + e = L.length → e + 1 < n → BS S → f_X6_meets_27 st n ct ta tb tc (iI a) (iI b) (iI u) (iI v) (lI S.1) (lI S.2.1) (lI S.2.2.1) (lI S.2.2.2) 1 (iI k) = some (finS (runS a b u v (L.drop k) S), ct, ta, tb, tc) := by
  intro e
  induction e with
  | zero =>
    intro k n S hk hn hS
    obtain ⟨n, rfl⟩ : ∃ k, n = k + 1 := ⟨n - 1, by omega⟩
    have key : ∀ z, f_X6_meets_27 st (n + 1) ct ta tb tc (iI a) (iI b) (iI u) (iI v) (lI S.1) (lI S.2.1) (lI S.2.2.1) (lI S.2.2.2) z (iI k) = g_X6_meets_27 st (f_X6_meets_27 st n) ct ta tb tc (iI a) (iI b) (iI u) (iI v) (lI S.1) (lI S.2.1) (lI S.2.2.1) (lI S.2.2.2) z (iI k) := fun _ => rfl
    rw [key]
    unfold g_X6_meets_27 f_X6_meets_194
    rw [if_pos (by rw [hL.1, iI_le] <;> omega), if_neg (by decide), List.drop_eq_nil_of_le (by omega), lI_mul, lI_mul]
    obtain ⟨⟨s1, s2⟩, ⟨s3, s4⟩, ⟨s5, s6⟩, s7, s8⟩ := hS
    have p1 := pr_b s5 s6 (q := S.2.1) (by omega) s4
    have p2 := pr_b s1 s2 (q := S.2.2.2) (by omega) s8
    show _ = some ((if S.2.2.1 * S.2.1 < S.1 * S.2.2.2 then 0 else 1), _)
    by_cases q : S.2.2.1 * S.2.1 < S.1 * S.2.2.2
    · rw [if_pos (by rw [cmp_gt] <;> omega), if_pos q]
    · rw [if_neg (by rw [cmp_gt] <;> omega), if_neg q]
  | succ e ih =>
    intro k n S hk hn hS
    obtain ⟨n, rfl⟩ : ∃ k, n = k + 1 := ⟨n - 1, by omega⟩
    have kl : k < L.length := by omega
    have ht := hB L[k] (List.getElem_mem kl)
    obtain ⟨c1, c2, c3⟩ := hL.2 k L[k] (List.getElem?_eq_getElem kl)
    have g := gDE_b h ht
    have ihS := fun S' (e' : stp a b u v S L[k] = some S') => ih (k + 1) n S' (by omega) (by omega) (stp_b h ht hS e')
    rw [List.drop_eq_getElem_cons kl]
    have key : ∀ z, f_X6_meets_27 st (n + 1) ct ta tb tc (iI a) (iI b) (iI u) (iI v) (lI S.1) (lI S.2.1) (lI S.2.2.1) (lI S.2.2.2) z (iI k) = g_X6_meets_27 st (f_X6_meets_27 st n) ct ta tb tc (iI a) (iI b) (iI u) (iI v) (lI S.1) (lI S.2.1) (lI S.2.2.1) (lI S.2.2.2) z (iI k) := fun _ => rfl
    rw [key]
    unfold g_X6_meets_27
    rw [if_neg (by rw [hL.1, iI_le] <;> omega), if_neg (by decide), gIx_iI (by omega) (by omega) (by omega), iI_clN (by omega), c1, c2, c3, nm_eq, nm_eq]
    have eD : (iI L[k].1 * (iI u - iI a) + iI L[k].2.1 * (iI v - iI b)).toInt64 = lI (gD a b u v L[k]) := by
      rw [iI_sub, iI_sub, iI_mul, iI_mul, iI_add]
      exact iI_l (z := gD a b u v L[k]) (by omega) (by omega)
    have eE : ((iI L[k].2.2 - iI L[k].1 * iI a) - iI L[k].2.1 * iI b).toInt64 = lI (gE a b L[k]) := by
      rw [iI_mul, iI_mul, iI_sub, iI_sub]
      exact iI_l (z := gE a b L[k]) (by omega) (by omega)
    rw [eD, eE]
    show _ = some (finS (match stp a b u v S L[k] with | none => none | some S' => runS a b u v (L.drop (k + 1)) S'), _)
    unfold f_X6_meets_155
    unfold stp at ihS ⊢
    generalize gD a b u v L[k] = D at *
    generalize gE a b L[k] = E at *
    obtain ⟨⟨s1, s2⟩, ⟨s3, s4⟩, ⟨s5, s6⟩, s7, s8⟩ := hS
    have p1 := pr_b (p := -E) (q := S.2.1) (by omega) (by omega) (by omega) s4
    have p2 := pr_b (p := S.1) (q := -D) s1 s2 (by omega) (by omega)
    have p3 := pr_b (p := S.2.2.1) (q := D) s5 s6 (by omega) (by omega)
    have p4 := pr_b (p := E) (q := S.2.2.2) (by omega) (by omega) (by omega) s8
    simp only [nm_eq, lI_neg, lI_mul, iI_p1]
    by_cases hD : D = 0
    · subst hD
      rw [if_pos rfl] at ihS ⊢
      rw [if_pos (by rw [ql_0, cmp_eq] <;> omega)]
      by_cases hE : E < 0
      · rw [if_pos (by rw [ql_0, cmp_lt] <;> omega), if_pos hE]
        obtain ⟨n, rfl⟩ : ∃ k, n = k + 1 := ⟨n - 1, by omega⟩
        exact z_meets0 k n _ _ _ _ _ _ _ _ _
      · rw [if_neg hE] at ihS ⊢
        rw [if_neg (by rw [ql_0, cmp_lt] <;> omega)]
        exact ihS S rfl
    · rw [if_neg hD] at ihS ⊢
      rw [if_neg (by rw [ql_0, cmp_eq] <;> omega)]
      by_cases hD2 : D < 0
      · rw [if_pos hD2] at ihS ⊢
        rw [if_pos (by rw [ql_0, cmp_le] <;> omega), if_neg (by rw [ql_0, cmp_ge] <;> omega)]
        by_cases h3 : (-E) * S.2.1 ≤ S.1 * (-D)
        · rw [if_pos h3] at ihS ⊢
          rw [if_pos (by rw [cmp_le] <;> omega)]
          exact ihS S rfl
        · rw [if_neg h3] at ihS ⊢
          rw [if_neg (by rw [cmp_le] <;> omega)]
          exact ihS _ rfl
      · rw [if_neg hD2] at ihS ⊢
        rw [if_neg (by rw [ql_0, cmp_le] <;> omega)]
        by_cases h3 : S.2.2.1 * D ≤ E * S.2.2.2
        · rw [if_pos h3] at ihS ⊢
          rw [if_pos (show 0 ≤ lg_cmp (lI (E * S.2.2.2)) (lI (S.2.2.1 * D)) by rw [cmp_ge] <;> omega), if_pos (by rw [ql_0, cmp_ge] <;> omega)]
          exact ihS S rfl
        · rw [if_neg h3] at ihS ⊢
          rw [if_neg (show ¬ 0 ≤ lg_cmp (lI (E * S.2.2.2)) (lI (S.2.2.1 * D)) by rw [cmp_ge] <;> omega)]
          exact ihS _ rfl
theorem runS_app (L M : List Ln) (S : S4I) : runS a b u v (L ++ M) S = match runS a b u v L S with | none => none | some S' => runS a b u v M S' := by
  induction L generalizing S with
  | nil => rfl
  | cons t L ih =>
    show (match stp a b u v S t with | none => none | some S' => runS a b u v (L ++ M) S') = match (match stp a b u v S t with | none => none | some S' => runS a b u v L S') with | none => none | some S' => runS a b u v M S'
    cases stp a b u v S t with
    | none => rfl
    | some S' => exact ih S'
theorem stp_keep {t : Ln} (h1 : 0 ≤ gE a b t) (h2 : gD a b u v t ≤ gE a b t) : stp a b u v (0, 1, 1, 1) t = some (0, 1, 1, 1) := by
  unfold stp
  simp only
  by_cases hD : gD a b u v t = 0
  · rw [if_pos hD, if_neg (by omega)]
  · rw [if_neg hD]
    by_cases hD2 : gD a b u v t < 0
    · rw [if_pos hD2, if_pos (by omega)]
    · rw [if_neg hD2, if_pos (by omega)]
theorem stp_zero (S : S4I) : stp a b u v S (0, 0, 0) = some S := by
  unfold stp
  rw [if_pos (by simp [gD]), if_neg (by simp [gE])]
theorem runS_sq (h : PQ a b u v) : runS a b u v sqM (0, 1, 1, 1) = some (0, 1, 1, 1) := by
  obtain ⟨⟨⟨a1, a2⟩, b1, b2⟩, ⟨u1, u2⟩, v1, v2⟩ := h
  unfold sqM
  simp only [runS]
  rw [stp_keep (by simp only [gE]; omega) (by simp only [gD, gE]; omega)]
  simp only
  rw [stp_keep (by simp only [gE]; omega) (by simp only [gD, gE]; omega)]
  simp only
  rw [stp_keep (by simp only [gE]; omega) (by simp only [gD, gE]; omega)]
  simp only
  rw [stp_keep (by simp only [gE]; omega) (by simp only [gD, gE]; omega)]
theorem runS_fil (i : Nat) (R : List Nat) (S : S4I) : runS a b u v ((R.filter (fun k => decide (k ≠ i))).map (pl X Y W i)) S = runS a b u v (R.map (pl X Y W i)) S := by
  induction R generalizing S with
  | nil => rfl
  | cons j R ih =>
    by_cases e : j = i
    · subst e
      rw [List.filter_cons_of_neg (by simp), ih, List.map_cons]
      have z : pl X Y W j j = (0, 0, 0) := by unfold pl; simp
      show _ = (match stp a b u v S (pl X Y W j j) with | none => none | some S' => runS a b u v (R.map (pl X Y W j)) S')
      rw [z, stp_zero]
    · rw [List.filter_cons_of_pos (by simpa using e), List.map_cons, List.map_cons]
      show (match stp a b u v S (pl X Y W i j) with | none => none | some S' => runS a b u v ((R.filter (fun k => decide (k ≠ i))).map (pl X Y W i)) S') = (match stp a b u v S (pl X Y W i j) with | none => none | some S' => runS a b u v (R.map (pl X Y W i)) S')
      cases stp a b u v S (pl X Y W i j) with
      | none => rfl
      | some S' => exact ih S'
theorem runS_both (h : PQ a b u v) (i : Nat) : runS a b u v (LMd X Y W c i) (0, 1, 1, 1) = runS a b u v ((List.range c).map (pl X Y W i)) (0, 1, 1, 1) := by
  rw [runS_app, runS_sq h]
  exact runS_fil i _ _
/-- does the cell of a site meet the segment -/
def segB (X Y W : Nat → Int) (c : Nat) (a b u v : Int) (i : Nat) : Bool := decide (finS (runS a b u v ((List.range c).map (pl X Y W i)) (0, 1, 1, 1)) = 1)
theorem finS_or (o : Option S4I) : finS o = 0 ∨ finS o = 1 := by
  cases o with
  | none => exact Or.inl rfl
  | some S =>
    unfold finS
    simp only
    by_cases h : S.2.2.1 * S.2.1 < S.1 * S.2.2.2
    · rw [if_pos h]; exact Or.inl rfl
    · rw [if_neg h]; exact Or.inr rfl
theorem finS_01 (o : Option S4I) : finS o = if decide (finS o = 1) = true then 1 else 0 := by
  have h := finS_or o
  generalize finS o = r at h
  rcases h with rfl | rfl <;> decide
theorem BS0 : BS (0, 1, 1, 1) := by unfold BS; simp only; omega
theorem z_as26 (hR : RS c X Y W cnt x y w) (hB : BD c X Y W) (h : PQ a b u v) :
    ∀ (e k n : Nat) (pc : Int32) (ta tb tc : Nat → Int32), k + e = c → e < n → ∃ (pc' : Int32) (ta' tb' tc' : Nat → Int32), f_X5_alongSegment_26 cnt x y w n pc ta tb tc (iI a) (iI b) (iI u) (iI v) (bits (segB X Y W c a b u v) k) (iI k) = some (bits (segB X Y W c a b u v) c, pc', ta', tb', tc') := by
  have hc := hB.1
  intro e
  induction e with
  | zero =>
    intro k n pc ta tb tc hk hn
    obtain ⟨n, rfl⟩ : ∃ k, n = k + 1 := ⟨n - 1, by omega⟩
    have e : k = c := by omega
    subst e
    refine ⟨pc, ta, tb, tc, ?_⟩
    show g_X5_alongSegment_26 cnt x y w (f_X5_alongSegment_26 cnt x y w n) pc ta tb tc (iI a) (iI b) (iI u) (iI v) _ _ = _
    unfold g_X5_alongSegment_26
    rw [if_pos (by rw [hR.1, iI_le] <;> omega)]
  | succ e ih =>
    intro k n pc ta tb tc hk hn
    obtain ⟨n, rfl⟩ : ∃ k, n = k + 1 := ⟨n - 1, by omega⟩
    show ∃ (pc' : Int32) (ta' tb' tc' : Nat → Int32), g_X5_alongSegment_26 cnt x y w (f_X5_alongSegment_26 cnt x y w n) pc ta tb tc (iI a) (iI b) (iI u) (iI v) _ _ = _
    unfold g_X5_alongSegment_26 f_X1_holdSomeOf_0
    obtain ⟨a1, b1, d1, e1, h1⟩ := z_compare hR hB (show k < c by omega) pc ta tb tc
    rw [if_neg (by rw [hR.1, iI_le] <;> omega), e1, bnd4_some]
    have hs := z_hso h1 (by simp; omega) (rng_b hB k) h c 0 fuel (0, 1, 1, 1) (by simp) (by unfold fuel; omega) BS0
    have hs' : f_X1_holdSomeOf_15 (iI c) a1 b1 d1 fuel (iI a) (iI b) (iI u) (iI v) 0 1 1 1 0 = some (finS (runS a b u v ((List.range c).map (pl X Y W k)) (0, 1, 1, 1))) := hs
    rw [hs', bnd_some, finS_01, nm_eq, iI_p1]
    have ih' := ih (k + 1) n (iI c) a1 b1 d1 (by omega) (by omega)
    by_cases q : segB X Y W c a b u v k = true
    · rw [bits_t q] at ih'
      unfold segB at q
      rw [if_pos q, if_neg (by decide)]
      exact ih'
    · rw [bits_f (Bool.eq_false_iff.mpr q)] at ih'
      unfold segB at q
      rw [if_neg q, if_pos rfl]
      exact ih'
theorem z_mas31 (hM : RM c X Y W st) (hB : BD c X Y W) (h : PQ a b u v) (t0 : Int32) :
    ∀ (e k n : Nat) (pc : Int32) (ta tb tc : Nat → Int32), k + e = c → e < n → ∃ (pc' : Int32) (ta' tb' tc' : Nat → Int32), f_X6_alongSegment_31 st n t0 pc ta tb tc (iI a) (iI b) (iI u) (iI v) (bits (segB X Y W c a b u v) k) (iI k) = some (bits (segB X Y W c a b u v) c, t0, pc', ta', tb', tc') := by
  have hc := hB.1
  intro e
  induction e with
  | zero =>
    intro k n pc ta tb tc hk hn
    obtain ⟨n, rfl⟩ : ∃ k, n = k + 1 := ⟨n - 1, by omega⟩
    have e : k = c := by omega
    subst e
    refine ⟨pc, ta, tb, tc, ?_⟩
    show g_X6_alongSegment_31 st (f_X6_alongSegment_31 st n) t0 pc ta tb tc (iI a) (iI b) (iI u) (iI v) _ _ = _
    unfold g_X6_alongSegment_31
    rw [show (0 : Int32).toNatClampNeg = 0 from rfl, if_pos (by rw [hM.1, iI_le] <;> omega)]
  | succ e ih =>
    intro k n pc ta tb tc hk hn
    obtain ⟨n, rfl⟩ : ∃ k, n = k + 1 := ⟨n - 1, by omega⟩
    show ∃ (pc' : Int32) (ta' tb' tc' : Nat → Int32), g_X6_alongSegment_31 st (f_X6_alongSegment_31 st n) t0 pc ta tb tc (iI a) (iI b) (iI u) (iI v) _ _ = _
    unfold g_X6_alongSegment_31 f_X6_meets_0
    obtain ⟨a1, b1, d1, e1, h1⟩ := z_lay hM hc (show k < c by omega) pc ta tb tc
    have ll := @LMd_len X Y W c k
    rw [show (0 : Int32).toNatClampNeg = 0 from rfl, if_neg (by rw [hM.1, iI_le] <;> omega), e1, bnd4_some]
    have hs := z_mso (st := st) h1 (by omega) (LMd_b hB) h (LMd X Y W c k).length 0 fuel (0, 1, 1, 1) (by omega) (by unfold fuel; omega) BS0
    have hs' : f_X6_meets_27 st fuel (iI ((LMd X Y W c k).length : Nat)) a1 b1 d1 (iI a) (iI b) (iI u) (iI v) 0 1 1 1 1 0 = some (finS (runS a b u v (LMd X Y W c k) (0, 1, 1, 1)), iI ((LMd X Y W c k).length : Nat), a1, b1, d1) := hs
    rw [hs', bnd5_some, runS_both h, finS_01, nm_eq, nm_eq, iI_p1]
    have ih' := ih (k + 1) n (iI ((LMd X Y W c k).length : Nat)) a1 b1 d1 (by omega) (by omega)
    by_cases q : segB X Y W c a b u v k = true
    · rw [bits_t q] at ih'
      unfold segB at q
      rw [if_pos q, if_neg (by decide)]
      exact ih'
    · rw [bits_f (Bool.eq_false_iff.mpr q)] at ih'
      unfold segB at q
      rw [if_neg q, if_pos rfl, Int32.or_zero]
      exact ih'
theorem o22 {Inv : InvT} (H : HS Inv) : op_22 Inv := by
  intro _ _ _ _ _ _ _ _ _ _ _ _ _ _ _ _ _ st _ _ _ _ _ _ _ _ k0 k1 k2 k3 n0 n1 n2 n3 n4 p0 p1 p2 p3 hI
  obtain ⟨c, X, Y, W, hB, hR, hM⟩ := H _ _ _ _ _ _ _ _ _ _ _ _ _ _ _ _ _ _ _ _ _ _ _ _ _ _ hI
  have hc := hB.1
  unfold f_X5_alongSegment_0 f_X6_alongSegment_0
  rw [z_insq, z_ispt, bnd_some, bnd_some, z_insq, z_ispt, bnd_some, bnd_some]
  by_cases h1 : (0 ≤ p0.toInt ∧ p0.toInt ≤ 20) ∧ 0 ≤ p1.toInt ∧ p1.toInt ≤ 20
  · rw [if_pos h1, if_neg (show ¬ (1 : Int32) = 0 by decide), if_neg (show ¬ (1 : Int32) = 0 by decide)]
    by_cases h2 : (0 ≤ p2.toInt ∧ p2.toInt ≤ 20) ∧ 0 ≤ p3.toInt ∧ p3.toInt ≤ 20
    · rw [if_pos h2, if_neg (show ¬ (1 : Int32) = 0 by decide), if_neg (show ¬ (1 : Int32) = 0 by decide), iI_of p0, iI_of p1, iI_of p2, iI_of p3]
      obtain ⟨u1, u2, u3, u4, e1⟩ := z_as26 hR hB (show PQ p0.toInt p1.toInt p2.toInt p3.toInt from ⟨h1, h2⟩) c 0 fuel k0 k1 k2 k3 (by omega) (by unfold fuel; omega)
      obtain ⟨v1, v2, v3, v4, e2⟩ := z_mas31 hM hB (show PQ p0.toInt p1.toInt p2.toInt p3.toInt from ⟨h1, h2⟩) 0 c 0 fuel n1 n2 n3 n4 (by omega) (by unfold fuel; omega)
      exact ⟨_, _, _, _, _, _, _, _, _, _, e1, e2, hI⟩
    · rw [if_neg h2, if_pos rfl, if_pos rfl]
      exact ⟨_, _, _, _, _, _, _, _, _, _, rfl, rfl, hI⟩
  · rw [if_neg h1, if_pos rfl, if_pos rfl]
    exact ⟨_, _, _, _, _, _, _, _, _, _, rfl, rfl, hI⟩
end ZSM
