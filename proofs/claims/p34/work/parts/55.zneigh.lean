/-! ===== neighbours ===== -/
theorem or_and1 (a b : Int32) : (a ||| b) &&& 1 = (a &&& 1) ||| (b &&& 1) := by
  apply Int32.toBitVec_inj.1
  simp only [Int32.toBitVec_and, Int32.toBitVec_or]
  ext i hi
  simp only [BitVec.getElem_and, BitVec.getElem_or, Bool.and_or_distrib_right]
theorem bit_kk : ∀ k : Fin 10, ∀ i : Fin 10, (((1 : Int32) <<< (iI (k : Nat) &&& 31)) >>> (iI (i : Nat) &&& 31)) &&& 1 = if (i : Nat) = k then 1 else 0 := by decide
theorem zero_sr (i : Nat) (hi : i < 10) : ((0 : Int32) >>> (iI i &&& 31)) &&& 1 = 0 := by
  have : ∀ i : Fin 10, ((0 : Int32) >>> (iI (i : Nat) &&& 31)) &&& 1 = 0 := by decide
  exact this ⟨i, hi⟩
theorem bits_at (h : Nat → Bool) : ∀ (k : Nat), k ≤ 10 → ∀ i : Nat, i < 10 → ((bits h k >>> (iI i &&& 31)) &&& 1) = if i < k ∧ h i = true then 1 else 0 := by
  intro k
  induction k with
  | zero =>
    intro _ i hi
    rw [if_neg (by omega)]
    exact zero_sr i hi
  | succ k ih =>
    intro hk i hi
    rw [bits]
    have ih' := ih (by omega) i hi
    have hb := bit_kk ⟨k, by omega⟩ ⟨i, hi⟩
    simp only at hb
    by_cases hh : h k = true
    · rw [if_pos hh, Int32.shiftRight_or, or_and1, ih', hb]
      by_cases e : i = k
      · subst e
        rw [if_neg (by omega), if_pos rfl, if_pos ⟨by omega, hh⟩]
        rfl
      · rw [if_neg e]
        by_cases q : i < k ∧ h i = true
        · rw [if_pos q, if_pos ⟨by omega, q.2⟩]; rfl
        · rw [if_neg q, if_neg (fun z => q ⟨by omega, z.2⟩)]; rfl
    · rw [if_neg hh, ih']
      by_cases q : i < k ∧ h i = true
      · rw [if_pos q, if_pos ⟨by omega, q.2⟩]
      · rw [if_neg q, if_neg (fun z => q ⟨by
          rcases Nat.lt_or_ge i k with w | w
          · exact w
          · exact absurd (show h k = true by rw [show k = i by omega]; exact z.2) hh, z.2⟩)]
/-- every corner of the cell stands in the row -/
theorem CO_all {L : List Ln} {c : Nat} {f : Nat → Pt} (h : CO L c f) {P : Pt} (hP : isE L P) : ∃ k, k < c ∧ eqv P (f k) := by
  obtain ⟨d, h1, h2⟩ := h
  obtain ⟨h0, hin, l, m, hl, hm, hd, e1, e2⟩ := hP
  have key : ∀ l m, dt l m ≠ 0 → ev l P = 0 → ev m P = 0 → (l, m) ∈ d → ∃ k, k < c ∧ eqv P (f k) := by
    intro l m hd e1 e2 hq
    obtain ⟨a1, a2, a3⟩ := ev_nmt hd
    have en := uniq hd e1 e2 a1 a2
    obtain ⟨k, k1, k2⟩ := h1.2 (l, m) hq hd (inn_eqv h0 a3 en hin)
    exact ⟨k, k1, eqv_tr (by omega) en k2⟩
  rcases h2 l m hl hm hd with q | q
  · exact key l m hd e1 e2 q
  · exact key m l (by simp only [dt] at hd ⊢; omega) e2 e1 q
theorem sumN_2iff {n : Nat} {b : Nat → Bool} : 2 ≤ sumN n (fun k => if b k = true then 1 else 0) ↔ ∃ i j, i < j ∧ j < n ∧ b i = true ∧ b j = true := by
  constructor
  · intro h
    obtain ⟨j, j1, j2, j3⟩ := sumN_last (m := 1) h
    obtain ⟨i, i1, i2, -⟩ := sumN_last (m := 0) j3
    exact ⟨i, j, i1, j1, i2, j2⟩
  · rintro ⟨i, j, h1, h2, h3, h4⟩
    have a := @sumN_ind n i (by omega)
    have b' := @sumN_ind n j h2
    have s := @sumN_add n (fun k => if i = k then 1 else 0) (fun k => if j = k then 1 else 0)
    have l := @sumN_le n (fun k => (if i = k then 1 else 0) + (if j = k then 1 else 0)) (fun k => if b k = true then 1 else 0) (fun k hk => by
      by_cases e1 : i = k
      · subst e1
        simp only [h3, if_true]
        rw [if_neg (by omega)]
        omega
      · by_cases e2 : j = k
        · subst e2
          simp only [h4, if_true]
          rw [if_neg e1]
          omega
        · simp only [e1, e2, if_false]
          omega)
    omega
theorem ev_zero (P : Pt) : ev (0, 0, 0) P = 0 := by simp [ev]
theorem pl_rev {X Y W : Nat → Int} {i j : Nat} (P : Pt) : ev (pl X Y W j i) P = -ev (pl X Y W i j) P := by
  simp only [ev, pl]
  grind
section ZNB
variable {c : Nat} {X Y W : Nat → Int} {cnt : Int32} {x y w : Nat → Int32} {st : Nat → Int32}
/-- does a corner stand on the line between two sites -/
def onB (X Y W : Nat → Int) (i j : Nat) (f : Nat → Pt) (k : Nat) : Bool := decide (ev (pl X Y W i j) (f k) = 0)
theorem nb_iff {i j m m' : Nat} {f g : Nat → Pt} (hij : j ≠ i) (hj : j < c) (hf : CO (LC X Y W c i) m f) (hg : CO (LMd X Y W c i ++ [pl X Y W j i]) m' g) : 2 ≤ sumN m (fun k => if onB X Y W i j f k = true then 1 else 0) ↔ 2 ≤ m' := by
  obtain ⟨s1, s2⟩ := LC_LMd (X := X) (Y := Y) (W := W) (c := c) (i := i)
  have gf := CO_gp hf
  have gg := CO_gp hg
  have hpl : pl X Y W i j ∈ LMd X Y W c i := List.mem_append_right _ (List.mem_map.mpr ⟨j, List.mem_filter.mpr ⟨List.mem_range.mpr hj, by simpa using hij⟩, rfl⟩)
  have key1 : ∀ P, isE (LC X Y W c i) P → ev (pl X Y W i j) P = 0 → isE (LMd X Y W c i ++ [pl X Y W j i]) P := by
    rintro P ⟨h0, hin, l, q, hl, hq, hd, e1, e2⟩ h
    have up : ∀ l, l ∈ LC X Y W c i → l ≠ (0, 0, 0) → l ∈ LMd X Y W c i ++ [pl X Y W j i] := by
      intro l hl hne
      rcases s2 l hl with w | w
      · exact List.mem_append_left _ w
      · exact absurd w hne
    refine ⟨h0, ?_, l, q, up l hl ?_, up q hq ?_, hd, e1, e2⟩
    · intro t ht
      rcases List.mem_append.mp ht with w | w
      · exact hin t (s1 t w)
      · rw [List.mem_singleton.mp w, pl_rev, h]
        omega
    · rintro rfl; exact hd (by simp [dt])
    · rintro rfl; exact hd (by simp [dt])
  have key2 : ∀ P, isE (LMd X Y W c i ++ [pl X Y W j i]) P → isE (LC X Y W c i) P ∧ ev (pl X Y W i j) P = 0 := by
    rintro P ⟨h0, hin, l, q, hl, hq, hd, e1, e2⟩
    have hz : ev (pl X Y W i j) P = 0 := by
      have a := hin _ (List.mem_append_left _ hpl)
      have b := hin _ (List.mem_append_right _ (List.mem_singleton.mpr rfl))
      rw [pl_rev] at b
      omega
    have dn : ∀ l, l ∈ LMd X Y W c i ++ [pl X Y W j i] → ∃ l', l' ∈ LC X Y W c i ∧ (l' = l ∨ (l'.1 = -l.1 ∧ l'.2.1 = -l.2.1 ∧ ev l' P = -ev l P)) := by
      intro l hl
      rcases List.mem_append.mp hl with w | w
      · exact ⟨l, s1 l w, Or.inl rfl⟩
      · rw [List.mem_singleton.mp w]
        refine ⟨pl X Y W i j, s1 _ hpl, Or.inr ⟨?_, ?_, ?_⟩⟩
        · simp only [pl]; omega
        · simp only [pl]; omega
        · rw [pl_rev]
    obtain ⟨l', hl', el⟩ := dn l hl
    obtain ⟨q', hq', eq⟩ := dn q hq
    refine ⟨⟨h0, ?_, l', q', hl', hq', ?_, ?_, ?_⟩, hz⟩
    · intro t ht
      rcases s2 t ht with w | w
      · exact hin t (List.mem_append_left _ w)
      · rw [w, ev_zero]
        omega
    · rcases el with rfl | ⟨a1, a2, a3⟩
      · rcases eq with rfl | ⟨b1, b2, b3⟩
        · exact hd
        · simp only [dt] at hd ⊢
          rw [b1, b2, Int.mul_neg, Int.neg_mul]
          omega
      · rcases eq with rfl | ⟨b1, b2, b3⟩
        · simp only [dt] at hd ⊢
          rw [a1, a2, Int.mul_neg, Int.neg_mul]
          omega
        · simp only [dt] at hd ⊢
          rw [a1, a2, b1, b2, Int.neg_mul_neg, Int.neg_mul_neg]
          exact hd
    · rcases el with rfl | ⟨a1, a2, a3⟩ <;> omega
    · rcases eq with rfl | ⟨a1, a2, a3⟩ <;> omega
  rw [sumN_2iff]
  constructor
  · rintro ⟨a, b, h1, h2, h3, h4⟩
    unfold onB at h3 h4
    have p1 := gf.1 a (by omega)
    have p2 := gf.1 b h2
    obtain ⟨u, u1, u2⟩ := CO_all hg (key1 _ p1 (of_decide_eq_true h3))
    obtain ⟨v, v1, v2⟩ := CO_all hg (key1 _ p2 (of_decide_eq_true h4))
    by_cases e : u = v
    · exfalso
      subst e
      have z := (gg.1 u u1).1
      exact gf.2 a b (by omega) h2 (by omega) (eqv_tr (by omega) u2 (eqv_sy v2))
    · omega
  · intro h
    obtain ⟨p1, z1⟩ := key2 _ (gg.1 0 (by omega))
    obtain ⟨p2, z2⟩ := key2 _ (gg.1 1 (by omega))
    obtain ⟨u, u1, u2⟩ := CO_all hf p1
    obtain ⟨v, v1, v2⟩ := CO_all hf p2
    have on : ∀ P k, k < m → 0 < P.2.2 → eqv P (f k) → ev (pl X Y W i j) P = 0 → onB X Y W i j f k = true := by
      intro P k hk hP he hz
      have h1 := (gf.1 k hk).1
      have h2 := ev_eqv hP h1 he (pl X Y W i j)
      rw [hz, Int.zero_mul] at h2
      unfold onB
      exact decide_eq_true (m0 (a := P.2.2) (by rw [Int.mul_comm]; omega) (by omega))
    have o1 := on _ u u1 p1.1 u2 z1
    have o2 := on _ v v1 p2.1 v2 z2
    have ne : u ≠ v := by
      rintro rfl
      have z := (gf.1 u u1).1
      exact gg.2 0 1 (by omega) (by omega) (by omega) (eqv_tr (by omega) u2 (eqv_sy v2))
    rcases Nat.lt_or_gt_of_ne ne with q | q
    · exact ⟨u, v, q, v1, o1, o2⟩
    · exact ⟨v, u, q, u1, o2, o1⟩
theorem z_shared {L : List Ln} {pc : Int32} {a b cc : Nat → Int32} (hL : RLn L pc a b cc) (hl : L.length ≤ 14) (hB : ∀ t ∈ L, BL t) {m : Nat} {f : Nat → Pt} {xx yy d : Nat → Int32} (hf : RPn m f (iI m) xx yy d) (hm : m ≤ 14) {j : Nat} {l : Ln} (hj : L[j]? = some l) :
    ∀ (e k n : Nat), k + e = m → e < n → f_X0_cornersSharedWith_4 (iI m) xx yy d pc a b cc n (iI j) (iI (sumN k (fun k => if decide (ev l (f k) = 0) = true then 1 else 0) : Nat)) (iI k) = some (iI (sumN m (fun k => if decide (ev l (f k) = 0) = true then 1 else 0) : Nat)) := by
  intro e
  induction e with
  | zero =>
    intro k n hk hn
    obtain ⟨n, rfl⟩ : ∃ k, n = k + 1 := ⟨n - 1, by omega⟩
    have e : k = m := by omega
    subst e
    show g_X0_cornersSharedWith_4 _ _ _ _ _ _ _ _ _ (iI j) _ _ = _
    unfold g_X0_cornersSharedWith_4
    rw [if_pos (by rw [iI_le] <;> omega)]
  | succ e ih =>
    intro k n hk hn
    obtain ⟨n, rfl⟩ : ∃ k, n = k + 1 := ⟨n - 1, by omega⟩
    show g_X0_cornersSharedWith_4 _ _ _ _ _ _ _ _ (f_X0_cornersSharedWith_4 (iI m) xx yy d pc a b cc n) (iI j) _ _ = _
    unfold g_X0_cornersSharedWith_4 f_X1_borderHolds_0
    obtain ⟨jl, -⟩ := List.getElem?_eq_some_iff.mp hj
    obtain ⟨a1, a2, a3, a4⟩ := hf.2 k (by omega)
    obtain ⟨b1, b2, b3⟩ := hL.2 j l hj
    have bb := ev_b (hB l (List.mem_of_getElem? hj)) a4
    rw [if_neg (by rw [iI_le] <;> omega), gIx_iI (by omega) (by omega) (by omega), hL.1, z_hasL hl jl, bnd_some, if_neg (by decide), gIx_iI (by omega) (by omega) (by omega), iI_clN (by omega), iI_clN (by omega), a1, a2, a3, b1, b2, b3, iI_mul, iI_mul, iI_mul, iI_add, iI_p1]
    rw [hL.1] at ih
    have ih' := ih (k + 1) n (by omega) (by omega)
    have sb : sumN k (fun k => if decide (ev l (f k) = 0) = true then 1 else 0) ≤ k * 1 := by
      rw [← sumN_const]
      exact sumN_le (fun i hi => by split <;> omega)
    by_cases h : ev l (f k) = 0
    · rw [if_pos (show iI _ = iI _ by unfold ev at h; rw [show l.1 * (f k).1 + l.2.1 * (f k).2.1 = l.2.2 * (f k).2.2 by omega]), bnd_some, if_neg (by decide), iI_p1]
      rwa [show sumN (k + 1) (fun k => if decide (ev l (f k) = 0) = true then 1 else 0) = sumN k (fun k => if decide (ev l (f k) = 0) = true then 1 else 0) + 1 by
        show sumN k (fun k => if decide (ev l (f k) = 0) = true then 1 else 0) + (if decide (ev l (f k) = 0) = true then 1 else 0) = _
        rw [if_pos (decide_eq_true h)]] at ih'
    · rw [if_neg (show ¬ iI _ = iI _ by unfold ev at h; rw [iI_eq] <;> omega), bnd_some, if_pos rfl]
      rwa [show sumN (k + 1) (fun k => if decide (ev l (f k) = 0) = true then 1 else 0) = sumN k (fun k => if decide (ev l (f k) = 0) = true then 1 else 0) by
        show sumN k (fun k => if decide (ev l (f k) = 0) = true then 1 else 0) + (if decide (ev l (f k) = 0) = true then 1 else 0) = _
        rw [if_neg (fun q => h (of_decide_eq_true q))]
        rfl] at ih'
theorem LC_at {i j : Nat} (hj : j < c) : (LC X Y W c i)[j]? = some (pl X Y W i j) := by
  rw [List.getElem?_append_left (by simpa using hj), List.getElem?_map, List.getElem?_range hj]
  rfl
theorem bits_none {h : Nat → Bool} {k : Nat} (hh : ∀ j, j < k → h j = false) : bits h k = 0 := by
  induction k with
  | zero => rfl
  | succ k ih =>
    rw [bits, if_neg (by rw [hh k (by omega)]; decide)]
    exact ih (fun j hj => hh j (by omega))
theorem bits_t {h : Nat → Bool} {k : Nat} (hh : h k = true) : bits h (k + 1) = bits h k ||| ((1 : Int32) <<< (iI k &&& 31)) := by rw [bits, if_pos hh]
theorem bits_f {h : Nat → Bool} {k : Nat} (hh : h k = false) : bits h (k + 1) = bits h k := by rw [bits, if_neg (by rw [hh]; decide)]
/-- are two sites neighbours, by the corners of one -/
noncomputable def nbF (X Y W : Nat → Int) (c i m : Nat) (f : Nat → Pt) (j : Nat) : Bool := decide (j ≠ i) && (!(hidB X Y W c i)) && (!(hidB X Y W c j)) && decide (2 ≤ sumN m (fun k => if onB X Y W i j f k = true then 1 else 0))
theorem nbF_t {i m j : Nat} {f : Nat → Pt} (h1 : j ≠ i) (h2 : hidB X Y W c i = false) (h3 : hidB X Y W c j = false) (h4 : 2 ≤ sumN m (fun k => if onB X Y W i j f k = true then 1 else 0)) : nbF X Y W c i m f j = true := by
  unfold nbF
  rw [h2, h3, decide_eq_true h1, decide_eq_true h4]
  rfl
theorem nbF_f {i m j : Nat} {f : Nat → Pt} (h : j = i ∨ hidB X Y W c i = true ∨ hidB X Y W c j = true ∨ ¬ 2 ≤ sumN m (fun k => if onB X Y W i j f k = true then 1 else 0)) : nbF X Y W c i m f j = false := by
  unfold nbF
  rcases h with h | h | h | h
  · rw [decide_eq_false (fun q => q h)]; rfl
  · rw [h]; simp
  · rw [h]; simp
  · rw [decide_eq_false h]; simp
theorem z_nb_loop (hR : RS c X Y W cnt x y w) (hB : BD c X Y W) {i m : Nat} (hi : i < c) {f : Nat → Pt} {pc mX mY mD : Int32} {a b cc d xx yy : Nat → Int32} (hm : m ≤ 14) (hf : RPn m f (iI m) xx yy d) (hL : RLn (LC X Y W c i) pc a b cc) (hh : hidB X Y W c i = false) :
    ∀ (e k n : Nat), k + e = c → e < n → f_X5_neighbours_46 cnt x y w n (iI m) pc mX mY mD a b cc d xx yy (iI i) (bits (hidB X Y W c) c) (bits (nbF X Y W c i m f) k) (iI k) = some (bits (nbF X Y W c i m f) c, iI m, pc, mX, mY, mD, a, b, cc, d, xx, yy) := by
  have hc := hB.1
  intro e
  induction e with
  | zero =>
    intro k n hk hn
    obtain ⟨n, rfl⟩ : ∃ k, n = k + 1 := ⟨n - 1, by omega⟩
    have e : k = c := by omega
    subst e
    show g_X5_neighbours_46 cnt x y w (f_X5_neighbours_46 cnt x y w n) _ _ _ _ _ _ _ _ _ _ _ (iI i) (bits (hidB X Y W k) k) _ _ = _
    unfold g_X5_neighbours_46
    rw [if_pos (by rw [hR.1, iI_le] <;> omega)]
  | succ e ih =>
    intro k n hk hn
    obtain ⟨n, rfl⟩ : ∃ k, n = k + 1 := ⟨n - 1, by omega⟩
    show g_X5_neighbours_46 cnt x y w (f_X5_neighbours_46 cnt x y w n) _ _ _ _ _ _ _ _ _ _ _ (iI i) (bits (hidB X Y W c) c) _ _ = _
    unfold g_X5_neighbours_46
    have ih' := ih (k + 1) n (by omega) (by omega)
    rw [if_neg (by rw [hR.1, iI_le] <;> omega), iI_p1]
    by_cases e1 : k = i
    · rw [if_pos (by rw [e1])]
      rwa [bits_f (nbF_f (Or.inl e1))] at ih'
    · rw [if_neg (by rw [iI_eq] <;> omega), bits_at _ c hc k (by omega)]
      by_cases e2 : hidB X Y W c k = true
      · rw [if_pos (show k < c ∧ hidB X Y W c k = true from ⟨by omega, e2⟩), if_neg (by decide)]
        rwa [bits_f (nbF_f (Or.inr (Or.inr (Or.inl e2))))] at ih'
      · rw [if_neg (show ¬ (k < c ∧ hidB X Y W c k = true) from fun q => e2 q.2), if_pos rfl]
        unfold f_X0_cornersSharedWith_0
        have sh := z_shared hL (by rw [LC_len]; omega) (LC_b hB) hf hm (LC_at (X := X) (Y := Y) (W := W) (i := i) (show k < c by omega)) m 0 fuel (by omega) (by unfold fuel; omega)
        have sh' : f_X0_cornersSharedWith_4 (iI m) xx yy d pc a b cc fuel (iI k) 0 0 = some (iI (sumN m (fun k' => if onB X Y W i k f k' = true then 1 else 0) : Nat)) := sh
        have sb : sumN m (fun k' => if onB X Y W i k f k' = true then 1 else 0) ≤ m * 1 := by
          rw [← sumN_const]
          exact sumN_le (fun i hi => by split <;> omega)
        rw [sh', bnd_some, nm_eq]
        by_cases e3 : 2 ≤ sumN m (fun k' => if onB X Y W i k f k' = true then 1 else 0)
        · rw [if_neg (by rw [q_2, iI_lt] <;> omega)]
          rwa [bits_t (nbF_t e1 hh (Bool.eq_false_iff.mpr e2) e3)] at ih'
        · rw [if_pos (by rw [q_2, iI_lt] <;> omega)]
          rwa [bits_f (nbF_f (Or.inr (Or.inr (Or.inr e3))))] at ih'
theorem z_are (hM : RM c X Y W st) (hB : BD c X Y W) {i j m : Nat} (hi : i < c) (hj : j < c) {f : Nat → Pt} (hf : CO (LC X Y W c i) m f) (t1 t2 : Int32) (a b d : Nat → Int32) (xx dd yy : Nat → Int64) :
    ∃ (n0 n1 : Int32) (a' b' d' : Nat → Int32) (x' dd' y' : Nat → Int64), f_X6_areNeighbours_0 st t1 t2 a b d xx dd yy (iI i) (iI j) = some ((if nbF X Y W c i m f j = true then (1 : Int32) else 0), n0, n1, a', b', d', x', dd', y') := by
  have hc := hB.1
  unfold f_X6_areNeighbours_0
  by_cases e : i = j
  · rw [if_pos (by rw [e]), nbF_f (Or.inl e.symm)]
    exact ⟨_, _, _, _, _, _, _, _, rfl⟩
  · rw [if_neg (by rw [iI_eq] <;> omega)]
    obtain ⟨n1, n2, n3, n4, n5, n6, n7, n8, e1⟩ := z_mhid hM hB hi t1 t2 a b d xx dd yy
    rw [e1, bnd9_some]
    by_cases h1 : hidB X Y W c i = true
    · rw [if_pos h1, if_neg (by decide), nbF_f (Or.inr (Or.inl h1))]
      exact ⟨_, _, _, _, _, _, _, _, rfl⟩
    · rw [if_neg h1, if_pos rfl]
      obtain ⟨p1, p2, p3, p4, p5, p6, p7, p8, e2⟩ := z_mhid hM hB hj n1 n2 n3 n4 n5 n6 n7 n8
      rw [e2, bnd9_some]
      by_cases h2 : hidB X Y W c j = true
      · rw [if_pos h2, if_neg (by decide), nbF_f (Or.inr (Or.inr (Or.inl h2)))]
        exact ⟨_, _, _, _, _, _, _, _, rfl⟩
      · rw [if_neg h2, if_pos rfl]
        obtain ⟨a1, b1, d1, e3, r1⟩ := z_lay hM hc hi p1 p3 p4 p5
        rw [e3, bnd4_some]
        have hlen := @LMd_len X Y W c i
        obtain ⟨a2, b2, d2, e4, r2⟩ := z_near hM hc r1 _ rfl (by omega) hj hi
        rw [e4, bnd4_some]
        have l2 : (LMd X Y W c i ++ [pl X Y W j i]).length = (LMd X Y W c i).length + 1 := by rw [List.length_append]; rfl
        obtain ⟨m', g, x1, dd1, y1, e5, r3, r4, r5⟩ := z_find r2 (by omega) (fun t ht => by
          rcases List.mem_append.mp ht with w | w
          · exact LMd_b hB t w
          · rw [List.mem_singleton.mp w]; exact pl_b hB j i) p2 p6 p7 p8
        rw [e5, bnd4_some]
        have nb := nb_iff (fun q => e q.symm) hj hf r4
        by_cases h3 : 2 ≤ m'
        · rw [if_neg (by rw [q_1, iI_le] <;> omega), nbF_t (fun q => e q.symm) (Bool.eq_false_iff.mpr h1) (Bool.eq_false_iff.mpr h2) (nb.mpr h3)]
          exact ⟨_, _, _, _, _, _, _, _, rfl⟩
        · rw [if_pos (by rw [q_1, iI_le] <;> omega), nbF_f (Or.inr (Or.inr (Or.inr (fun q => h3 (nb.mp q)))))]
          exact ⟨_, _, _, _, _, _, _, _, rfl⟩
theorem z_mnb_loop (hM : RM c X Y W st) (hB : BD c X Y W) (t0 : Int32) {i m : Nat} (hi : i < c) {f : Nat → Pt} (hf : CO (LC X Y W c i) m f) :
    ∀ (e k n : Nat) (t1 t2 : Int32) (a b d : Nat → Int32) (xx dd yy : Nat → Int64), k + e = c → e < n →
    ∃ (n0 n1 : Int32) (a' b' d' : Nat → Int32) (x' dd' y' : Nat → Int64), f_X6_neighbours_19 st n t0 t1 t2 a b d xx dd yy (iI i) (bits (nbF X Y W c i m f) k) (iI k) = some (bits (nbF X Y W c i m f) c, t0, n0, n1, a', b', d', x', dd', y') := by
  have hc := hB.1
  intro e
  induction e with
  | zero =>
    intro k n t1 t2 a b d xx dd yy hk hn
    obtain ⟨n, rfl⟩ : ∃ k, n = k + 1 := ⟨n - 1, by omega⟩
    have e : k = c := by omega
    subst e
    show ∃ (n0 n1 : Int32) (a' b' d' : Nat → Int32) (x' dd' y' : Nat → Int64), g_X6_neighbours_19 st (f_X6_neighbours_19 st n) _ _ _ _ _ _ _ _ _ (iI i) _ _ = _
    unfold g_X6_neighbours_19
    rw [show (0 : Int32).toNatClampNeg = 0 from rfl, if_pos (by rw [hM.1, iI_le] <;> omega)]
    exact ⟨_, _, _, _, _, _, _, _, rfl⟩
  | succ e ih =>
    intro k n t1 t2 a b d xx dd yy hk hn
    obtain ⟨n, rfl⟩ : ∃ k, n = k + 1 := ⟨n - 1, by omega⟩
    show ∃ (n0 n1 : Int32) (a' b' d' : Nat → Int32) (x' dd' y' : Nat → Int64), g_X6_neighbours_19 st (f_X6_neighbours_19 st n) _ _ _ _ _ _ _ _ _ (iI i) _ _ = _
    unfold g_X6_neighbours_19
    rw [show (0 : Int32).toNatClampNeg = 0 from rfl, if_neg (by rw [hM.1, iI_le] <;> omega)]
    obtain ⟨n1, n2, n3, n4, n5, n6, n7, n8, e1⟩ := z_are hM hB hi (show k < c by omega) hf t1 t2 a b d xx dd yy
    rw [e1, bnd9_some, nm_eq, nm_eq, iI_p1]
    have ih' := ih (k + 1) n n1 n2 n3 n4 n5 n6 n7 n8 (by omega) (by omega)
    by_cases h : nbF X Y W c i m f k = true
    · rw [if_pos h, if_neg (by decide)]
      rwa [bits_t h] at ih'
    · rw [if_neg h, if_pos rfl, Int32.or_zero]
      rwa [bits_f (Bool.eq_false_iff.mpr h)] at ih'
theorem o18 {Inv : InvT} (H : HS Inv) : op_18 Inv := by
  intro _ _ _ _ _ _ _ _ _ _ _ _ _ _ _ _ _ st _ _ _ _ _ _ _ _ k0 k1 k2 k3 k4 k5 k6 k7 k8 k9 k10 n0 n1 n2 n3 n4 n5 n6 n7 n8 p hI
  obtain ⟨c, X, Y, W, hB, hR, hM⟩ := H _ _ _ _ _ _ _ _ _ _ _ _ _ _ _ _ _ _ _ _ _ _ _ _ _ _ hI
  have hc := hB.1
  have ec := hR.1
  subst ec
  unfold f_X5_neighbours_0 f_X6_neighbours_0
  rw [z_has hc, z_nosite hM hc, bnd_some, bnd_some]
  by_cases hp : 0 ≤ p.toInt ∧ p.toInt < c
  · rw [if_pos hp, if_pos hp, if_neg (by decide), if_pos rfl]
    obtain ⟨i, hi, rfl⟩ := p_nat hp
    obtain ⟨u1, u2, u3, u4, u5, u6, u7, u8, u9, u10, u11, e1⟩ := z_hs hR hB k0 k1 k2 k3 k4 k5 k6 k7 k8 k9 k10
    rw [e1, bnd12_some, bits_at _ c hc i (by omega)]
    obtain ⟨m, f, v1, v2, v3, v4, v5, v6, v7, v8, v9, e2, r1, r2, r3, r4⟩ := z_cutOut hR hB hi u1 u2 u3 u4 u5 u6 u7 u8 u9 u10 u11
    obtain ⟨w0, w1, w2, w3, w4, w5, w6, w7, e3⟩ := z_mnb_loop hM hB 0 hi r3 c 0 fuel n1 n2 n3 n4 n5 n6 n7 n8 (by omega) (by unfold fuel; omega)
    have e3' : f_X6_neighbours_19 st fuel 0 n1 n2 n3 n4 n5 n6 n7 n8 (iI i) 0 0 = some (bits (nbF X Y W c i m f) c, 0, w0, w1, w2, w3, w4, w5, w6, w7) := e3
    rw [e3']
    by_cases h : hidB X Y W c i = true
    · rw [if_pos (show i < c ∧ hidB X Y W c i = true from ⟨hi, h⟩), if_pos rfl, bits_none (k := c) (h := nbF X Y W c i m f) (fun j hj => nbF_f (Or.inr (Or.inl h)))]
      exact ⟨_, _, _, _, _, _, _, _, _, _, _, _, _, _, _, _, _, _, _, _, _, rfl, rfl, hI⟩
    · rw [if_neg (show ¬ (i < c ∧ hidB X Y W c i = true) from fun q => h q.2), if_neg (by decide), e2, bnd11_some]
      have e4 := z_nb_loop (mX := v1) (mY := v2) (mD := v3) hR hB hi r4 r2 r1 (Bool.eq_false_iff.mpr h) c 0 fuel (by omega) (by unfold fuel; omega)
      have e4' : f_X5_neighbours_46 (iI c) _ _ _ fuel (iI m) (iI (c + 4 : Nat)) v1 v2 v3 v4 v5 v6 v7 v8 v9 (iI i) (bits (hidB X Y W c) c) 0 0 = _ := e4
      rw [e4']
      exact ⟨_, _, _, _, _, _, _, _, _, _, _, _, _, _, _, _, _, _, _, _, _, rfl, rfl, hI⟩
  · rw [if_neg hp, if_neg hp, if_pos rfl, if_neg (by decide)]
    exact ⟨_, _, _, _, _, _, _, _, _, _, _, _, _, _, _, _, _, _, _, _, _, rfl, rfl, hI⟩
end ZNB
