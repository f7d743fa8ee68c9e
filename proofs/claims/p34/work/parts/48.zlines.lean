/-! ===== the class's lines and meetings ===== -/
def lv (X Y W : Nat → Int) (j : Nat) : Int := X j * X j + Y j * Y j - W j
def pl (X Y W : Nat → Int) (i j : Nat) : Ln := (2 * (X j - X i), 2 * (Y j - Y i), lv X Y W j - lv X Y W i)
def sqC : List Ln := [(-1, 0, 0), (0, -1, 0), (1, 0, 20), (0, 1, 20)]
def RLn (L : List Ln) (cnt : Int32) (a b c : Nat → Int32) : Prop := cnt = iI (L.length : Nat) ∧ ∀ (k : Nat) (t : Ln), L[k]? = some t → a k = iI t.1 ∧ b k = iI t.2.1 ∧ c k = iI t.2.2
def BL (t : Ln) : Prop := (-40 ≤ t.1 ∧ t.1 ≤ 40) ∧ (-40 ≤ t.2.1 ∧ t.2.1 ≤ 40) ∧ -1200 ≤ t.2.2 ∧ t.2.2 ≤ 1200
theorem upd_eq {f : Nat → Int32} {k : Nat} {x : Int32} : upd f k x k = x := by unfold upd; rw [if_pos rfl]
theorem upd_ne {f : Nat → Int32} {k j : Nat} {x : Int32} (h : j ≠ k) : upd f k x j = f j := by unfold upd; rw [if_neg h]
theorem RLn_put {L : List Ln} {cnt : Int32} {a b c : Nat → Int32} (h : RLn L cnt a b c) (t : Ln) : RLn (L ++ [t]) (iI (L.length + 1 : Nat)) (upd a L.length (iI t.1)) (upd b L.length (iI t.2.1)) (upd c L.length (iI t.2.2)) := by
  refine ⟨by rw [List.length_append]; rfl, fun k u hk => ?_⟩
  by_cases e : k = L.length
  · subst e
    rw [List.getElem?_append_right (Nat.le_refl _), Nat.sub_self] at hk
    cases hk
    rw [upd_eq, upd_eq, upd_eq]
    exact ⟨rfl, rfl, rfl⟩
  · have hlt : k < (L ++ [t]).length := (List.getElem?_eq_some_iff.mp hk).1
    rw [List.length_append] at hlt
    have hk2 : k < L.length := by simp at hlt; omega
    rw [List.getElem?_append_left hk2] at hk
    rw [upd_ne e, upd_ne e, upd_ne e]
    exact h.2 k u hk
theorem mul_b {a b A B : Int} (h1 : -A ≤ a) (h2 : a ≤ A) (h3 : -B ≤ b) (h4 : b ≤ B) : -(A * B) ≤ a * b ∧ a * b ≤ A * B := by
  have hA : 0 ≤ A := by omega
  have hB : 0 ≤ B := by omega
  have p1 := Int.mul_nonneg (show 0 ≤ A - a by omega) (show 0 ≤ B - b by omega)
  have p2 := Int.mul_nonneg (show 0 ≤ A + a by omega) (show 0 ≤ B + b by omega)
  have p3 := Int.mul_nonneg (show 0 ≤ A - a by omega) (show 0 ≤ B + b by omega)
  have p4 := Int.mul_nonneg (show 0 ≤ A + a by omega) (show 0 ≤ B - b by omega)
  have e1 : (A - a) * (B - b) = A * B - A * b - a * B + a * b := by clear p1 p2 p3 p4; grind
  have e2 : (A + a) * (B + b) = A * B + A * b + a * B + a * b := by clear p1 p2 p3 p4; grind
  have e3 : (A - a) * (B + b) = A * B + A * b - a * B - a * b := by clear p1 p2 p3 p4; grind
  have e4 : (A + a) * (B - b) = A * B - A * b + a * B - a * b := by clear p1 p2 p3 p4; grind
  omega
theorem lv_b {c : Nat} {X Y W : Nat → Int} (h : BD c X Y W) (j : Nat) : -400 ≤ lv X Y W j ∧ lv X Y W j ≤ 800 := by
  obtain ⟨⟨x1, x2⟩, ⟨y1, y2⟩, w1, w2⟩ := h.2 j
  have p := sq_b (t := X j) (by omega) (by omega)
  have q := sq_b (t := Y j) (by omega) (by omega)
  unfold lv
  omega
theorem pl_b {c : Nat} {X Y W : Nat → Int} (h : BD c X Y W) (i j : Nat) : BL (pl X Y W i j) := by
  obtain ⟨⟨x1, x2⟩, ⟨y1, y2⟩, w1, w2⟩ := h.2 j
  obtain ⟨⟨x1', x2'⟩, ⟨y1', y2'⟩, w1', w2'⟩ := h.2 i
  have a := lv_b h i
  have b := lv_b h j
  unfold pl BL
  refine ⟨⟨?_, ?_⟩, ⟨?_, ?_⟩, ?_, ?_⟩ <;> dsimp only <;> omega
theorem z_has_in {c : Nat} (hc : c ≤ 10) {i : Nat} (hi : i < c) : f_X4_has_0 (iI c) (iI i) = some 1 := by
  rw [z_has hc, iI_toInt (by omega) (by omega), if_pos (by omega)]
section ZL
variable {c : Nat} {X Y W : Nat → Int} {cnt : Int32} {x y w : Nat → Int32}
theorem z_level (hR : RS c X Y W cnt x y w) (hc : c ≤ 10) {i : Nat} (hi : i < c) : f_X4_levelOf_0 x y w (iI i) = some (iI (lv X Y W i)) := by
  unfold f_X4_levelOf_0 f_X4_level_0
  simp (disch := omega) only [gIx_iI, iI_clN, (hR.2 i hi).1, (hR.2 i hi).2.1, (hR.2 i hi).2.2, iI_sub, iI_mul, iI_add, bnd_some]
  rfl
theorem z_put {L : List Ln} {ct : Int32} {a b d : Nat → Int32} (h : RLn L ct a b d) (hl : L.length < 14) (t : Ln) {u v w' : Int32} (hu : u = iI t.1) (hv : v = iI t.2.1) (hw : w' = iI t.2.2) : f_X1_put_0 ct a b d u v w' = some (iI (L.length + 1 : Nat), upd a L.length (iI t.1), upd b L.length (iI t.2.1), upd d L.length (iI t.2.2)) := by
  rw [h.1, hu, hv, hw]
  unfold f_X1_put_0
  have e1 : iI (L.length : Nat) < (14 : Int32) := by rw [q_14, iI_lt] <;> omega
  rw [if_pos e1]
  simp (disch := omega) only [gIx_iI, nm_eq, q_1, iI_add, iI_clN]
  rfl
theorem z_cmp_loop (hR : RS c X Y W cnt x y w) (hB : BD c X Y W) {i : Nat} (hi : i < c) :
    ∀ (e j n : Nat) (ct : Int32) (a b d : Nat → Int32), j + e = c → e < n → RLn ((List.range j).map (pl X Y W i)) ct a b d → ∃ a' b' d', f_X1_compare_16 (iI c) x y w n ct a b d (iI i) (iI j) = some (iI c, a', b', d') ∧ RLn ((List.range c).map (pl X Y W i)) (iI c) a' b' d' := by
  have hc : c ≤ 10 := hB.1
  intro e
  induction e with
  | zero =>
    intro j n ct a b d hj hn hL
    obtain ⟨n, rfl⟩ : ∃ k, n = k + 1 := ⟨n - 1, by omega⟩
    have e : j = c := by omega
    subst e
    refine ⟨a, b, d, ?_, ?_⟩
    · show g_X1_compare_16 _ _ _ _ _ _ _ _ _ _ _ = _
      unfold g_X1_compare_16
      rw [if_pos (by rw [iI_le] <;> omega), hL.1, List.length_map, List.length_range]
    · have := hL
      rw [hL.1, List.length_map, List.length_range] at this
      exact this
  | succ e ih =>
    intro j n ct a b d hj hn hL
    obtain ⟨n, rfl⟩ : ∃ k, n = k + 1 := ⟨n - 1, by omega⟩
    show ∃ a' b' d', g_X1_compare_16 _ _ _ _ (f_X1_compare_16 (iI c) x y w n) _ _ _ _ _ _ = _ ∧ _
    unfold g_X1_compare_16
    rw [if_neg (by rw [iI_le] <;> omega), gIx_iI (by omega) (by omega) (by omega), gIx_iI (by omega) (by omega) (by omega), z_level hR hc (by omega), bnd_some, z_level hR hc hi, bnd_some]
    have hlen : ((List.range j).map (pl X Y W i)).length = j := by rw [List.length_map, List.length_range]
    rw [z_put hL (by omega) (pl X Y W i j) (by rw [iI_clN (by omega), iI_clN (by omega), (hR.2 i hi).1, (hR.2 j (by omega)).1, q_2, iI_sub, iI_mul]; rfl) (by rw [iI_clN (by omega), iI_clN (by omega), (hR.2 i hi).2.1, (hR.2 j (by omega)).2.1, q_2, iI_sub, iI_mul]; rfl) (by rw [iI_sub]; rfl)]
    have e1 : iI j + (1 : Int32) = iI ((j + 1 : Nat) : Int) := by rw [q_1, iI_add]; rfl
    rw [e1]
    have hL2 := RLn_put hL (pl X Y W i j)
    have e2 : (List.range j).map (pl X Y W i) ++ [pl X Y W i j] = (List.range (j + 1)).map (pl X Y W i) := by rw [List.range_succ, List.map_append]; rfl
    rw [e2] at hL2
    exact ih (j + 1) n _ _ _ _ (by omega) (by omega) hL2
theorem z_compare (hR : RS c X Y W cnt x y w) (hB : BD c X Y W) {i : Nat} (hi : i < c) (ct : Int32) (a b d : Nat → Int32) : ∃ a' b' d', f_X1_compare_0 cnt x y w ct a b d (iI i) = some (iI c, a', b', d') ∧ RLn ((List.range c).map (pl X Y W i)) (iI c) a' b' d' := by
  have hc : c ≤ 10 := hB.1
  unfold f_X1_compare_0
  rw [hR.1, z_has_in hc hi, bnd_some, if_neg (by decide)]
  exact z_cmp_loop hR hB hi c 0 fuel 0 a b d (by omega) (by unfold fuel; omega) ⟨rfl, fun k t hk => by simp at hk⟩
theorem z_putE {L : List Ln} {ct : Int32} {a b d : Nat → Int32} (h : RLn L ct a b d) (n : Nat) (hn : L.length = n) (hl : n < 14) (t : Ln) {u v w' : Int32} (hu : u = iI t.1) (hv : v = iI t.2.1) (hw : w' = iI t.2.2) : ∃ a' b' d', f_X1_put_0 ct a b d u v w' = some (iI (n + 1 : Nat), a', b', d') ∧ RLn (L ++ [t]) (iI (n + 1 : Nat)) a' b' d' := by
  subst hn
  exact ⟨_, _, _, z_put h hl t hu hv hw, RLn_put h t⟩
theorem z_addSq {L : List Ln} {ct : Int32} {a b d : Nat → Int32} (h : RLn L ct a b d) (hl : L.length ≤ 10) : ∃ a' b' d', f_X1_addSquare_0 ct a b d = some (iI (L.length + 4 : Nat), a', b', d') ∧ RLn (L ++ sqC) (iI (L.length + 4 : Nat)) a' b' d' := by
  unfold f_X1_addSquare_0
  obtain ⟨a1, b1, d1, e1, h1⟩ := z_putE h L.length rfl (by omega) (-1, 0, 0) (u := -1) (v := 0) (w' := 0) rfl rfl rfl
  obtain ⟨a2, b2, d2, e2, h2⟩ := z_putE h1 (L.length + 1) (by simp) (by omega) (0, -1, 0) (u := 0) (v := -1) (w' := 0) rfl rfl rfl
  obtain ⟨a3, b3, d3, e3, h3⟩ := z_putE h2 (L.length + 2) (by simp) (by omega) (1, 0, 20) (u := 1) (v := 0) (w' := 20) rfl rfl rfl
  obtain ⟨a4, b4, d4, e4, h4⟩ := z_putE h3 (L.length + 3) (by simp) (by omega) (0, 1, 20) (u := 0) (v := 1) (w' := 20) rfl rfl rfl
  have e : (((L ++ [((-1, 0, 0) : Ln)]) ++ [((0, -1, 0) : Ln)]) ++ [((1, 0, 20) : Ln)]) ++ [((0, 1, 20) : Ln)] = L ++ sqC := by simp [sqC]
  rw [e] at h4
  refine ⟨a4, b4, d4, ?_, h4⟩
  rw [e1]
  show bnd4 (f_X1_put_0 _ _ _ _ _ _ _) _ = _
  rw [e2]
  show bnd4 (f_X1_put_0 _ _ _ _ _ _ _) _ = _
  rw [e3]
  show bnd4 (f_X1_put_0 _ _ _ _ _ _ _) _ = _
  rw [e4]
  rfl
end ZL
theorem z_hasL {n : Nat} (hn : n ≤ 14) {k : Nat} (hk : k < n) : f_X1_has_0 (iI n) (iI k) = some 1 := by
  unfold f_X1_has_0
  simp (disch := omega) only [q_0, iI_lt, iI_le]
  rw [if_neg (by omega), if_neg (by omega)]
theorem dt_b {l m : Ln} (hl : BL l) (hm : BL m) : (-3200 ≤ dt l m ∧ dt l m ≤ 3200) ∧ (-96000 ≤ mx l m ∧ mx l m ≤ 96000) ∧ -96000 ≤ my l m ∧ my l m ≤ 96000 := by
  obtain ⟨⟨a1, a2⟩, ⟨b1, b2⟩, c1, c2⟩ := hl
  obtain ⟨⟨a1', a2'⟩, ⟨b1', b2'⟩, c1', c2'⟩ := hm
  have p1 := mul_b a1 a2 b1' b2'
  have p2 := mul_b a1' a2' b1 b2
  have p3 := mul_b c1 c2 b1' b2'
  have p4 := mul_b c1' c2' b1 b2
  have p5 := mul_b a1 a2 c1' c2'
  have p6 := mul_b a1' a2' c1 c2
  unfold dt mx my
  omega
theorem nmt_b {l m : Ln} (hl : BL l) (hm : BL m) : (-96000 ≤ (nmt l m).1 ∧ (nmt l m).1 ≤ 96000) ∧ (-96000 ≤ (nmt l m).2.1 ∧ (nmt l m).2.1 ≤ 96000) ∧ (nmt l m).2.2 ≤ 3200 := by
  have h := dt_b hl hm
  unfold nmt
  split
  · dsimp only; omega
  · dsimp only; omega
theorem z_meet {L : List Ln} {ct : Int32} {a b d : Nat → Int32} (h : RLn L ct a b d) (hl : L.length ≤ 14) (hB : ∀ t ∈ L, BL t) {p q : Nat} {l m : Ln} (hp : L[p]? = some l) (hq : L[q]? = some m) (mX mY mD : Int32) :
    f_X1_meet_0 ct a b d mX mY mD (iI p) (iI q) = some (if dt l m = 0 then ((0 : Int32), mX, mY, mD) else ((1 : Int32), iI (nmt l m).1, iI (nmt l m).2.1, iI (nmt l m).2.2)) := by
  have lp : p < L.length := (List.getElem?_eq_some_iff.mp hp).1
  have lq : q < L.length := (List.getElem?_eq_some_iff.mp hq).1
  have bl := hB l (List.mem_of_getElem? hp)
  have bm := hB m (List.mem_of_getElem? hq)
  have hb := dt_b bl bm
  obtain ⟨a1, a2, a3⟩ := h.2 p l hp
  obtain ⟨b1, b2, b3⟩ := h.2 q m hq
  rw [h.1]
  unfold f_X1_meet_0
  rw [z_hasL hl lp, bnd_some, if_neg (by decide), z_hasL hl lq, bnd_some, if_neg (by decide), gIx_iI (by omega) (by omega) (by omega), gIx_iI (by omega) (by omega) (by omega), nm_eq, iI_clN (by omega), iI_clN (by omega), a1, a2, b1, b2, iI_mul, iI_mul, iI_sub]
  have e0 : iI (l.1 * m.2.1 - m.1 * l.2.1) = iI (dt l m) := rfl
  rw [e0]
  by_cases hz : dt l m = 0
  · rw [if_pos hz, if_pos (by rw [hz]; rfl)]
  · rw [if_neg hz, if_neg (by rw [q_0, iI_eq] <;> omega)]
    have key : ∀ s : Int, f_X1_meet_61 (iI (L.length : Nat)) a b d mX mY mD (iI p) (iI q) (iI (dt l m)) (iI s) = some ((1 : Int32), iI (s * mx l m), iI (s * my l m), iI (s * dt l m)) := by
      intro s
      unfold f_X1_meet_61
      simp (disch := omega) only [gIx_iI, nm_eq, iI_clN, a1, a2, a3, b1, b2, b3, iI_mul, iI_sub]
      rfl
    by_cases hs : dt l m ≤ 0
    · rw [if_pos (by rw [q_0, iI_le] <;> omega)]
      have := key (-1)
      rw [show iI (-1) = (-1 : Int32) from rfl] at this
      rw [this]
      unfold nmt
      rw [if_neg (by omega)]
      dsimp only
      rw [Int.neg_one_mul, Int.neg_one_mul, Int.neg_one_mul]
    · rw [if_neg (by rw [q_0, iI_le] <;> omega)]
      have := key 1
      rw [show iI 1 = (1 : Int32) from rfl] at this
      rw [this]
      unfold nmt
      rw [if_pos (by omega)]
      dsimp only
      rw [Int.one_mul, Int.one_mul, Int.one_mul]
def BP (P : Pt) : Prop := (-96000 ≤ P.1 ∧ P.1 ≤ 96000) ∧ (-96000 ≤ P.2.1 ∧ P.2.1 ≤ 96000) ∧ 0 < P.2.2 ∧ P.2.2 ≤ 3200
theorem ev_b {l : Ln} {P : Pt} (hl : BL l) (hP : BP P) : (-7680000 ≤ l.1 * P.1 + l.2.1 * P.2.1 ∧ l.1 * P.1 + l.2.1 * P.2.1 ≤ 7680000) ∧ -3840000 ≤ l.2.2 * P.2.2 ∧ l.2.2 * P.2.2 ≤ 3840000 := by
  obtain ⟨⟨a1, a2⟩, ⟨b1, b2⟩, c1, c2⟩ := hl
  obtain ⟨⟨x1, x2⟩, ⟨y1, y2⟩, d1, d2⟩ := hP
  have p1 := mul_b a1 a2 x1 x2
  have p2 := mul_b b1 b2 y1 y2
  have p3 := mul_b (A := 1200) (B := 3200) c1 c2 (b := P.2.2) (by omega) d2
  omega
theorem z_beyond {l : Ln} {P : Pt} (hl : BL l) (hP : BP P) : f_X1_meetingIsBeyond_0 (iI P.1) (iI P.2.1) (iI P.2.2) (iI l.1) (iI l.2.1) (iI l.2.2) = some (if ev l P ≤ 0 then 0 else 1) := by
  have hb := ev_b hl hP
  unfold f_X1_meetingIsBeyond_0
  rw [iI_mul, iI_mul, iI_add, iI_mul]
  by_cases h : ev l P ≤ 0
  · rw [if_pos h, if_pos (by rw [iI_le] <;> (unfold ev at h; omega))]
  · rw [if_neg h, if_neg (by rw [iI_le] <;> (unfold ev at h; omega))]
theorem z_hold_loop {L : List Ln} {ct : Int32} {a b d : Nat → Int32} (h : RLn L ct a b d) (hl : L.length ≤ 14) (hB : ∀ t ∈ L, BL t) {P : Pt} (hP : BP P) :
    ∀ (e k n : Nat), k + e = L.length → e < n → (∀ j t, j < k → L[j]? = some t → ev t P ≤ 0) → ∃ r : Int32, f_X1_holdMeeting_2 (iI (L.length : Nat)) (iI P.1) (iI P.2.1) (iI P.2.2) a b d n (iI k) = some r ∧ ((r = 1 ∧ inn L P) ∨ (r = 0 ∧ ¬ inn L P)) := by
  intro e
  induction e with
  | zero =>
    intro k n hk hn hok
    obtain ⟨n, rfl⟩ : ∃ k, n = k + 1 := ⟨n - 1, by omega⟩
    refine ⟨1, ?_, Or.inl ⟨rfl, fun t ht => ?_⟩⟩
    · show g_X1_holdMeeting_2 _ _ _ _ _ _ _ _ _ = _
      unfold g_X1_holdMeeting_2
      rw [if_pos (by rw [iI_le] <;> omega)]
    · obtain ⟨j, hj⟩ := List.getElem?_of_mem ht
      exact hok j t (by have := (List.getElem?_eq_some_iff.mp hj).1; omega) hj
  | succ e ih =>
    intro k n hk hn hok
    obtain ⟨n, rfl⟩ : ∃ k, n = k + 1 := ⟨n - 1, by omega⟩
    show ∃ r : Int32, g_X1_holdMeeting_2 _ _ _ _ _ _ _ (f_X1_holdMeeting_2 (iI (L.length : Nat)) (iI P.1) (iI P.2.1) (iI P.2.2) a b d n) _ = _ ∧ _
    unfold g_X1_holdMeeting_2
    obtain ⟨t, ht⟩ : ∃ t, L[k]? = some t := ⟨L[k]'(by omega), List.getElem?_eq_getElem (by omega)⟩
    have bt := hB t (List.mem_of_getElem? ht)
    obtain ⟨a1, a2, a3⟩ := h.2 k t ht
    rw [if_neg (by rw [iI_le] <;> omega), gIx_iI (by omega) (by omega) (by omega), iI_clN (by omega), a1, a2, a3, z_beyond bt hP, bnd_some]
    by_cases hv : ev t P ≤ 0
    · rw [if_pos hv, if_pos rfl]
      have e1 : iI k + (1 : Int32) = iI ((k + 1 : Nat) : Int) := by rw [q_1, iI_add]; rfl
      rw [e1]
      refine ih (k + 1) n (by omega) (by omega) (fun j u hj hu => ?_)
      by_cases e : j = k
      · subst e; rw [ht] at hu; cases hu; exact hv
      · exact hok j u (by omega) hu
    · rw [if_neg hv, if_neg (by decide)]
      exact ⟨0, rfl, Or.inr ⟨rfl, fun hi => hv (hi t (List.mem_of_getElem? ht))⟩⟩
theorem z_hold {L : List Ln} {ct : Int32} {a b d : Nat → Int32} (h : RLn L ct a b d) (hl : L.length ≤ 14) (hB : ∀ t ∈ L, BL t) {P : Pt} (hP : BP P) : ∃ r : Int32, f_X1_holdMeeting_0 ct (iI P.1) (iI P.2.1) (iI P.2.2) a b d = some r ∧ ((r = 1 ∧ inn L P) ∨ (r = 0 ∧ ¬ inn L P)) := by
  unfold f_X1_holdMeeting_0
  rw [h.1]
  exact z_hold_loop h hl hB hP L.length 0 fuel (by omega) (by unfold fuel; omega) (fun j t hj => by omega)
