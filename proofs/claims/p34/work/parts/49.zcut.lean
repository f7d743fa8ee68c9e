/-! ===== the class's corners ===== -/
def RPn (c : Nat) (f : Nat → Pt) (cnt : Int32) (x y d : Nat → Int32) : Prop := cnt = iI c ∧ ∀ k, k < c → x k = iI (f k).1 ∧ y k = iI (f k).2.1 ∧ d k = iI (f k).2.2 ∧ BP (f k)
theorem xd_b {P Q : Pt} (hP : BP P) (hQ : BP Q) : (-307200000 ≤ P.1 * Q.2.2 ∧ P.1 * Q.2.2 ≤ 307200000) ∧ -307200000 ≤ P.2.1 * Q.2.2 ∧ P.2.1 * Q.2.2 ≤ 307200000 := by
  obtain ⟨⟨a1, a2⟩, ⟨b1, b2⟩, c1, c2⟩ := hP
  obtain ⟨-, -, d1, d2⟩ := hQ
  have p1 := mul_b (A := 96000) (B := 3200) a1 a2 (b := Q.2.2) (by omega) d2
  have p2 := mul_b (A := 96000) (B := 3200) b1 b2 (b := Q.2.2) (by omega) d2
  omega
theorem z_once_loop {c : Nat} {f : Nat → Pt} {cnt : Int32} {x y d : Nat → Int32} (h : RPn c f cnt x y d) (hc : c ≤ 14) {P : Pt} (hP : BP P) (hcap : (∀ k, k < c → ¬ eqv P (f k)) → c < 14) :
    ∀ (e k n : Nat), k + e = c → e < n → (∀ j, j < k → ¬ eqv P (f j)) → ∃ c' d' x' y', f_X0_putOnce_3 n (iI c) d x y (iI P.1) (iI P.2.1) (iI P.2.2) (iI k) = some (iI (c' : Nat), d', x', y') ∧ ((c' = c ∧ d' = d ∧ x' = x ∧ y' = y ∧ ∃ j, j < c ∧ eqv P (f j)) ∨ (c' = c + 1 ∧ (∀ j, j < c → ¬ eqv P (f j)) ∧ RPn (c + 1) (gpUp f c P) (iI (c + 1 : Nat)) x' y' d')) := by
  intro e
  induction e with
  | zero =>
    intro k n hk hn hok
    obtain ⟨n, rfl⟩ : ∃ k, n = k + 1 := ⟨n - 1, by omega⟩
    have e : k = c := by omega
    subst e
    have h14 := hcap hok
    refine ⟨k + 1, upd d k (iI P.2.2), upd x k (iI P.1), upd y k (iI P.2.1), ?_, Or.inr ⟨rfl, hok, rfl, fun j hj => ?_⟩⟩
    · show g_X0_putOnce_3 _ _ _ _ _ _ _ _ _ = _
      unfold g_X0_putOnce_3
      rw [if_pos (by rw [iI_le] <;> omega), if_pos (by rw [q_14, iI_lt] <;> omega), gIx_iI (by omega) (by omega) (by omega), nm_eq, iI_clN (by omega), q_1, iI_add]
      rfl
    · unfold gpUp
      by_cases ej : j = k
      · rw [if_pos ej, ej, upd_eq, upd_eq, upd_eq]
        exact ⟨rfl, rfl, rfl, hP⟩
      · rw [if_neg ej, upd_ne ej, upd_ne ej, upd_ne ej]
        exact h.2 j (by omega)
  | succ e ih =>
    intro k n hk hn hok
    obtain ⟨n, rfl⟩ : ∃ k, n = k + 1 := ⟨n - 1, by omega⟩
    show ∃ c' d' x' y', g_X0_putOnce_3 (f_X0_putOnce_3 n) _ _ _ _ _ _ _ _ = _ ∧ _
    unfold g_X0_putOnce_3
    obtain ⟨a1, a2, a3, a4⟩ := h.2 k (by omega)
    have b1 := xd_b hP a4
    have b2 := xd_b a4 hP
    rw [if_neg (by rw [iI_le] <;> omega), gIx_iI (by omega) (by omega) (by omega), iI_clN (by omega), a1, a2, a3, iI_mul, iI_mul, iI_mul, iI_mul]
    have e1 : iI k + (1 : Int32) = iI ((k + 1 : Nat) : Int) := by rw [q_1, iI_add]; rfl
    rw [e1]
    by_cases hx : P.1 * (f k).2.2 = (f k).1 * P.2.2
    · rw [if_pos (by rw [hx])]
      by_cases hy : P.2.1 * (f k).2.2 = (f k).2.1 * P.2.2
      · rw [if_pos (by rw [hy])]
        exact ⟨c, d, x, y, rfl, Or.inl ⟨rfl, rfl, rfl, rfl, k, by omega, hx, hy⟩⟩
      · rw [if_neg (by rw [iI_eq] <;> omega)]
        refine ih (k + 1) n (by omega) (by omega) (fun j hj => ?_)
        by_cases ej : j = k
        · rw [ej]; exact fun q => hy q.2
        · exact hok j (by omega)
    · rw [if_neg (by rw [iI_eq] <;> omega)]
      refine ih (k + 1) n (by omega) (by omega) (fun j hj => ?_)
      by_cases ej : j = k
      · rw [ej]; exact fun q => hx q.1
      · exact hok j (by omega)
theorem z_once {c : Nat} {f : Nat → Pt} {cnt : Int32} {x y d : Nat → Int32} (h : RPn c f cnt x y d) (hc : c ≤ 14) {P : Pt} (hP : BP P) (hcap : (∀ k, k < c → ¬ eqv P (f k)) → c < 14) : ∃ c' d' x' y', f_X0_putOnce_0 cnt d x y (iI P.1) (iI P.2.1) (iI P.2.2) = some (iI (c' : Nat), d', x', y') ∧ ((c' = c ∧ d' = d ∧ x' = x ∧ y' = y ∧ ∃ j, j < c ∧ eqv P (f j)) ∨ (c' = c + 1 ∧ (∀ j, j < c → ¬ eqv P (f j)) ∧ RPn (c + 1) (gpUp f c P) (iI (c + 1 : Nat)) x' y' d')) := by
  unfold f_X0_putOnce_0
  rw [h.1]
  exact z_once_loop h hc hP hcap c 0 fuel (by omega) (by unfold fuel; omega) (fun j hj => by omega)
section ZC
variable {L : List Ln} {pc : Int32} {a b cc : Nat → Int32} {p0c : Int32} {p0x p0y p0w : Nat → Int32}
theorem z_cut_in (hL : RLn L pc a b cc) (hl : L.length ≤ 14) (hB : ∀ t ∈ L, BL t) {p : Nat} {lp : Ln} (hp : L[p]? = some lp) (k23 : Int32 → Int32 → Int32 → Int32 → Int32 → (Nat → Int32) → (Nat → Int32) → (Nat → Int32) → (Nat → Int32) → (Nat → Int32) → (Nat → Int32) → Int32 → Option R_X0_cutOut) :
    ∀ (e q n : Nat) (c : Nat) (f : Nat → Pt) (done : List (Ln × Ln)) (cnt mX mY mD : Int32) (d x y : Nat → Int32), q + e = L.length → e < n → CI L done c f → c ≤ L.length → RPn c f cnt x y d →
      ∃ (c' : Nat) (f' : Nat → Pt) (done' : List (Ln × Ln)) (mX' mY' mD' : Int32) (d' x' y' : Nat → Int32), f_X0_cutOut_39 k23 p0c p0x p0y p0w n cnt pc mX mY mD a b cc d x y (iI p) (iI q) = k23 (iI c') pc mX' mY' mD' a b cc d' x' y' (iI p + 1) ∧ CI L done' c' f' ∧ c' ≤ L.length ∧ RPn c' f' (iI c') x' y' d' ∧ (∀ u ∈ done, u ∈ done') ∧ ∀ (j : Nat) (m : Ln), q ≤ j → L[j]? = some m → (lp, m) ∈ done' := by
  intro e
  induction e with
  | zero =>
    intro q n c f done cnt mX mY mD d x y hq hn hC hcl hR
    obtain ⟨n, rfl⟩ : ∃ k, n = k + 1 := ⟨n - 1, by omega⟩
    refine ⟨c, f, done, mX, mY, mD, d, x, y, ?_, hC, hcl, by have := hR; rw [hR.1] at this; exact this, fun u hu => hu, fun j m hj hm => ?_⟩
    · show g_X0_cutOut_39 k23 p0c p0x p0y p0w _ _ _ _ _ _ _ _ _ _ _ _ _ _ = _
      unfold g_X0_cutOut_39
      rw [if_pos (by rw [hL.1, iI_le] <;> omega), hR.1]
    · have := (List.getElem?_eq_some_iff.mp hm).1
      omega
  | succ e ih =>
    intro q n c f done cnt mX mY mD d x y hq hn hC hcl hR
    obtain ⟨n, rfl⟩ : ∃ k, n = k + 1 := ⟨n - 1, by omega⟩
    obtain ⟨m, hm⟩ : ∃ m, L[q]? = some m := ⟨L[q]'(by omega), List.getElem?_eq_getElem (by omega)⟩
    have ml := List.mem_of_getElem? hp
    have mm := List.mem_of_getElem? hm
    have step : ∀ (c1 : Nat) (f1 : Nat → Pt) (cnt1 mX1 mY1 mD1 : Int32) (d1 x1 y1 : Nat → Int32), CI L ((lp, m) :: done) c1 f1 → c1 ≤ L.length → RPn c1 f1 cnt1 x1 y1 d1 →
        ∃ (c' : Nat) (f' : Nat → Pt) (done' : List (Ln × Ln)) (mX' mY' mD' : Int32) (d' x' y' : Nat → Int32), f_X0_cutOut_39 k23 p0c p0x p0y p0w n cnt1 pc mX1 mY1 mD1 a b cc d1 x1 y1 (iI p) (iI q + 1) = k23 (iI c') pc mX' mY' mD' a b cc d' x' y' (iI p + 1) ∧ CI L done' c' f' ∧ c' ≤ L.length ∧ RPn c' f' (iI c') x' y' d' ∧ (∀ u ∈ done, u ∈ done') ∧ ∀ (j : Nat) (m : Ln), q ≤ j → L[j]? = some m → (lp, m) ∈ done' := by
      intro c1 f1 cnt1 mX1 mY1 mD1 d1 x1 y1 g1 g2 g3
      have e1 : iI q + (1 : Int32) = iI ((q + 1 : Nat) : Int) := by rw [q_1, iI_add]; rfl
      rw [e1]
      obtain ⟨c', f', done', mX', mY', mD', d', x', y', r1, r2, r3, r4, r5, r6⟩ := ih (q + 1) n c1 f1 ((lp, m) :: done) cnt1 mX1 mY1 mD1 d1 x1 y1 (by omega) (by omega) g1 g2 g3
      refine ⟨c', f', done', mX', mY', mD', d', x', y', r1, r2, r3, r4, fun u hu => r5 u (List.mem_cons_of_mem _ hu), fun j m' hj hm' => ?_⟩
      by_cases ej : j = q
      · subst ej
        rw [hm] at hm'
        cases hm'
        exact r5 _ List.mem_cons_self
      · exact r6 j m' (by omega) hm'
    show ∃ (c' : Nat) (f' : Nat → Pt) (done' : List (Ln × Ln)) (mX' mY' mD' : Int32) (d' x' y' : Nat → Int32), g_X0_cutOut_39 k23 p0c p0x p0y p0w (f_X0_cutOut_39 k23 p0c p0x p0y p0w n) _ _ _ _ _ _ _ _ _ _ _ _ _ = _ ∧ _
    unfold g_X0_cutOut_39
    rw [if_neg (by rw [hL.1, iI_le] <;> omega), z_meet hL hl hB hp hm]
    by_cases hd : dt lp m = 0
    · rw [if_pos hd, bnd4_some, if_pos rfl]
      exact step c f cnt mX mY mD d x y (CI_skip hC (Or.inl hd)) hcl hR
    · rw [if_neg hd]
      have hbp : BP (nmt lp m) := by
        have h1 := nmt_b (hB lp ml) (hB m mm)
        exact ⟨h1.1, h1.2.1, (ev_nmt hd).2.2, h1.2.2⟩
      rw [bnd4_some, if_neg (by decide)]
      obtain ⟨r, hr, hr2⟩ := z_hold hL hl hB hbp
      rw [hr, bnd_some]
      rcases hr2 with ⟨rfl, hi⟩ | ⟨rfl, hi⟩
      · rw [if_neg (by decide)]
        obtain ⟨c', d', x', y', s1, s2⟩ := z_once hR (by omega) hbp (fun hh => by have := (CI_put hC ml mm hd hi hh).2; omega)
        rw [s1, bnd4_some]
        rcases s2 with ⟨rfl, rfl, rfl, rfl, hex⟩ | ⟨rfl, hno, hR2⟩
        · exact step c' f (iI c') _ _ _ _ _ _ (CI_skip hC (Or.inr (Or.inr hex))) hcl (by have := hR; rw [hR.1] at this; exact this)
        · obtain ⟨t1, t2⟩ := CI_put hC ml mm hd hi hno
          exact step (c + 1) _ _ _ _ _ _ _ _ t1 t2 hR2
      · rw [if_pos rfl]
        exact step c f cnt _ _ _ d x y (CI_skip hC (Or.inr (Or.inl hi))) hcl hR
theorem z_cut_out (hL : RLn L pc a b cc) (hl : L.length ≤ 14) (hB : ∀ t ∈ L, BL t) :
    ∀ (e p n : Nat) (c : Nat) (f : Nat → Pt) (done : List (Ln × Ln)) (cnt mX mY mD : Int32) (d x y : Nat → Int32), p + e = L.length → e < n → CI L done c f → c ≤ L.length → RPn c f cnt x y d →
      ∃ (c' : Nat) (f' : Nat → Pt) (done' : List (Ln × Ln)) (mX' mY' mD' : Int32) (d' x' y' : Nat → Int32), f_X0_cutOut_23 p0c p0x p0y p0w n cnt pc mX mY mD a b cc d x y (iI p) = some (iI c', pc, mX', mY', mD', a, b, cc, d', x', y') ∧ CI L done' c' f' ∧ c' ≤ L.length ∧ RPn c' f' (iI c') x' y' d' ∧ (∀ u ∈ done, u ∈ done') ∧ ∀ (i j : Nat) (l m : Ln), p ≤ i → i < j → L[i]? = some l → L[j]? = some m → (l, m) ∈ done' := by
  intro e
  induction e with
  | zero =>
    intro p n c f done cnt mX mY mD d x y hq hn hC hcl hR
    obtain ⟨n, rfl⟩ : ∃ k, n = k + 1 := ⟨n - 1, by omega⟩
    refine ⟨c, f, done, mX, mY, mD, d, x, y, ?_, hC, hcl, by have := hR; rw [hR.1] at this; exact this, fun u hu => hu, fun i j l m hi hij hl2 hm => ?_⟩
    · show g_X0_cutOut_23 p0c p0x p0y p0w _ _ _ _ _ _ _ _ _ _ _ _ _ = _
      unfold g_X0_cutOut_23
      rw [if_pos (by rw [hL.1, iI_le] <;> omega), hR.1]
    · have := (List.getElem?_eq_some_iff.mp hl2).1
      omega
  | succ e ih =>
    intro p n c f done cnt mX mY mD d x y hq hn hC hcl hR
    obtain ⟨n, rfl⟩ : ∃ k, n = k + 1 := ⟨n - 1, by omega⟩
    obtain ⟨lp, hp⟩ : ∃ m, L[p]? = some m := ⟨L[p]'(by omega), List.getElem?_eq_getElem (by omega)⟩
    show ∃ (c' : Nat) (f' : Nat → Pt) (done' : List (Ln × Ln)) (mX' mY' mD' : Int32) (d' x' y' : Nat → Int32), g_X0_cutOut_23 p0c p0x p0y p0w (f_X0_cutOut_23 p0c p0x p0y p0w n) _ _ _ _ _ _ _ _ _ _ _ _ = _ ∧ _
    unfold g_X0_cutOut_23
    rw [if_neg (by rw [hL.1, iI_le] <;> omega), nm_eq]
    have e1 : iI p + (1 : Int32) = iI ((p + 1 : Nat) : Int) := by rw [q_1, iI_add]; rfl
    rw [e1]
    obtain ⟨c1, f1, done1, mX1, mY1, mD1, d1, x1, y1, r1, r2, r3, r4, r5, r6⟩ := z_cut_in (p0c := p0c) (p0x := p0x) (p0y := p0y) (p0w := p0w) hL hl hB hp (f_X0_cutOut_23 p0c p0x p0y p0w n) e (p + 1) fuel c f done cnt mX mY mD d x y (by omega) (by unfold fuel; omega) hC hcl hR
    rw [r1, e1]
    obtain ⟨c2, f2, done2, mX2, mY2, mD2, d2, x2, y2, s1, s2, s3, s4, s5, s6⟩ := ih (p + 1) n c1 f1 done1 (iI c1) mX1 mY1 mD1 d1 x1 y1 (by omega) (by omega) r2 r3 r4
    refine ⟨c2, f2, done2, mX2, mY2, mD2, d2, x2, y2, s1, s2, s3, s4, fun u hu => s5 u (r5 u hu), fun i j l m hi hij hl2 hm => ?_⟩
    by_cases ei : i = p
    · subst ei
      rw [hp] at hl2
      cases hl2
      exact s5 _ (r6 j m (by omega) hm)
    · exact s6 i j l m (by omega) hij hl2 hm
end ZC
abbrev LC (X Y W : Nat → Int) (c i : Nat) : List Ln := (List.range c).map (pl X Y W i) ++ sqC
theorem LC_len {X Y W : Nat → Int} {c i : Nat} : (LC X Y W c i).length = c + 4 := by simp [LC, sqC]
theorem LC_b {X Y W : Nat → Int} {c i : Nat} (h : BD c X Y W) : ∀ t ∈ LC X Y W c i, BL t := by
  intro t ht
  rcases List.mem_append.mp ht with q | q
  · obtain ⟨j, -, rfl⟩ := List.mem_map.mp q
    exact pl_b h i j
  · simp only [sqC, List.mem_cons, List.not_mem_nil, or_false] at q
    rcases q with rfl | rfl | rfl | rfl <;> (unfold BL; refine ⟨⟨?_, ?_⟩, ⟨?_, ?_⟩, ?_, ?_⟩ <;> decide)
/-- what a row of corners is: all the corners of the cell that the lines bound -/
def CO (L : List Ln) (c : Nat) (f : Nat → Pt) : Prop := ∃ done, CI L done c f ∧ ∀ l m, l ∈ L → m ∈ L → dt l m ≠ 0 → (l, m) ∈ done ∨ (m, l) ∈ done
theorem CO_of {L : List Ln} {c : Nat} {f : Nat → Pt} {done : List (Ln × Ln)} (h : CI L done c f) (hd : ∀ (i j : Nat) (l m : Ln), i < j → L[i]? = some l → L[j]? = some m → (l, m) ∈ done ∨ (m, l) ∈ done) : CO L c f := by
  refine ⟨done, h, fun l m hl hm hne => ?_⟩
  obtain ⟨i, hi⟩ := List.getElem?_of_mem hl
  obtain ⟨j, hj⟩ := List.getElem?_of_mem hm
  rcases Nat.lt_trichotomy i j with q | q | q
  · exact hd i j l m q hi hj
  · exfalso
    rw [q, hj] at hi
    cases hi
    exact hne (by simp only [dt]; omega)
  · exact (hd j i m l q hj hi).symm
theorem z_cutOut {c : Nat} {X Y W : Nat → Int} {cnt : Int32} {x y w : Nat → Int32} (hR : RS c X Y W cnt x y w) (hB : BD c X Y W) {i : Nat} (hi : i < c) (t1 t2 t3 t4 t5 : Int32) (t6 t7 t8 t9 t10 t11 : Nat → Int32) :
    ∃ (c' : Nat) (f : Nat → Pt) (mX mY mD : Int32) (a b cc d xx yy : Nat → Int32), f_X0_cutOut_0 cnt x y w t1 t2 t3 t4 t5 t6 t7 t8 t9 t10 t11 (iI i) = some (iI c', iI (c + 4 : Nat), mX, mY, mD, a, b, cc, d, xx, yy) ∧ RLn (LC X Y W c i) (iI (c + 4 : Nat)) a b cc ∧ RPn c' f (iI c') xx yy d ∧ CO (LC X Y W c i) c' f ∧ c' ≤ 14 := by
  have hc : c ≤ 10 := hB.1
  unfold f_X0_cutOut_0
  obtain ⟨a1, b1, d1, e1, h1⟩ := z_compare hR hB hi t2 t6 t7 t8
  rw [e1, bnd4_some]
  have hlen : ((List.range c).map (pl X Y W i)).length = c := by simp
  obtain ⟨a2, b2, d2, e2, h2⟩ := z_addSq h1 (by omega)
  rw [e2, bnd4_some]
  rw [hlen] at h2 ⊢
  have h2 : RLn (LC X Y W c i) (iI (c + 4 : Nat)) a2 b2 d2 := h2
  have l4 : (LC X Y W c i).length = c + 4 := LC_len
  obtain ⟨c', f', done', mX', mY', mD', d', x', y', r1, r2, r3, r4, r5, r6⟩ := z_cut_out (p0c := cnt) (p0x := x) (p0y := y) (p0w := w) h2 (by rw [l4]; omega) (LC_b hB) (c + 4) 0 fuel 0 (fun _ => (0, 0, 1)) [] 0 t3 t4 t5 t9 t10 t11 (by rw [l4]; omega) (by unfold fuel; omega) CI_0 (by omega) ⟨rfl, fun k hk => by omega⟩
  exact ⟨c', f', mX', mY', mD', a2, b2, d2, d', x', y', r1, h2, r4, CO_of r2 (fun i j l m hij hl hm => Or.inl (r6 i j l m (by omega) hij hl hm)), by omega⟩
