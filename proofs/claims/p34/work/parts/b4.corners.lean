/-! ===== corners: in the square, no site nearer, two lines through each; neighbours are mutual ===== -/
section COR
variable {c : Nat} {X Y W : Nat → Int}
/-- a corner's two coordinates, each a numerator over a denominator -/
def LOW (P : Pt) (xn xd yn yd : Nat) : Prop := (xn ≤ 96000 ∧ 0 < xd ∧ xd ≤ 3200) ∧ (yn ≤ 96000 ∧ 0 < yd ∧ yd ≤ 3200) ∧ (xn : Int) * P.2.2 = P.1 * xd ∧ (yn : Int) * P.2.2 = P.2.1 * yd
theorem low_mul (V D : Nat) (hD : 0 < D) : V / Nat.gcd V D * D = V * (D / Nat.gcd V D) := by
  obtain ⟨a, ha⟩ := Nat.gcd_dvd_left V D
  obtain ⟨b, hb⟩ := Nat.gcd_dvd_right V D
  have g0 : 0 < Nat.gcd V D := Nat.gcd_pos_of_pos_right _ hD
  generalize Nat.gcd V D = g at *
  subst ha hb
  rw [Nat.mul_div_cancel_left _ g0, Nat.mul_div_cancel_left _ g0]
  rw [Nat.mul_comm a, Nat.mul_right_comm]
theorem low_one (V D : Int) (hV : 0 ≤ V) (hD : 0 < D) : 0 < D.toNat / Nat.gcd V.toNat D.toNat ∧ ((V.toNat / Nat.gcd V.toNat D.toNat : Nat) : Int) * D = V * ((D.toNat / Nat.gcd V.toNat D.toNat : Nat) : Int) := by
  have g0 : 0 < Nat.gcd V.toNat D.toNat := Nat.gcd_pos_of_pos_right _ (by omega)
  have gl : Nat.gcd V.toNat D.toNat ≤ D.toNat := Nat.gcd_le_right _ (by omega)
  refine ⟨Nat.div_pos gl g0, ?_⟩
  have := low_mul V.toNat D.toNat (by omega)
  have h2 : ((V.toNat / Nat.gcd V.toNat D.toNat * D.toNat : Nat) : Int) = ((V.toNat * (D.toNat / Nat.gcd V.toNat D.toNat) : Nat) : Int) := by rw [this]
  rw [Int.natCast_mul, Int.natCast_mul, Int.toNat_of_nonneg hV, Int.toNat_of_nonneg (show 0 ≤ D by omega)] at h2
  exact h2
theorem LC_sq {t : Ln} (h : t ∈ sqC) (i : Nat) : t ∈ LC X Y W c i := List.mem_append_right _ h
theorem isE_pos {i : Nat} {P : Pt} (h : isE (LC X Y W c i) P) : 0 ≤ P.1 ∧ 0 ≤ P.2.1 := inn_pos h.2.1 (LC_sq (by simp [sqC]) i) (LC_sq (by simp [sqC]) i)
theorem LOW_of {i : Nat} {P : Pt} (hB : BD c X Y W) (h : isE (LC X Y W c i) P) : LOW P (lowV P 0) (lowD P 0) (lowV P 1) (lowD P 1) := by
  obtain ⟨h0, hin, l, m, hl, hm, hd, e1, e2⟩ := id h
  obtain ⟨a1, a2, a3⟩ := ev_nmt hd
  have en := uniq hd e1 e2 a1 a2
  have bb := nmt_b (LC_b hB l hl) (LC_b hB m hm)
  have pp := isE_pos h
  have hin2 := inn_eqv h0 a3 en hin
  have pq := inn_pos hin2 (LC_sq (by simp [sqC]) i) (LC_sq (by simp [sqC]) i)
  obtain ⟨x1, x2⟩ := low_eqv h0 a3 pp pq en 0
  obtain ⟨y1, y2⟩ := low_eqv h0 a3 pp pq en 1
  have ux : lowV P 0 ≤ 96000 ∧ lowD P 0 ≤ 3200 := by
    rw [x1, x2]
    unfold lowV lowD
    have d1 := Nat.div_le_self (if (0 : Int) = 0 then (nmt l m).1 else (nmt l m).2.1).toNat (Nat.gcd (if (0 : Int) = 0 then (nmt l m).1 else (nmt l m).2.1).toNat (nmt l m).2.2.toNat)
    have d2 := Nat.div_le_self (nmt l m).2.2.toNat (Nat.gcd (if (0 : Int) = 0 then (nmt l m).1 else (nmt l m).2.1).toNat (nmt l m).2.2.toNat)
    rw [if_pos rfl] at d1 d2 ⊢
    omega
  have uy : lowV P 1 ≤ 96000 ∧ lowD P 1 ≤ 3200 := by
    rw [y1, y2]
    unfold lowV lowD
    have d1 := Nat.div_le_self (if (1 : Int) = 0 then (nmt l m).1 else (nmt l m).2.1).toNat (Nat.gcd (if (1 : Int) = 0 then (nmt l m).1 else (nmt l m).2.1).toNat (nmt l m).2.2.toNat)
    have d2 := Nat.div_le_self (nmt l m).2.2.toNat (Nat.gcd (if (1 : Int) = 0 then (nmt l m).1 else (nmt l m).2.1).toNat (nmt l m).2.2.toNat)
    rw [if_neg (by decide)] at d1 d2 ⊢
    omega
  have gx := low_one P.1 P.2.2 pp.1 h0
  have gy := low_one P.2.1 P.2.2 pp.2 h0
  refine ⟨⟨ux.1, ?_, ux.2⟩, ⟨uy.1, ?_, uy.2⟩, ?_, ?_⟩
  · exact gx.1
  · exact gy.1
  · exact gx.2
  · exact gy.2
/-- the sign of a line at a corner, by the corner's coordinates -/
theorem low_ev {P : Pt} {xn xd yn yd : Nat} (h : LOW P xn xd yn yd) (l : Ln) : (l.1 * xn * yd + l.2.1 * yn * xd - l.2.2 * xd * yd) * P.2.2 = ev l P * (xd * yd) := by
  obtain ⟨-, -, h1, h2⟩ := h
  simp only [ev]
  generalize (xn : Int) = A at *
  generalize (xd : Int) = B at *
  generalize (yn : Int) = C at *
  generalize (yd : Int) = D at *
  grind
theorem sgn_of {a b x y : Int} (h : a * x = b * y) (hx : 0 < x) (hy : 0 < y) : (a ≤ 0 ↔ b ≤ 0) ∧ (a = 0 ↔ b = 0) := by
  have k : ∀ {a b x y : Int}, a * x = b * y → 0 < x → 0 < y → 0 < b → 0 < a := fun h hx hy hb => pos_of_scale h hx hy hb
  have k1 : 0 < b → 0 < a := fun q => k h hx hy q
  have k2 : 0 < a → 0 < b := fun q => k h.symm hy hx q
  have k3 : b < 0 → a < 0 := fun q => by
    have := k (a := -a) (b := -b) (by rw [Int.neg_mul, Int.neg_mul, h]) hx hy (by omega)
    omega
  have k4 : a < 0 → b < 0 := fun q => by
    have := k (a := -b) (b := -a) (x := y) (y := x) (by rw [Int.neg_mul, Int.neg_mul, h]) hy hx (by omega)
    omega
  constructor <;> constructor <;> intro q <;> omega
theorem xy_pos {xd yd : Nat} (h1 : 0 < xd) (h2 : 0 < yd) : (0 : Int) < (xd : Int) * yd := Int.mul_pos (by omega) (by omega)
theorem low_sgn {P : Pt} {xn xd yn yd : Nat} (h : LOW P xn xd yn yd) (h0 : 0 < P.2.2) (l : Ln) : (l.1 * xn * yd + l.2.1 * yn * xd ≤ l.2.2 * xd * yd ↔ ev l P ≤ 0) ∧ (l.1 * xn * yd + l.2.1 * yn * xd = l.2.2 * xd * yd ↔ ev l P = 0) := by
  have := sgn_of (low_ev h l) h0 (xy_pos h.1.2.1 h.2.1.2.1)
  constructor
  · rw [← this.1]; omega
  · rw [← this.2]; omega
/-- in the square -/
theorem low_sq {i : Nat} {P : Pt} {xn xd yn yd : Nat} (h : LOW P xn xd yn yd) (hE : isE (LC X Y W c i) P) : xn ≤ 20 * xd ∧ yn ≤ 20 * yd := by
  obtain ⟨h0, hin, -⟩ := hE
  have a := hin (1, 0, 20) (LC_sq (by simp [sqC]) i)
  have b := hin (0, 1, 20) (LC_sq (by simp [sqC]) i)
  obtain ⟨⟨-, x0, -⟩, ⟨-, y0, -⟩, hx, hy⟩ := h
  simp only [ev] at a b
  have k1 := (sgn_of (a := (xn : Int) - 20 * xd) (b := P.1 - 20 * P.2.2) (x := P.2.2) (y := xd) (by rw [Int.sub_mul, Int.sub_mul, hx]; congr 1; rw [Int.mul_right_comm]) h0 (by omega)).1.mpr (by omega)
  have k2 := (sgn_of (a := (yn : Int) - 20 * yd) (b := P.2.1 - 20 * P.2.2) (x := P.2.2) (y := yd) (by rw [Int.sub_mul, Int.sub_mul, hy]; congr 1; rw [Int.mul_right_comm]) h0 (by omega)).1.mpr (by omega)
  omega
/-- the first corner is the least -/
theorem low_bef {P Q : Pt} {fn fd gn gd xn xd yn yd : Nat} (hP : LOW P fn fd gn gd) (hQ : LOW Q xn xd yn yd) (p0 : 0 < P.2.2) (q0 : 0 < Q.2.2) (h : bef P Q) : (fn : Int) * xd < xn * fd ∨ ((fn : Int) * xd = xn * fd ∧ (gn : Int) * yd < yn * gd) := by
  obtain ⟨⟨-, f0, -⟩, ⟨-, g0, -⟩, hf, hg⟩ := hP
  obtain ⟨⟨-, x0, -⟩, ⟨-, y0, -⟩, hx, hy⟩ := hQ
  have pq : 0 < P.2.2 * Q.2.2 := Int.mul_pos p0 q0
  have fx := xy_pos f0 x0
  have gy := xy_pos g0 y0
  have e1 : ((fn : Int) * xd - xn * fd) * (P.2.2 * Q.2.2) = (P.1 * Q.2.2 - Q.1 * P.2.2) * ((fd : Int) * xd) := by
    generalize (fn : Int) = A at *
    generalize (fd : Int) = B at *
    generalize (xn : Int) = C at *
    generalize (xd : Int) = D at *
    clear hg hy
    grind
  have e2 : ((gn : Int) * yd - yn * gd) * (P.2.2 * Q.2.2) = (P.2.1 * Q.2.2 - Q.2.1 * P.2.2) * ((gd : Int) * yd) := by
    generalize (gn : Int) = A at *
    generalize (gd : Int) = B at *
    generalize (yn : Int) = C at *
    generalize (yd : Int) = D at *
    clear hf hx e1
    grind
  have s1 := sgn_of e1 pq fx
  have s2 := sgn_of e2 pq gy
  rcases h with h | ⟨h1, h2⟩
  · left
    have := s1.1
    have := s1.2
    omega
  · right
    have := s1.2
    have := s2.1
    have := s2.2
    omega
/-- which other sites' lines go through a corner -/
def hldB (X Y W : Nat → Int) (i : Nat) (P : Pt) (j : Nat) : Bool := decide (j ≠ i ∧ ev (pl X Y W i j) P = 0 ∧ ¬ ((pl X Y W i j).1 = 0 ∧ (pl X Y W i j).2.1 = 0))
def hx01 (P : Pt) : Nat := if P.1 = 0 ∨ P.1 = 20 * P.2.2 then 1 else 0
def hy01 (P : Pt) : Nat := if P.2.1 = 0 ∨ P.2.1 = 20 * P.2.2 then 1 else 0
theorem pl_ii (i : Nat) : pl X Y W i i = (0, 0, 0) := by
  unfold pl
  rw [Int.sub_self, Int.sub_self, Int.sub_self]
  rfl
theorem LC_cases {i : Nat} {P : Pt} {l m : Ln} (hl : l ∈ LC X Y W c i) (hd : dt l m ≠ 0) (e : ev l P = 0) : (hx01 P = 1 ∧ l.2.1 = 0) ∨ (hy01 P = 1 ∧ l.1 = 0) ∨ ∃ j, j < c ∧ l = pl X Y W i j ∧ hldB X Y W i P j = true := by
  rcases List.mem_append.mp hl with h | h
  · obtain ⟨j, hj, rfl⟩ := List.mem_map.mp h
    refine Or.inr (Or.inr ⟨j, List.mem_range.mp hj, rfl, decide_eq_true ⟨?_, e, ?_⟩⟩)
    · rintro rfl
      rw [pl_ii] at hd
      simp [dt] at hd
    · rintro ⟨h1, h2⟩
      apply hd
      simp only [dt, h1, h2]
      omega
  · simp only [sqC, List.mem_cons, List.not_mem_nil, or_false] at h
    rcases h with rfl | rfl | rfl | rfl
    · left
      simp only [ev] at e
      exact ⟨if_pos (Or.inl (by omega)), rfl⟩
    · right; left
      simp only [ev] at e
      exact ⟨if_pos (Or.inl (by omega)), rfl⟩
    · left
      simp only [ev] at e
      exact ⟨if_pos (Or.inr (by omega)), rfl⟩
    · right; left
      simp only [ev] at e
      exact ⟨if_pos (Or.inr (by omega)), rfl⟩
theorem sumN_1 {n j : Nat} {b : Nat → Bool} (hj : j < n) (hb : b j = true) : 1 ≤ sumN n (fun k => if b k = true then 1 else 0) := by
  have := sumN_le (n := n) (f := fun k => if j = k then 1 else 0) (g := fun k => if b k = true then 1 else 0) (fun k hk => by
    by_cases q : j = k
    · subst q
      rw [if_pos rfl, if_pos hb]
      omega
    · rw [if_neg q]
      omega)
  rw [sumN_ind hj] at this
  exact this
/-- two lines meet in each corner -/
theorem held_2 {i : Nat} {P : Pt} (hE : isE (LC X Y W c i) P) : 2 ≤ hx01 P + hy01 P + sumN c (fun j => if hldB X Y W i P j = true then 1 else 0) := by
  obtain ⟨h0, hin, l, m, hl, hm, hd, e1, e2⟩ := hE
  have hd' : dt m l ≠ 0 := by simp only [dt] at hd ⊢; omega
  rcases LC_cases hl hd e1 with ⟨a1, a2⟩ | ⟨a1, a2⟩ | ⟨j, hj, ej, bj⟩
  · rcases LC_cases hm hd' e2 with ⟨b1, b2⟩ | ⟨b1, b2⟩ | ⟨k, hk, ek, bk⟩
    · exact absurd (by simp only [dt, a2, b2]; omega) hd
    · omega
    · have := sumN_1 hk bk
      omega
  · rcases LC_cases hm hd' e2 with ⟨b1, b2⟩ | ⟨b1, b2⟩ | ⟨k, hk, ek, bk⟩
    · omega
    · exact absurd (by simp only [dt, a2, b2]; omega) hd
    · have := sumN_1 hk bk
      omega
  · rcases LC_cases hm hd' e2 with ⟨b1, b2⟩ | ⟨b1, b2⟩ | ⟨k, hk, ek, bk⟩
    · have := sumN_1 hj bj
      omega
    · have := sumN_1 hj bj
      omega
    · have hne : j ≠ k := by
        rintro rfl
        apply hd
        rw [ej, ek]
        simp only [dt]
        omega
      have : 2 ≤ sumN c (fun j => if hldB X Y W i P j = true then 1 else 0) := by
        rw [sumN_2iff]
        rcases Nat.lt_or_ge j k with q | q
        · exact ⟨j, k, q, hk, bj, bk⟩
        · exact ⟨k, j, by omega, hj, bk, bj⟩
      omega
/-! neighbours -/
theorem ev_ch (i j o : Nat) (P : Pt) : ev (pl X Y W j o) P = ev (pl X Y W i o) P - ev (pl X Y W i j) P := by
  simp only [ev, pl]
  grind
theorem dt_ch1 (i j o : Nat) (l : Ln) : dt l (pl X Y W j o) = dt l (pl X Y W i o) - dt l (pl X Y W i j) := by
  simp only [dt, pl]
  grind
theorem dt_ch2 (i j o o' : Nat) : dt (pl X Y W j o) (pl X Y W j o') = dt (pl X Y W i o) (pl X Y W i o') - dt (pl X Y W i o) (pl X Y W i j) - dt (pl X Y W i j) (pl X Y W i o') := by
  simp only [dt, pl]
  grind
theorem dt_ji (i j : Nat) (l : Ln) : dt l (pl X Y W j i) = -dt l (pl X Y W i j) := by
  simp only [dt, pl]
  grind
theorem dt_an (l m : Ln) : dt l m = -dt m l := by
  simp only [dt]
  omega
theorem LC_pl {i j : Nat} (hj : j < c) : pl X Y W i j ∈ LC X Y W c i := List.mem_append_left _ (List.mem_map.mpr ⟨j, List.mem_range.mpr hj, rfl⟩)
/-- a corner of one site's cell that lies on the line between two is a corner of the other's -/
theorem isE_ch {i j : Nat} (hi : i < c) (hj : j < c) {P : Pt} (hE : isE (LC X Y W c i) P) (e : ev (pl X Y W i j) P = 0) : isE (LC X Y W c j) P := by
  obtain ⟨h0, hin, l, m, hl, hm, hd, e1, e2⟩ := hE
  have hji : ev (pl X Y W j i) P = 0 := by
    rw [ev_ch i j i, e, pl_ii, ev_zero]
    omega
  refine ⟨h0, fun t ht => ?_, ?_⟩
  · rcases List.mem_append.mp ht with h | h
    · obtain ⟨o, ho, rfl⟩ := List.mem_map.mp h
      have := hin _ (LC_pl (X := X) (Y := Y) (W := W) (i := i) (List.mem_range.mp ho))
      rw [ev_ch i j o, e]
      omega
    · exact hin t (LC_sq h i)
  · have one : ∀ {l : Ln}, l ∈ sqC → ∀ {o : Nat}, o < c → dt l (pl X Y W i o) ≠ 0 → ev l P = 0 → ev (pl X Y W i o) P = 0 → ∃ l m, l ∈ LC X Y W c j ∧ m ∈ LC X Y W c j ∧ dt l m ≠ 0 ∧ ev l P = 0 ∧ ev m P = 0 := by
      intro l hl o ho hd e1 e2
      by_cases q : dt l (pl X Y W i j) = 0
      · exact ⟨l, pl X Y W j o, LC_sq hl j, LC_pl ho, by rw [dt_ch1 i j o, q]; omega, e1, by rw [ev_ch i j o, e, e2]; omega⟩
      · exact ⟨l, pl X Y W j i, LC_sq hl j, LC_pl hi, by rw [dt_ji]; omega, e1, hji⟩
    rcases List.mem_append.mp hl with h1 | h1
    · obtain ⟨o, ho, rfl⟩ := List.mem_map.mp h1
      have ho := List.mem_range.mp ho
      rcases List.mem_append.mp hm with h2 | h2
      · obtain ⟨o', ho', rfl⟩ := List.mem_map.mp h2
        have ho' := List.mem_range.mp ho'
        by_cases q1 : dt (pl X Y W i o) (pl X Y W i j) = 0
        · by_cases q2 : dt (pl X Y W i j) (pl X Y W i o') = 0
          · exact ⟨pl X Y W j o, pl X Y W j o', LC_pl ho, LC_pl ho', by rw [dt_ch2 i j o o', q1, q2]; omega, by rw [ev_ch i j o, e, e1]; omega, by rw [ev_ch i j o', e, e2]; omega⟩
          · refine ⟨pl X Y W j o', pl X Y W j i, LC_pl ho', LC_pl hi, ?_, by rw [ev_ch i j o', e, e2]; omega, hji⟩
            rw [dt_ji, dt_an, dt_ch1 i j o']
            have z : dt (pl X Y W i j) (pl X Y W i j) = 0 := by simp only [dt]; omega
            rw [z]
            omega
        · refine ⟨pl X Y W j o, pl X Y W j i, LC_pl ho, LC_pl hi, ?_, by rw [ev_ch i j o, e, e1]; omega, hji⟩
          rw [dt_ji, dt_an, dt_ch1 i j o]
          have z : dt (pl X Y W i j) (pl X Y W i j) = 0 := by simp only [dt]; omega
          have z2 := dt_an (pl X Y W i j) (pl X Y W i o)
          rw [z]
          omega
      · exact one h2 ho (by rw [dt_an]; omega) e2 e1
    · rcases List.mem_append.mp hm with h2 | h2
      · obtain ⟨o', ho', rfl⟩ := List.mem_map.mp h2
        exact one h1 (List.mem_range.mp ho') hd e1 e2
      · exact ⟨l, m, LC_sq h1 j, LC_sq h2 j, hd, e1, e2⟩
theorem nb_half {i j m m' : Nat} {f g : Nat → Pt} (hi : i < c) (hj : j < c) (hf : CO (LC X Y W c i) m f) (hg : CO (LC X Y W c j) m' g) (h : 2 ≤ sumN m (fun k => if onB X Y W i j f k = true then 1 else 0)) : 2 ≤ sumN m' (fun k => if onB X Y W j i g k = true then 1 else 0) := by
  rw [sumN_2iff] at h ⊢
  obtain ⟨a, b, hab, hb, ea, eb⟩ := h
  have ea' : ev (pl X Y W i j) (f a) = 0 := of_decide_eq_true ea
  have eb' : ev (pl X Y W i j) (f b) = 0 := of_decide_eq_true eb
  have ha0 := (CO_gp hf).1 a (by omega)
  have hb0 := (CO_gp hf).1 b hb
  obtain ⟨a', ha', qa⟩ := CO_all hg (isE_ch hi hj ha0 ea')
  obtain ⟨b', hb', qb⟩ := CO_all hg (isE_ch hi hj hb0 eb')
  have ga := (CO_gp hg).1 a' ha'
  have gb := (CO_gp hg).1 b' hb'
  have onj : ∀ {P Q : Pt}, ev (pl X Y W i j) P = 0 → 0 < P.2.2 → 0 < Q.2.2 → eqv P Q → ev (pl X Y W j i) Q = 0 := by
    intro P Q e hP hQ he
    have h1 : ev (pl X Y W j i) P = 0 := by
      rw [ev_ch i j i, e, pl_ii, ev_zero]
      omega
    have := ev_eqv hP hQ he (pl X Y W j i)
    rw [h1, Int.zero_mul] at this
    exact m0 (by rw [Int.mul_comm]; exact this.symm) (by omega)
  have oa : onB X Y W j i g a' = true := decide_eq_true (onj ea' ha0.1 ga.1 qa)
  have ob : onB X Y W j i g b' = true := decide_eq_true (onj eb' hb0.1 gb.1 qb)
  have hne : a' ≠ b' := by
    rintro rfl
    exact (CO_gp hf).2 a b (by omega) hb (by omega) (eqv_tr (by have := ga.1; omega) qa (eqv_sy qb))
  rcases Nat.lt_or_ge a' b' with q | q
  · exact ⟨a', b', q, hb', oa, ob⟩
  · exact ⟨b', a', by omega, ha', ob, oa⟩
/-- neighbours are mutual -/
theorem nb_mut {i j m m' : Nat} {f g : Nat → Pt} (hi : i < c) (hj : j < c) (hf : CO (LC X Y W c i) m f) (hg : CO (LC X Y W c j) m' g) : nbF X Y W c i m f j = nbF X Y W c j m' g i := by
  have e : decide (2 ≤ sumN m (fun k => if onB X Y W i j f k = true then 1 else 0)) = decide (2 ≤ sumN m' (fun k => if onB X Y W j i g k = true then 1 else 0)) := decide_eq_decide.mpr ⟨nb_half hi hj hf hg, nb_half hj hi hg hf⟩
  have e2 : decide (j ≠ i) = decide (i ≠ j) := decide_eq_decide.mpr ⟨fun h q => h q.symm, fun h q => h q.symm⟩
  unfold nbF
  rw [e, e2]
  cases hidB X Y W c i <;> cases hidB X Y W c j <;> simp
/-- a site is hidden when its cell has fewer than three corners -/
theorem CO_NC {i m : Nat} {f : Nat → Pt} (hB : BD c X Y W) (hi : i < c) (h : CO (LC X Y W c i) m f) : NC X Y W c i m := by
  have hM : RM c X Y W (fun k => if k = 0 then iI c else if k % 3 = 1 then iI (X (k / 3)) else if k % 3 = 2 then iI (Y (k / 3)) else iI (W (k / 3 - 1))) := by
    refine ⟨rfl, fun i hi => ⟨?_, ?_, ?_⟩⟩
    · show (if 1 + 3 * i = 0 then _ else _) = _
      rw [if_neg (by omega), if_pos (by omega), show (1 + 3 * i) / 3 = i by omega]
    · show (if 2 + 3 * i = 0 then _ else _) = _
      rw [if_neg (by omega), if_neg (by omega), if_pos (by omega), show (2 + 3 * i) / 3 = i by omega]
    · show (if 3 + 3 * i = 0 then _ else _) = _
      rw [if_neg (by omega), if_neg (by omega), if_neg (by omega), show (3 + 3 * i) / 3 - 1 = i by omega]
  obtain ⟨m', g, v1, v2, v3, v4, v5, v6, v7, -, h5, -, -⟩ := z_polygon hM hB hi 0 0 (fun _ => 0) (fun _ => 0) (fun _ => 0) (fun _ => 0) (fun _ => 0) (fun _ => 0)
  rw [(CO_same h h5).1]
  exact ⟨g, h5⟩
theorem hid_iff {i m : Nat} {f : Nat → Pt} (hB : BD c X Y W) (hi : i < c) (h : CO (LC X Y W c i) m f) : hidB X Y W c i = decide (pc3 m = 0) := by
  by_cases q : 3 ≤ m
  · rw [hidB_f hB hi (CO_NC hB hi h) q, decide_eq_false (show ¬ pc3 m = 0 by rw [show pc3 m = m from if_pos q]; omega)]
  · rw [hidB_t (CO_NC hB hi h) q, decide_eq_true (show pc3 m = 0 from if_neg q)]
end COR
/-- no bit beyond the sites -/
theorem bit_end : ∀ k : Fin 10, ∀ i : Fin 11, (k : Nat) < i → ((1 : Int32) <<< (iI (k : Nat) &&& 31)) >>> (iI (i : Nat) &&& 31) = 0 := by decide
theorem bits_end (h : Nat → Bool) {k : Nat} (hk : k ≤ 10) : bits h k >>> (iI (k : Nat) &&& 31) = 0 := by
  have key : ∀ j, j ≤ k → bits h j >>> (iI (k : Nat) &&& 31) = 0 := by
    intro j
    induction j with
    | zero =>
      intro _
      have : ∀ i : Fin 11, (0 : Int32) >>> (iI (i : Nat) &&& 31) = 0 := by decide
      exact this ⟨k, by omega⟩
    | succ j ih =>
      intro hj
      have ih' := ih (by omega)
      rw [bits]
      by_cases hh : h j = true
      · have hb := bit_end ⟨j, by omega⟩ ⟨k, by omega⟩ (show j < k by omega)
        simp only at hb
        rw [if_pos hh, Int32.shiftRight_or, ih', hb, Int32.or_zero]
      · rw [if_neg hh, ih']
  exact key k (by omega)
