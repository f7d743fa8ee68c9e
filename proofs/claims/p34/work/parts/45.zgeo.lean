/-! ===== cells by their extreme points: lines and points in whole numbers ===== -/
abbrev Ln : Type := Int × Int × Int
abbrev Pt : Type := Int × Int × Int
def dt (l m : Ln) : Int := l.1 * m.2.1 - m.1 * l.2.1
def mx (l m : Ln) : Int := l.2.2 * m.2.1 - m.2.2 * l.2.1
def my (l m : Ln) : Int := l.1 * m.2.2 - m.1 * l.2.2
def nmt (l m : Ln) : Pt := if 0 < dt l m then (mx l m, my l m, dt l m) else (-mx l m, -my l m, -dt l m)
def ev (l : Ln) (P : Pt) : Int := l.1 * P.1 + l.2.1 * P.2.1 - l.2.2 * P.2.2
def inn (L : List Ln) (P : Pt) : Prop := ∀ l ∈ L, ev l P ≤ 0
def eqv (P Q : Pt) : Prop := P.1 * Q.2.2 = Q.1 * P.2.2 ∧ P.2.1 * Q.2.2 = Q.2.1 * P.2.2
def isE (L : List Ln) (P : Pt) : Prop := 0 < P.2.2 ∧ inn L P ∧ ∃ l m, l ∈ L ∧ m ∈ L ∧ dt l m ≠ 0 ∧ ev l P = 0 ∧ ev m P = 0
def bef (P Q : Pt) : Prop := P.1 * Q.2.2 < Q.1 * P.2.2 ∨ (P.1 * Q.2.2 = Q.1 * P.2.2 ∧ P.2.1 * Q.2.2 < Q.2.1 * P.2.2)
def D3 (o P Q : Pt) : Int := o.1 * (P.2.1 * Q.2.2 - Q.2.1 * P.2.2) - o.2.1 * (P.1 * Q.2.2 - Q.1 * P.2.2) + o.2.2 * (P.1 * Q.2.1 - Q.1 * P.2.1)
theorem m0 {a b : Int} (h : a * b = 0) (ha : a ≠ 0) : b = 0 := by
  rcases Int.mul_eq_zero.mp h with h | h
  · exact absurd h ha
  · exact h
theorem zz {α β a b : Int} (hα : 0 < α) (hβ : 0 < β) (ha : a ≤ 0) (hb : b ≤ 0) (h : α * a + β * b = 0) : a = 0 ∧ b = 0 := by
  have h1 := Int.mul_nonneg (Int.le_of_lt hα) (show 0 ≤ -a by omega)
  have h2 := Int.mul_nonneg (Int.le_of_lt hβ) (show 0 ≤ -b by omega)
  rw [Int.mul_neg] at h1 h2
  exact ⟨m0 (a := α) (by omega) (by omega), m0 (a := β) (by omega) (by omega)⟩
theorem ev_nmt {l m : Ln} (h : dt l m ≠ 0) : ev l (nmt l m) = 0 ∧ ev m (nmt l m) = 0 ∧ 0 < (nmt l m).2.2 := by
  unfold nmt
  by_cases h1 : 0 < dt l m
  · rw [if_pos h1]
    refine ⟨?_, ?_, h1⟩
    · simp only [ev, mx, my, dt]; grind
    · simp only [ev, mx, my, dt]; grind
  · rw [if_neg h1]
    refine ⟨?_, ?_, by show 0 < -dt l m; omega⟩
    · simp only [ev, mx, my, dt]; grind
    · simp only [ev, mx, my, dt]; grind
theorem uniq {l m : Ln} (h : dt l m ≠ 0) {P Q : Pt} (h1 : ev l P = 0) (h2 : ev m P = 0) (h3 : ev l Q = 0) (h4 : ev m Q = 0) : eqv P Q := by
  have e1 : dt l m * P.1 = mx l m * P.2.2 := by simp only [ev, mx, dt] at *; grind
  have e2 : dt l m * P.2.1 = my l m * P.2.2 := by simp only [ev, my, dt] at *; grind
  have e3 : dt l m * Q.1 = mx l m * Q.2.2 := by simp only [ev, mx, dt] at *; grind
  have e4 : dt l m * Q.2.1 = my l m * Q.2.2 := by simp only [ev, my, dt] at *; grind
  have f1 : dt l m * (P.1 * Q.2.2 - Q.1 * P.2.2) = 0 := by grind
  have f2 : dt l m * (P.2.1 * Q.2.2 - Q.2.1 * P.2.2) = 0 := by grind
  have g1 := m0 f1 h
  have g2 := m0 f2 h
  exact ⟨by omega, by omega⟩
theorem eqv_rf (P : Pt) : eqv P P := ⟨rfl, rfl⟩
theorem eqv_sy {P Q : Pt} (h : eqv P Q) : eqv Q P := ⟨h.1.symm, h.2.symm⟩
theorem eqv_tr {P Q R : Pt} (hQ : Q.2.2 ≠ 0) (h1 : eqv P Q) (h2 : eqv Q R) : eqv P R := by
  obtain ⟨a1, a2⟩ := h1
  obtain ⟨b1, b2⟩ := h2
  have f1 : Q.2.2 * (P.1 * R.2.2 - R.1 * P.2.2) = 0 := by grind
  have f2 : Q.2.2 * (P.2.1 * R.2.2 - R.2.1 * P.2.2) = 0 := by grind
  have g1 := m0 f1 hQ
  have g2 := m0 f2 hQ
  exact ⟨by omega, by omega⟩
theorem bef_ne {P Q : Pt} (h : bef P Q) : ¬ eqv P Q := by
  intro e
  rcases h with h | h
  · rw [e.1] at h; omega
  · have := e.2; omega
theorem bef_tot {P Q : Pt} (h : ¬ eqv P Q) : bef P Q ∨ bef Q P := by
  unfold bef
  unfold eqv at h
  omega
theorem bef_as {P Q : Pt} (h : bef P Q) (g : bef Q P) : False := by
  unfold bef at h g
  omega
theorem bef_tr {P Q R : Pt} (pd : 0 < P.2.2) (qd : 0 < Q.2.2) (rd : 0 < R.2.2) (h : bef P Q) (g : bef Q R) : bef P R := by
  have e1 : Q.2.2 * (R.1 * P.2.2 - P.1 * R.2.2) = (R.1 * Q.2.2 - Q.1 * R.2.2) * P.2.2 + (Q.1 * P.2.2 - P.1 * Q.2.2) * R.2.2 := by clear h g; grind
  have e2 : Q.2.2 * (R.2.1 * P.2.2 - P.2.1 * R.2.2) = (R.2.1 * Q.2.2 - Q.2.1 * R.2.2) * P.2.2 + (Q.2.1 * P.2.2 - P.2.1 * Q.2.2) * R.2.2 := by clear h g; grind
  have hx1 : 0 ≤ Q.1 * P.2.2 - P.1 * Q.2.2 := by rcases h with h | h <;> omega
  have hx2 : 0 ≤ R.1 * Q.2.2 - Q.1 * R.2.2 := by rcases g with g | g <;> omega
  have p1 := Int.mul_nonneg hx2 (Int.le_of_lt pd)
  have p2 := Int.mul_nonneg hx1 (Int.le_of_lt rd)
  by_cases s : 0 < Q.1 * P.2.2 - P.1 * Q.2.2 ∨ 0 < R.1 * Q.2.2 - Q.1 * R.2.2
  · left
    have : 0 < Q.2.2 * (R.1 * P.2.2 - P.1 * R.2.2) := by
      rw [e1]
      rcases s with s | s
      · have := Int.mul_pos s rd
        omega
      · have := Int.mul_pos s pd
        omega
    have := Int.pos_of_mul_pos_right this qd
    omega
  · right
    have z1 : Q.1 * P.2.2 - P.1 * Q.2.2 = 0 := by omega
    have z2 : R.1 * Q.2.2 - Q.1 * R.2.2 = 0 := by omega
    rw [z1, z2, Int.zero_mul, Int.zero_mul] at e1
    have z3 := m0 e1 (by omega)
    have y1 : 0 < Q.2.1 * P.2.2 - P.2.1 * Q.2.2 := by rcases h with h | h <;> omega
    have y2 : 0 < R.2.1 * Q.2.2 - Q.2.1 * R.2.2 := by rcases g with g | g <;> omega
    have q1 := Int.mul_pos y1 rd
    have q2 := Int.mul_pos y2 pd
    have : 0 < Q.2.2 * (R.2.1 * P.2.2 - P.2.1 * R.2.2) := by rw [e2]; omega
    have := Int.pos_of_mul_pos_right this qd
    exact ⟨by omega, by omega⟩
/-- a point between two others is no corner -/
theorem btw {L : List Ln} {o P Q : Pt} (ho : inn L o) (hQ : inn L Q) (hP : isE L P) {α β γ : Int} (hα : 0 < α) (hβ : 0 < β) (h1 : γ * P.1 = α * Q.1 + β * o.1) (h2 : γ * P.2.1 = α * Q.2.1 + β * o.2.1) (h3 : γ * P.2.2 = α * Q.2.2 + β * o.2.2) : eqv o Q := by
  obtain ⟨-, -, l, m, hl, hm, hd, e1, e2⟩ := hP
  have k : ∀ n : Ln, γ * ev n P = α * ev n Q + β * ev n o := by
    intro n
    simp only [ev]
    have a1 : n.1 * (γ * P.1) = n.1 * (α * Q.1 + β * o.1) := by rw [h1]
    have a2 : n.2.1 * (γ * P.2.1) = n.2.1 * (α * Q.2.1 + β * o.2.1) := by rw [h2]
    have a3 : n.2.2 * (γ * P.2.2) = n.2.2 * (α * Q.2.2 + β * o.2.2) := by rw [h3]
    grind
  have k1 := k l
  have k2 := k m
  rw [e1, Int.mul_zero] at k1
  rw [e2, Int.mul_zero] at k2
  have z1 := zz hα hβ (hQ l hl) (ho l hl) k1.symm
  have z2 := zz hα hβ (hQ m hm) (ho m hm) k2.symm
  exact uniq hd z1.2 z2.2 z1.1 z2.1
theorem ncol {L : List Ln} {o P Q : Pt} (ho : isE L o) (hP : isE L P) (hQ : isE L Q) (oP : bef o P) (oQ : bef o Q) (hne : ¬ eqv P Q) : D3 o P Q ≠ 0 := by
  intro hD
  have od := ho.1
  have pd := hP.1
  have qd := hQ.1
  obtain ⟨ux, hux⟩ : ∃ z, z = P.1 * o.2.2 - o.1 * P.2.2 := ⟨_, rfl⟩
  obtain ⟨uy, huy⟩ : ∃ z, z = P.2.1 * o.2.2 - o.2.1 * P.2.2 := ⟨_, rfl⟩
  obtain ⟨vx, hvx⟩ : ∃ z, z = Q.1 * o.2.2 - o.1 * Q.2.2 := ⟨_, rfl⟩
  obtain ⟨vy, hvy⟩ : ∃ z, z = Q.2.1 * o.2.2 - o.2.1 * Q.2.2 := ⟨_, rfl⟩
  have hc : ux * vy - uy * vx = 0 := by
    have : ux * vy - uy * vx = o.2.2 * D3 o P Q := by rw [hux, huy, hvx, hvy]; simp only [D3]; grind
    rw [this, hD, Int.mul_zero]
  have u1 : 0 < ux ∨ (ux = 0 ∧ 0 < uy) := by
    rcases oP with h | h
    · left; omega
    · right; omega
  have v1 : 0 < vx ∨ (vx = 0 ∧ 0 < vy) := by
    rcases oQ with h | h
    · left; omega
    · right; omega
  have nP := bef_ne oP
  have nQ := bef_ne oQ
  rcases u1 with u1 | ⟨u0, u1⟩
  · have v2 : 0 < vx := by
      rcases v1 with v1 | ⟨v0, v1⟩
      · exact v1
      · rw [v0, Int.mul_zero, Int.sub_zero] at hc
        have := Int.mul_pos u1 v1
        omega
    rcases Int.lt_trichotomy (ux * Q.2.2) (vx * P.2.2) with h | h | h
    · exact nQ (btw ho.2.1 hQ.2.1 hP (α := ux * o.2.2) (β := vx * P.2.2 - ux * Q.2.2) (γ := vx * o.2.2) (Int.mul_pos u1 od) (by omega) (by grind) (by grind) (by grind))
    · apply hne
      have e1 : o.2.2 * (P.1 * Q.2.2 - Q.1 * P.2.2) = 0 := by grind
      have e2 : ux * (vy * P.2.2 - uy * Q.2.2) = 0 := by grind
      have e3 := m0 e2 (by omega)
      have e4 : o.2.2 * (P.2.1 * Q.2.2 - Q.2.1 * P.2.2) = 0 := by grind
      have g1 := m0 e1 (by omega)
      have g2 := m0 e4 (by omega)
      exact ⟨by omega, by omega⟩
    · exact nP (btw ho.2.1 hP.2.1 hQ (α := vx * o.2.2) (β := ux * Q.2.2 - vx * P.2.2) (γ := ux * o.2.2) (Int.mul_pos v2 od) (by omega) (by grind) (by grind) (by grind))
  · have v0 : vx = 0 := by
      rw [u0, Int.zero_mul, Int.zero_sub] at hc
      exact m0 (a := uy) (by omega) (by omega)
    have v2 : 0 < vy := by
      rcases v1 with v1 | ⟨_, v1⟩
      · omega
      · exact v1
    rcases Int.lt_trichotomy (uy * Q.2.2) (vy * P.2.2) with h | h | h
    · exact nQ (btw ho.2.1 hQ.2.1 hP (α := uy * o.2.2) (β := vy * P.2.2 - uy * Q.2.2) (γ := vy * o.2.2) (Int.mul_pos u1 od) (by omega) (by grind) (by grind) (by grind))
    · apply hne
      have e1 : o.2.2 * (P.2.1 * Q.2.2 - Q.2.1 * P.2.2) = 0 := by grind
      have e4 : o.2.2 * (P.1 * Q.2.2 - Q.1 * P.2.2) = 0 := by grind
      have g1 := m0 e1 (by omega)
      have g2 := m0 e4 (by omega)
      exact ⟨by omega, by omega⟩
    · exact nP (btw ho.2.1 hP.2.1 hQ (α := vy * o.2.2) (β := uy * Q.2.2 - vy * P.2.2) (γ := uy * o.2.2) (Int.mul_pos v2 od) (by omega) (by grind) (by grind) (by grind))
theorem D3_cyc (o P Q : Pt) : D3 P Q o = D3 o P Q := by simp only [D3]; grind
theorem D3_swap (o P Q : Pt) : D3 o Q P = -D3 o P Q := by simp only [D3]; grind
theorem D3_oo (o P : Pt) : D3 o P P = 0 := by simp only [D3]; grind
theorem ncol3 {L : List Ln} {o P Q : Pt} (ho : isE L o) (hP : isE L P) (hQ : isE L Q) (h1 : ¬ eqv o P) (h2 : ¬ eqv o Q) (h3 : ¬ eqv P Q) : D3 o P Q ≠ 0 := by
  rcases bef_tot h1 with a | a
  · rcases bef_tot h2 with b | b
    · exact ncol ho hP hQ a b h3
    · have c : bef Q P := bef_tr hQ.1 ho.1 hP.1 b a
      have := ncol hQ ho hP b c h1
      rwa [D3_cyc, D3_cyc] at this
  · rcases bef_tot h3 with b | b
    · have := ncol hP hQ ho b a (fun e => h2 (eqv_sy e))
      rwa [D3_cyc] at this
    · rcases bef_tot h2 with c | c
      · exact absurd (bef_tr hP.1 ho.1 hQ.1 a c) (fun q => bef_as q b)
      · have := ncol hQ ho hP c b h1
        rwa [D3_cyc, D3_cyc] at this
/-- three points of one line -/
theorem col_line {l : Ln} (hl : ¬ (l.1 = 0 ∧ l.2.1 = 0)) {o P Q : Pt} (h1 : ev l o = 0) (h2 : ev l P = 0) (h3 : ev l Q = 0) : D3 o P Q = 0 := by
  by_cases h : l.1 = 0
  · have h' : l.2.1 ≠ 0 := fun e => hl ⟨h, e⟩
    have : l.2.1 * D3 o P Q = 0 := by simp only [ev] at h1 h2 h3; simp only [D3]; grind
    exact m0 this h'
  · have : l.1 * D3 o P Q = 0 := by simp only [ev] at h1 h2 h3; simp only [D3]; grind
    exact m0 this h
/-- counterclockwise, seen from the least point -/
theorem ang_tr {o P Q R : Pt} (od : 0 < o.2.2) (oP : bef o P) (oQ : bef o Q) (oR : bef o R) (h1 : 0 < D3 o P Q) (h2 : 0 < D3 o Q R) : 0 < D3 o P R := by
  obtain ⟨ux, hux⟩ : ∃ z, z = P.1 * o.2.2 - o.1 * P.2.2 := ⟨_, rfl⟩
  obtain ⟨uy, huy⟩ : ∃ z, z = P.2.1 * o.2.2 - o.2.1 * P.2.2 := ⟨_, rfl⟩
  obtain ⟨vx, hvx⟩ : ∃ z, z = Q.1 * o.2.2 - o.1 * Q.2.2 := ⟨_, rfl⟩
  obtain ⟨vy, hvy⟩ : ∃ z, z = Q.2.1 * o.2.2 - o.2.1 * Q.2.2 := ⟨_, rfl⟩
  obtain ⟨wx, hwx⟩ : ∃ z, z = R.1 * o.2.2 - o.1 * R.2.2 := ⟨_, rfl⟩
  obtain ⟨wy, hwy⟩ : ∃ z, z = R.2.1 * o.2.2 - o.2.1 * R.2.2 := ⟨_, rfl⟩
  have u1 : 0 < ux ∨ (ux = 0 ∧ 0 < uy) := by
    rcases oP with h | h
    · left; omega
    · right; omega
  have v1 : 0 < vx ∨ (vx = 0 ∧ 0 < vy) := by
    rcases oQ with h | h
    · left; omega
    · right; omega
  have w1 : 0 < wx ∨ (wx = 0 ∧ 0 < wy) := by
    rcases oR with h | h
    · left; omega
    · right; omega
  have c1 : ux * vy - uy * vx = o.2.2 * D3 o P Q := by rw [hux, huy, hvx, hvy]; simp only [D3]; grind
  have c2 : vx * wy - vy * wx = o.2.2 * D3 o Q R := by rw [hwx, hwy, hvx, hvy]; simp only [D3]; grind
  have c3 : ux * wy - uy * wx = o.2.2 * D3 o P R := by rw [hux, huy, hwx, hwy]; simp only [D3]; grind
  have p1 := Int.mul_pos od h1
  have p2 := Int.mul_pos od h2
  have key : vx * (ux * wy - uy * wx) = wx * (ux * vy - uy * vx) + ux * (vx * wy - vy * wx) := by grind
  have vx0 : 0 < vx := by
    rcases v1 with v1 | ⟨v0, v1⟩
    · exact v1
    · exfalso
      rw [v0, Int.zero_mul, Int.zero_sub] at c2
      have : 0 ≤ vy * wx := Int.mul_nonneg (by omega) (by omega)
      omega
  have hpos : 0 < vx * (ux * wy - uy * wx) := by
    rw [key, c1, c2]
    rcases w1 with w1 | ⟨w0, w1⟩
    · have a1 := Int.mul_pos w1 p1
      have a2 := Int.mul_nonneg (show 0 ≤ ux by omega) (Int.le_of_lt p2)
      omega
    · rcases u1 with u1 | ⟨u0, u1⟩
      · have a1 := Int.mul_nonneg (show 0 ≤ wx by omega) (Int.le_of_lt p1)
        have a2 := Int.mul_pos u1 p2
        omega
      · exfalso
        rw [u0, Int.zero_mul, Int.zero_sub] at c1
        have := Int.mul_pos u1 vx0
        omega
  have h5 : 0 < ux * wy - uy * wx := Int.pos_of_mul_pos_right hpos vx0
  rw [c3] at h5
  exact Int.pos_of_mul_pos_right h5 od
