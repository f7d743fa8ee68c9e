/-! ===== the order of the corners ===== -/
def befB (P Q : Pt) : Bool := decide (P.1 * Q.2.2 < Q.1 * P.2.2) || (decide (P.1 * Q.2.2 = Q.1 * P.2.2) && decide (P.2.1 * Q.2.2 < Q.2.1 * P.2.2))
theorem befB_iff {P Q : Pt} : befB P Q = true ↔ bef P Q := by
  unfold befB bef
  simp only [Bool.or_eq_true, Bool.and_eq_true, decide_eq_true_eq]
def tau (i j k : Nat) : Nat := if k = i then j else if k = j then i else k
theorem tau_inj {i j a b : Nat} (h : tau i j a = tau i j b) : a = b := by
  unfold tau at h
  split at h <;> split at h <;> (try split at h) <;> (try split at h) <;> omega
theorem tau_lt {i j k c : Nat} (hi : i < c) (hj : j < c) (hk : k < c) : tau i j k < c := by
  unfold tau
  split
  · exact hj
  · split <;> omega
def swp (f : Nat → Pt) (i j : Nat) : Nat → Pt := fun k => f (tau i j k)
/-- the same points in another order -/
def RX (c : Nat) (f g : Nat → Pt) : Prop := ∃ π : Nat → Nat, (∀ k, k < c → π k < c) ∧ (∀ a b, a < c → b < c → π a = π b → a = b) ∧ ∀ k, k < c → g k = f (π k)
theorem RX_rf {c : Nat} {f : Nat → Pt} : RX c f f := ⟨fun k => k, fun _ h => h, fun _ _ _ _ h => h, fun _ _ => rfl⟩
theorem RX_tr {c : Nat} {f g h : Nat → Pt} (h1 : RX c f g) (h2 : RX c g h) : RX c f h := by
  obtain ⟨p, p1, p2, p3⟩ := h1
  obtain ⟨q, q1, q2, q3⟩ := h2
  exact ⟨fun k => p (q k), fun k hk => p1 _ (q1 k hk), fun a b ha hb e => q2 a b ha hb (p2 _ _ (q1 a ha) (q1 b hb) e), fun k hk => by rw [q3 k hk, p3 _ (q1 k hk)]⟩
theorem RX_swp {c i j : Nat} {f : Nat → Pt} (hi : i < c) (hj : j < c) : RX c f (swp f i j) := ⟨tau i j, fun _ hk => tau_lt hi hj hk, fun _ _ _ _ e => tau_inj e, fun _ _ => rfl⟩
/-- corners of one cell, no two of them the same point -/
def GP (L : List Ln) (c : Nat) (f : Nat → Pt) : Prop := (∀ k, k < c → isE L (f k)) ∧ ∀ a b, a < c → b < c → a ≠ b → ¬ eqv (f a) (f b)
theorem GP_rx {L : List Ln} {c : Nat} {f g : Nat → Pt} (h : GP L c f) (hr : RX c f g) : GP L c g := by
  obtain ⟨p, p1, p2, p3⟩ := hr
  refine ⟨fun k hk => by rw [p3 k hk]; exact h.1 _ (p1 k hk), fun a b ha hb hab => ?_⟩
  rw [p3 a ha, p3 b hb]
  exact h.2 _ _ (p1 a ha) (p1 b hb) (fun e => hab (p2 a b ha hb e))
def mnF : Nat → (Nat → Pt) → (Nat → Pt)
  | 0, f => f
  | k + 1, f => if k = 0 then mnF k f else if befB (mnF k f k) (mnF k f 0) = true then swp (mnF k f) k 0 else mnF k f
def LM (c : Nat) (g : Nat → Pt) : Prop := ∀ k, 1 ≤ k → k < c → bef (g 0) (g k)
theorem mnF_ok {L : List Ln} {c : Nat} {f : Nat → Pt} (h : GP L c f) : ∀ n, n ≤ c → RX c f (mnF n f) ∧ LM n (mnF n f) := by
  intro n
  induction n with
  | zero => intro _; exact ⟨RX_rf, fun k h1 h2 => by omega⟩
  | succ n ih =>
    intro hn
    obtain ⟨hr, hl⟩ := ih (by omega)
    unfold mnF
    by_cases h0 : n = 0
    · rw [if_pos h0]; exact ⟨hr, fun k h1 h2 => by omega⟩
    · rw [if_neg h0]
      have hg := GP_rx h hr
      generalize mnF n f = g at hr hl hg
      by_cases hb : befB (g n) (g 0) = true
      · rw [if_pos hb]
        have hb' := befB_iff.mp hb
        refine ⟨RX_tr hr (RX_swp (by omega) (by omega)), fun k h1 h2 => ?_⟩
        have e0 : swp g n 0 0 = g n := by unfold swp tau; rw [if_neg (by omega), if_pos rfl]
        rw [e0]
        by_cases hk : k = n
        · subst hk
          have e1 : swp g k 0 k = g 0 := by unfold swp tau; rw [if_pos rfl]
          rw [e1]; exact hb'
        · have e1 : swp g n 0 k = g k := by unfold swp tau; rw [if_neg hk, if_neg (by omega)]
          rw [e1]
          exact bef_tr (hg.1 n (by omega)).1 (hg.1 0 (by omega)).1 (hg.1 k (by omega)).1 hb' (hl k h1 (by omega))
      · rw [if_neg hb]
        refine ⟨hr, fun k h1 h2 => ?_⟩
        by_cases hk : k = n
        · subst hk
          rcases bef_tot (hg.2 0 k (by omega) (by omega) (by omega)) with q | q
          · exact q
          · exact absurd (befB_iff.mpr q) hb
        · exact hl k h1 (by omega)
def insF : Nat → (Nat → Pt) → (Nat → Pt)
  | 0, f => f
  | m + 1, f => if m = 0 then f else if D3 (f 0) (f m) (f (m + 1)) < 0 then insF m (swp f m (m + 1)) else f
def SRT (m : Nat) (g : Nat → Pt) : Prop := ∀ i j, 1 ≤ i → i < j → j < m → 0 < D3 (g 0) (g i) (g j)
theorem insF_ok {L : List Ln} {c : Nat} : ∀ (m : Nat) (g : Nat → Pt), m < c → GP L c g → LM c g → SRT m g → SRT (m + 1) (insF m g) ∧ ∃ π : Nat → Nat, (∀ k, 1 ≤ k → k ≤ m → 1 ≤ π k ∧ π k ≤ m) ∧ (∀ a b, π a = π b → a = b) ∧ (∀ k, k = 0 ∨ m < k → π k = k) ∧ ∀ k, insF m g k = g (π k) := by
  intro m
  induction m with
  | zero => intro g _ _ _ _; exact ⟨fun i j h1 h2 h3 => by omega, fun k => k, fun k h1 h2 => by omega, fun _ _ h => h, fun _ _ => rfl, fun _ => rfl⟩
  | succ m ih =>
    intro g hm hG hL hS
    unfold insF
    by_cases h0 : m = 0
    · rw [if_pos h0]
      exact ⟨fun i j h1 h2 h3 => by omega, fun k => k, fun k h1 h2 => ⟨h1, h2⟩, fun _ _ h => h, fun _ _ => rfl, fun _ => rfl⟩
    · rw [if_neg h0]
      have t0 : tau m (m + 1) 0 = 0 := by unfold tau; rw [if_neg (by omega), if_neg (by omega)]
      have s0 : swp g m (m + 1) 0 = g 0 := by unfold swp; rw [t0]
      have slo : ∀ k, k < m → swp g m (m + 1) k = g k := fun k hk => by unfold swp tau; rw [if_neg (by omega), if_neg (by omega)]
      have sm : swp g m (m + 1) m = g (m + 1) := by unfold swp tau; rw [if_pos rfl]
      have sm1 : swp g m (m + 1) (m + 1) = g m := by unfold swp tau; rw [if_neg (by omega), if_pos rfl]
      by_cases hd : D3 (g 0) (g m) (g (m + 1)) < 0
      · rw [if_pos hd]
        have hG' : GP L c (swp g m (m + 1)) := GP_rx hG (RX_swp (by omega) (by omega))
        have hL' : LM c (swp g m (m + 1)) := by
          intro k h1 h2
          rw [s0]
          show bef (g 0) (g (tau m (m + 1) k))
          refine hL _ ?_ (tau_lt (by omega) (by omega) h2)
          unfold tau
          split
          · omega
          · split <;> omega
        have hS' : SRT m (swp g m (m + 1)) := by
          intro i j h1 h2 h3
          rw [s0, slo i (by omega), slo j h3]
          exact hS i j h1 h2 (by omega)
        obtain ⟨r1, π, p1, p2, p3, p4⟩ := ih (swp g m (m + 1)) (by omega) hG' hL' hS'
        have e0 : insF m (swp g m (m + 1)) 0 = g 0 := by rw [p4, p3 0 (Or.inl rfl), s0]
        have em : insF m (swp g m (m + 1)) (m + 1) = g m := by rw [p4, p3 (m + 1) (Or.inr (by omega)), sm1]
        refine ⟨fun i j h1 h2 h3 => ?_, fun k => tau m (m + 1) (π k), fun k h1 h2 => ?_, fun a b e => p2 a b (tau_inj e), fun k hk => ?_, fun k => by rw [p4]; rfl⟩
        · by_cases hj : j = m + 1
          · subst hj
            rw [em, e0, p4]
            obtain ⟨q1, q2⟩ := p1 i h1 (by omega)
            by_cases hq : π i = m
            · rw [hq, sm, D3_swap]; omega
            · rw [slo _ (by omega)]
              exact hS _ _ q1 (by omega) (by omega)
          · exact r1 i j h1 h2 (by omega)
        · show 1 ≤ tau m (m + 1) (π k) ∧ tau m (m + 1) (π k) ≤ m + 1
          by_cases hk : k = m + 1
          · subst hk
            rw [p3 (m + 1) (Or.inr (by omega))]
            unfold tau
            rw [if_neg (by omega), if_pos rfl]
            omega
          · obtain ⟨q1, q2⟩ := p1 k h1 (by omega)
            unfold tau
            split
            · omega
            · split <;> omega
        · show tau m (m + 1) (π k) = k
          rw [p3 k (by omega)]
          unfold tau
          rw [if_neg (by omega), if_neg (by omega)]
      · rw [if_neg hd]
        refine ⟨fun i j h1 h2 h3 => ?_, fun k => k, fun k h1 h2 => ⟨h1, h2⟩, fun _ _ h => h, fun _ _ => rfl, fun _ => rfl⟩
        have hpos : 0 < D3 (g 0) (g m) (g (m + 1)) := by
          have := ncol (hG.1 0 (by omega)) (hG.1 m (by omega)) (hG.1 (m + 1) hm) (hL m (by omega) (by omega)) (hL (m + 1) (by omega) hm) (hG.2 m (m + 1) (by omega) hm (by omega))
          omega
        by_cases hj : j = m + 1
        · subst hj
          by_cases hi : i = m
          · subst hi; exact hpos
          · exact ang_tr (hG.1 0 (by omega)).1 (hL i h1 (by omega)) (hL m (by omega) (by omega)) (hL (m + 1) (by omega) hm) (hS i m h1 (by omega) (by omega)) hpos
        · exact hS i j h1 h2 (by omega)
def srtF : Nat → (Nat → Pt) → (Nat → Pt)
  | 0, f => f
  | k + 1, f => if k < 2 then srtF k f else insF k (srtF k f)
theorem srtF_ok {L : List Ln} {c : Nat} {f : Nat → Pt} (hG : GP L c f) (hL : LM c f) : ∀ n, n ≤ c → RX c f (srtF n f) ∧ LM c (srtF n f) ∧ SRT n (srtF n f) := by
  intro n
  induction n with
  | zero => intro _; exact ⟨RX_rf, hL, fun i j h1 h2 h3 => by omega⟩
  | succ n ih =>
    intro hn
    obtain ⟨hr, hl, hs⟩ := ih (by omega)
    unfold srtF
    by_cases h0 : n < 2
    · rw [if_pos h0]
      exact ⟨hr, hl, fun i j h1 h2 h3 => by omega⟩
    · rw [if_neg h0]
      have hg := GP_rx hG hr
      generalize srtF n f = g at hr hl hs hg
      obtain ⟨r1, π, p1, p2, p3, p4⟩ := insF_ok n g (by omega) hg hl hs
      have hb : ∀ k, 1 ≤ k → k < c → 1 ≤ π k ∧ π k < c := by
        intro k h1 h2
        by_cases hk : k ≤ n
        · have := p1 k h1 hk; omega
        · rw [p3 k (Or.inr (by omega))]; omega
      refine ⟨RX_tr hr ⟨π, fun k hk => ?_, fun a b _ _ e => p2 a b e, fun k _ => p4 k⟩, fun k h1 h2 => ?_, r1⟩
      · by_cases h1 : 1 ≤ k
        · exact (hb k h1 hk).2
        · rw [p3 k (Or.inl (by omega))]; exact hk
      · rw [p4 k, p4 0, p3 0 (Or.inl rfl)]
        exact hl _ (hb k h1 h2).1 (hb k h1 h2).2
def sortF (c : Nat) (f : Nat → Pt) : Nat → Pt := srtF c (mnF c f)
theorem sortF_ok {L : List Ln} {c : Nat} {f : Nat → Pt} (hG : GP L c f) : RX c f (sortF c f) ∧ LM c (sortF c f) ∧ SRT c (sortF c f) := by
  obtain ⟨h1, h2⟩ := mnF_ok hG c (Nat.le_refl c)
  obtain ⟨h3, h4, h5⟩ := srtF_ok (GP_rx hG h1) h2 c (Nat.le_refl c)
  exact ⟨RX_tr h1 h3, h4, h5⟩
/-! the order is the only one -/
theorem pos_of_scale {a b x y : Int} (h : a * x = b * y) (hx : 0 < x) (hy : 0 < y) (hb : 0 < b) : 0 < a := by
  have : 0 < a * x := by rw [h]; exact Int.mul_pos hb hy
  exact Int.pos_of_mul_pos_left this hx
theorem D3_eqv {o P Q o' P' Q' : Pt} (h0 : 0 < o.2.2) (h1 : 0 < P.2.2) (h2 : 0 < Q.2.2) (h0' : 0 < o'.2.2) (h1' : 0 < P'.2.2) (h2' : 0 < Q'.2.2) (e0 : eqv o o') (e1 : eqv P P') (e2 : eqv Q Q') (h : 0 < D3 o P Q) : 0 < D3 o' P' Q' := by
  have key : D3 o' P' Q' * (o.2.2 * P.2.2 * Q.2.2) = D3 o P Q * (o'.2.2 * P'.2.2 * Q'.2.2) := by
    obtain ⟨a1, a2⟩ := e0
    obtain ⟨b1, b2⟩ := e1
    obtain ⟨c1, c2⟩ := e2
    simp only [D3]
    clear h h0 h1 h2 h0' h1' h2'
    grind
  exact pos_of_scale key (Int.mul_pos (Int.mul_pos h0 h1) h2) (Int.mul_pos (Int.mul_pos h0' h1') h2') h
theorem bef_eqv {P Q P' Q' : Pt} (h1 : 0 < P.2.2) (h2 : 0 < Q.2.2) (h1' : 0 < P'.2.2) (h2' : 0 < Q'.2.2) (e1 : eqv P P') (e2 : eqv Q Q') (h : bef P Q) : bef P' Q' := by
  have ne : ¬ eqv P' Q' := fun e => bef_ne h (eqv_tr (by omega) e1 (eqv_tr (by omega) e (eqv_sy e2)))
  rcases bef_tot ne with q | q
  · exact q
  · exfalso
    have kx : (Q'.1 * P'.2.2 - P'.1 * Q'.2.2) * (P.2.2 * Q.2.2) = (Q.1 * P.2.2 - P.1 * Q.2.2) * (P'.2.2 * Q'.2.2) := by
      obtain ⟨b1, b2⟩ := e1
      obtain ⟨c1, c2⟩ := e2
      clear h h1 h2 h1' h2' ne q
      grind
    have ky : (Q'.2.1 * P'.2.2 - P'.2.1 * Q'.2.2) * (P.2.2 * Q.2.2) = (Q.2.1 * P.2.2 - P.2.1 * Q.2.2) * (P'.2.2 * Q'.2.2) := by
      obtain ⟨b1, b2⟩ := e1
      obtain ⟨c1, c2⟩ := e2
      clear h h1 h2 h1' h2' ne q
      grind
    have w := Int.mul_pos h1 h2
    have w' := Int.mul_pos h1' h2'
    rcases h with h | ⟨h, h'⟩
    · have := pos_of_scale kx w w' (by omega)
      rcases q with q | q <;> omega
    · have ex : Q.1 * P.2.2 - P.1 * Q.2.2 = 0 := by omega
      rw [ex, Int.zero_mul] at kx
      have ex' := m0 (a := P.2.2 * Q.2.2) (by rw [Int.mul_comm]; exact kx) (by omega)
      have := pos_of_scale ky w w' (by omega)
      rcases q with q | q <;> omega
theorem incr_le {n : Nat} {s : Nat → Nat} (h : ∀ i j, i < j → j < n → s i < s j) : ∀ i, i < n → i ≤ s i := by
  intro i
  induction i with
  | zero => intro _; omega
  | succ i ih =>
    intro hi
    have := ih (by omega)
    have := h i (i + 1) (by omega) hi
    omega
/-- points that stand in order, matched one way: their places do not fall -/
theorem match_incr {L M : List Ln} {c d : Nat} {f g : Nat → Pt} (hf : GP L c f) (hg : GP M d g) (lf : LM c f) (lg : LM d g) (sf : SRT c f) (sg : SRT d g) {s : Nat → Nat} (hs : ∀ k, k < c → s k < d ∧ eqv (f k) (g (s k))) (ho : ∀ j, j < d → ∃ k, k < c ∧ eqv (g j) (f k)) : (∀ i j, i < j → j < c → s i < s j) := by
  have df : ∀ k, k < c → 0 < (f k).2.2 := fun k hk => (hf.1 k hk).1
  have dg : ∀ k, k < d → 0 < (g k).2.2 := fun k hk => (hg.1 k hk).1
  have z : 0 < c → s 0 = 0 := by
    intro hc
    by_cases h : s 0 = 0
    · exact h
    · exfalso
      obtain ⟨h1, h2⟩ := hs 0 hc
      have b1 := lg (s 0) (by omega) h1
      obtain ⟨k, hk, ek⟩ := ho 0 (by omega)
      have b2 := bef_eqv (dg 0 (by omega)) (dg _ h1) (df k hk) (df 0 hc) ek (eqv_sy h2) b1
      by_cases k0 : k = 0
      · subst k0; exact bef_ne b2 (eqv_rf _)
      · exact bef_as b2 (lf k (by omega) hk)
  intro i j hij hj
  obtain ⟨a1, a2⟩ := hs i (by omega)
  obtain ⟨b1, b2⟩ := hs j hj
  have hne : s i ≠ s j := by
    intro e
    rw [← e] at b2
    exact hf.2 i j (by omega) hj (by omega) (eqv_tr (by have := dg _ a1; omega) a2 (eqv_sy b2))
  by_cases hi : i = 0
  · subst hi
    rw [z (by omega)] at hne ⊢
    omega
  · have hsi : s i ≠ 0 := by
      intro e
      have e2 := z (by omega)
      have := (hs 0 (by omega)).2
      rw [e2] at this
      rw [e] at a2
      exact hf.2 0 i (by omega) (by omega) (by omega) (eqv_tr (by have := dg 0 (by omega); omega) this (eqv_sy a2))
    have hsj : s j ≠ 0 := by
      intro e
      have e2 := z (by omega)
      have := (hs 0 (by omega)).2
      rw [e2] at this
      rw [e] at b2
      exact hf.2 0 j (by omega) (by omega) (by omega) (eqv_tr (by have := dg 0 (by omega); omega) this (eqv_sy b2))
    rcases Nat.lt_or_ge (s i) (s j) with q | q
    · exact q
    · exfalso
      have e0 := (hs 0 (by omega)).2
      rw [z (by omega)] at e0
      have p1 := sf i j (by omega) hij hj
      have p2 := D3_eqv (df 0 (by omega)) (df i (by omega)) (df j hj) (dg 0 (by omega)) (dg _ a1) (dg _ b1) e0 a2 b2 p1
      have p3 := sg (s j) (s i) (by omega) (by omega) a1
      rw [D3_swap] at p3
      omega
theorem same_order {L M : List Ln} {c d : Nat} {f g : Nat → Pt} (hf : GP L c f) (hg : GP M d g) (lf : LM c f) (lg : LM d g) (sf : SRT c f) (sg : SRT d g) (h1 : ∀ k, k < c → ∃ j, j < d ∧ eqv (f k) (g j)) (h2 : ∀ j, j < d → ∃ k, k < c ∧ eqv (g j) (f k)) : c = d ∧ ∀ k, k < c → eqv (f k) (g k) := by
  have df : ∀ k, k < c → 0 < (f k).2.2 := fun k hk => (hf.1 k hk).1
  have dg : ∀ k, k < d → 0 < (g k).2.2 := fun k hk => (hg.1 k hk).1
  obtain ⟨s, hs⟩ : ∃ s : Nat → Nat, ∀ k, k < c → s k < d ∧ eqv (f k) (g (s k)) :=
    ⟨fun k => if h : k < c then (h1 k h).choose else 0, fun k hk => by simp only [dif_pos hk]; exact (h1 k hk).choose_spec⟩
  obtain ⟨t, ht⟩ : ∃ t : Nat → Nat, ∀ k, k < d → t k < c ∧ eqv (g k) (f (t k)) :=
    ⟨fun k => if h : k < d then (h2 k h).choose else 0, fun k hk => by simp only [dif_pos hk]; exact (h2 k hk).choose_spec⟩
  have i1 := incr_le (match_incr hf hg lf lg sf sg hs h2)
  have i2 := incr_le (match_incr hg hf lg lf sg sf ht h1)
  have hid : ∀ k, k < c → s k = k := by
    intro k hk
    obtain ⟨a1, a2⟩ := hs k hk
    obtain ⟨b1, b2⟩ := ht _ a1
    have e : t (s k) = k := by
      by_cases e : t (s k) = k
      · exact e
      · exact absurd (eqv_tr (by have := dg _ a1; omega) a2 b2) (hf.2 _ _ hk b1 (fun q => e q.symm))
    have := i1 k hk
    have := i2 _ a1
    omega
  have hcd : c ≤ d := by
    by_cases h : c = 0
    · omega
    · have := (hs (c - 1) (by omega)).1
      rw [hid (c - 1) (by omega)] at this
      omega
  have hdc : d ≤ c := by
    by_cases h : d = 0
    · omega
    · have h3 := (ht (d - 1) (by omega)).1
      have := i2 (d - 1) (by omega)
      omega
  exact ⟨by omega, fun k hk => by have := (hs k hk).2; rw [hid k hk] at this; exact this⟩
theorem sort_same {L M : List Ln} {c d : Nat} {f g : Nat → Pt} (hf : GP L c f) (hg : GP M d g) (h1 : ∀ k, k < c → ∃ j, j < d ∧ eqv (f k) (g j)) (h2 : ∀ j, j < d → ∃ k, k < c ∧ eqv (g j) (f k)) : c = d ∧ ∀ k, k < c → eqv (sortF c f k) (sortF d g k) := by
  obtain ⟨r1, l1, s1⟩ := sortF_ok hf
  obtain ⟨r2, l2, s2⟩ := sortF_ok hg
  have gf := GP_rx hf r1
  have gg := GP_rx hg r2
  have surj : ∀ {c : Nat} {f g : Nat → Pt} {L : List Ln}, GP L c f → RX c f g → ∀ k, k < c → ∃ j, j < c ∧ f k = g j := by
    intro c f g L hG ⟨p, p1, p2, p3⟩ k hk
    have hs : ((List.range c).map p).Perm (List.range c) := by
      have n1 : ((List.range c).map p).Nodup := by
        refine List.pairwise_map.mpr (List.pairwise_iff_getElem.mpr fun i j hi hj hij e => ?_)
        rw [List.length_range] at hi hj
        rw [List.getElem_range, List.getElem_range] at e
        have := p2 i j hi hj e
        omega
      have hsub : (List.range c).map p ⊆ List.range c := by
        intro x hx
        obtain ⟨y, hy, rfl⟩ := List.mem_map.mp hx
        rw [List.mem_range] at hy ⊢
        exact p1 y hy
      refine (List.perm_ext_iff_of_nodup n1 List.nodup_range).mpr fun a => ⟨fun h => hsub h, fun h => ?_⟩
      by_cases hm : a ∈ (List.range c).map p
      · exact hm
      · exfalso
        have n2 : (a :: (List.range c).map p).Nodup := List.nodup_cons.mpr ⟨hm, n1⟩
        have := n2.length_le_of_subset (l₂ := List.range c) (fun x hx => by
          rcases List.mem_cons.mp hx with e | e
          · rw [e]; exact h
          · exact hsub e)
        simp at this
        omega
    have : k ∈ (List.range c).map p := hs.mem_iff.mpr (List.mem_range.mpr hk)
    obtain ⟨j, hj, e⟩ := List.mem_map.mp this
    rw [List.mem_range] at hj
    exact ⟨j, hj, by rw [p3 j hj, e]⟩
  have in1 : ∀ k, k < c → ∃ j, j < c ∧ sortF c f k = f j := by
    obtain ⟨p, p1, p2, p3⟩ := r1
    exact fun k hk => ⟨p k, p1 k hk, p3 k hk⟩
  have in2 : ∀ k, k < d → ∃ j, j < d ∧ sortF d g k = g j := by
    obtain ⟨p, p1, p2, p3⟩ := r2
    exact fun k hk => ⟨p k, p1 k hk, p3 k hk⟩
  refine same_order gf gg l1 l2 s1 s2 (fun k hk => ?_) (fun k hk => ?_)
  · obtain ⟨j, hj, e⟩ := in1 k hk
    obtain ⟨i, hi, e2⟩ := h1 j hj
    obtain ⟨n, hn, e3⟩ := surj hg r2 i hi
    exact ⟨n, hn, by rw [e, ← e3]; exact e2⟩
  · obtain ⟨j, hj, e⟩ := in2 k hk
    obtain ⟨i, hi, e2⟩ := h2 j hj
    obtain ⟨n, hn, e3⟩ := surj hf r1 i hi
    exact ⟨n, hn, by rw [e, ← e3]; exact e2⟩
