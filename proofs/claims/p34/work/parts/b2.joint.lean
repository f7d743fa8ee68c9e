/-! ===== two objects alike: the law's helpers ===== -/
def JJ {α : Type} (A B : Option (α × ST)) : Prop := ∃ (r : α) (s t : ST), A = some (r, s) ∧ B = some (r, t) ∧ J s t
theorem jjp {α : Type} {r : α} {s t : ST} (h : J s t) : JJ (some (r, s)) (some (r, t)) := ⟨r, s, t, rfl, rfl, h⟩
theorem jjb {α β : Type} {A B : Option (α × ST)} {K K' : α → ST → Option (β × ST)} (h : JJ A B) (hk : ∀ r s t, J s t → JJ (K r s) (K' r t)) : JJ (bnd2 A K) (bnd2 B K') := by
  obtain ⟨r, s, t, e1, e2, hj⟩ := h
  rw [e1, e2, bnd2_some, bnd2_some]
  exact hk r s t hj
theorem jjn {α β : Type} {v : β} {K K' : β → Option (α × ST)} (h : JJ (K v) (K' v)) : JJ (nm v K) (nm v K') := h
theorem jji {α : Type} {c : Prop} {_ : Decidable c} {A B A' B' : Option (α × ST)} (h1 : c → JJ A B) (h2 : ¬ c → JJ A' B') : JJ (if c then A else A') (if c then B else B') := by
  by_cases h : c
  · rw [if_pos h, if_pos h]; exact h1 h
  · rw [if_neg h, if_neg h]; exact h2 h
theorem jjz {α : Type} {y : Int32} (hy : ¬ y = 0) {A B : Option (α × ST)} (h : JJ A B) : JJ (gNz y A) (gNz y B) := by
  rw [gNz_ne hy, gNz_ne hy]
  exact h
theorem jd20 {s t : ST} (h : J s t) (x y : Int32) : JJ (f_L_digits_20 s x y) (f_L_digits_20 t x y) := by
  unfold f_L_digits_20
  refine jjb (j_append h _) (fun r1 s t h => jjb (j_append h _) (fun r2 s t h => jjp h))
theorem jd {s t : ST} (h : J s t) (x y : Int32) : JJ (f_L_digits_0 s x y) (f_L_digits_0 t x y) := by
  unfold f_L_digits_0
  refine jji (fun _ => jd20 h _ _) (fun _ => jjb (j_append h _) (fun r1 s t h => jd20 h _ _))
theorem jl134 {s t : ST} (h : J s t) (x y : Int32) : JJ (f_L_load_134 s x y) (f_L_load_134 t x y) := by
  unfold f_L_load_134
  refine jjn (jjb (j_load h) (fun r s t h => jjp h))
theorem jl78 {k k' : ST → Int32 → Int32 → Int32 → Int32 → Int32 → Option R_L_load} {s t : ST} (h : J s t) (x1 x4 x5 x6 y0 y1 y3 y4 : Int32) (hy : ¬ y4 = 0) (hk : ∀ s t, J s t → ∀ b c : Int32, JJ (k s x1 b c x5 (x6 + 1)) (k' t x1 b c x5 (x6 + 1))) : JJ (f_L_load_78 k s x1 x4 x5 x6 y0 y1 y3 y4) (f_L_load_78 k' t x1 x4 x5 x6 y0 y1 y3 y4) := by
  unfold f_L_load_78
  refine jjz hy (jjb (jd h _ _) (fun r s t h => jjn (jjn (hk s t h _ _))))
theorem jl24 {z : Int} (z1 : -20 ≤ z) (z2 : z ≤ 10) : ∀ (e i n : Nat), 10 ≤ i + e → i ≤ 10 → e < n → ∀ (x1 x3 x4 : Int32) (s t : ST), J s t → JJ (f_L_load_24 n s x1 x3 x4 (iI z) (iI i)) (f_L_load_24 n t x1 x3 x4 (iI z) (iI i)) := by
  have tail : ∀ (x1 x3 : Int32) (s t : ST), J s t → JJ (if (x1 - x1 / (31 : Int32) * (31 : Int32)) = 0 then bnd2 (F_X5_append s (50 : Int32)) (fun r3 s4 => bnd2 (F_X5_append s4 (49 : Int32)) (fun r6 s7 => f_L_load_134 s7 x3 (r3 + r6))) else f_L_load_134 s x3 (0 : Int32)) (if (x1 - x1 / (31 : Int32) * (31 : Int32)) = 0 then bnd2 (F_X5_append t (50 : Int32)) (fun r3 s4 => bnd2 (F_X5_append s4 (49 : Int32)) (fun r6 s7 => f_L_load_134 s7 x3 (r3 + r6))) else f_L_load_134 t x3 (0 : Int32)) :=
    fun x1 x3 s t h => jji (fun _ => jjb (j_append h _) (fun r s t h => jjb (j_append h _) (fun r s t h => jl134 h _ _))) (fun _ => jl134 h _ _)
  intro e
  induction e with
  | zero =>
    intro i n hi hi2 hn x1 x3 x4 s t h
    obtain ⟨n, rfl⟩ : ∃ k, n = k + 1 := ⟨n - 1, by omega⟩
    show JJ (g_L_load_24 (f_L_load_24 n) s x1 x3 x4 (iI z) (iI i)) (g_L_load_24 (f_L_load_24 n) t x1 x3 x4 (iI z) (iI i))
    unfold g_L_load_24
    rw [if_pos (show iI z ≤ iI (i : Nat) by rw [iI_le] <;> omega), if_pos (show iI z ≤ iI (i : Nat) by rw [iI_le] <;> omega)]
    exact tail _ _ _ _ h
  | succ e ih =>
    intro i n hi hi2 hn x1 x3 x4 s t h
    obtain ⟨n, rfl⟩ : ∃ k, n = k + 1 := ⟨n - 1, by omega⟩
    show JJ (g_L_load_24 (f_L_load_24 n) s x1 x3 x4 (iI z) (iI i)) (g_L_load_24 (f_L_load_24 n) t x1 x3 x4 (iI z) (iI i))
    unfold g_L_load_24
    refine jji (fun _ => tail _ _ _ _ h) (fun hq => ?_)
    have hlt : (i : Int) < z := by
      rw [iI_le (by omega) (by omega) (by omega) (by omega)] at hq
      omega
    have hk : ∀ s t, J s t → ∀ b c : Int32, JJ (f_L_load_24 n s x1 b c (iI z) (iI (i : Nat) + 1)) (f_L_load_24 n t x1 b c (iI z) (iI (i : Nat) + 1)) := fun s t h b c => by
      rw [iI_p1]
      exact ih (i + 1) n (by omega) (by omega) (by omega) x1 b c s t h
    exact jjb (jd h _ _) (fun r s t h => jjb (jd h _ _) (fun r s t h => jji (fun _ => jl78 h _ _ _ _ _ _ _ _ (by decide) hk) (fun _ => jl78 h _ _ _ _ _ _ _ _ (by decide) hk)))
theorem rem_b (x : Int32) (m : Nat) (hm : 0 < m) (hm2 : m < 1000000) : ∃ z : Int, -(m : Int) < z ∧ z < m ∧ x - x / iI (m : Nat) * iI (m : Nat) = iI z ∧ (0 ≤ x.toInt → 0 ≤ z) := by
  obtain ⟨v, v1, v2, rfl⟩ := i_ex x
  rw [iI_rem v1 v2 (by omega) (by omega)]
  refine ⟨v.tmod m, ?_, Int.tmod_lt_of_pos _ (by omega), rfl, fun h => ?_⟩
  · have := Int.lt_tmod_of_pos v (show (0 : Int) < m by omega)
    omega
  · rw [iI_toInt v1 v2] at h
    exact Int.tmod_nonneg _ h
theorem jl {s t : ST} (h : J s t) (x y : Int32) : JJ (f_L_load_0 s x y) (f_L_load_0 t x y) := by
  unfold f_L_load_0
  refine jjb (j_clearText h) (fun r s t h => jjb (j_append h _) (fun r s t h => jjn (jjn ?_)))
  obtain ⟨z, z1, z2, ez, -⟩ := rem_b x 11 (by omega) (by omega)
  rw [show x - x / (11 : Int32) * (11 : Int32) = iI z from ez]
  exact jl24 (by omega) (by omega) 10 0 fuel (by omega) (by omega) (by unfold fuel; omega) _ _ _ _ _ h
theorem ja132 {s t : ST} (h : J s t) (a b d e : Int32) (he : ¬ e = 0) : JJ (f_L_act_132 s a b d e) (f_L_act_132 t a b d e) := by
  unfold f_L_act_132
  exact jjz he (jjb (j_add h _ _ _) (fun r s t h => jjp h))
theorem ja240 {s t : ST} (h : J s t) (a b d : Int32) : JJ (f_L_act_240 s a b d) (f_L_act_240 t a b d) := by
  unfold f_L_act_240
  exact jjb (j_observe h _ _ _) (fun r s t h => jjp h)
theorem ja16 {s t : ST} (h : J s t) (x y i : Int32) : JJ (f_L_act_16 s x y i) (f_L_act_16 t x y i) := by
  unfold f_L_act_16
  exact jjn (jji (fun _ => jjb (jl h _ _) (fun r s t h => jjp h)) (fun _ => jji (fun _ => jjb (jl h _ _) (fun r s t h => jjp h)) (fun _ => jji (fun _ => jjb (jl h _ _) (fun r s t h => jjp h)) (fun _ => jji (fun _ => jji (fun _ => ja132 h _ _ _ _ (by decide)) (fun _ => ja132 h _ _ _ _ (by decide))) (fun _ => jji (fun _ => jji (fun _ => ja132 h _ _ _ _ (by decide)) (fun _ => ja132 h _ _ _ _ (by decide))) (fun _ => jji (fun _ => jji (fun _ => ja132 h _ _ _ _ (by decide)) (fun _ => ja132 h _ _ _ _ (by decide))) (fun _ => jji (fun _ => jjb (j_remove h _) (fun r s t h => jjp h)) (fun _ => jji (fun _ => jjb (j_move h _ _ _) (fun r s t h => jjp h)) (fun _ => jji (fun _ => jjb (j_move h _ _ _) (fun r s t h => jjp h)) (fun _ => jji (fun _ => jjb (j_setWeight h _ _) (fun r s t h => jjp h)) (fun _ => jji (fun _ => jjb (j_setWeight h _ _) (fun r s t h => jjp h)) (fun _ => jji (fun _ => jji (fun _ => jjb (j_clearObservations h) (fun r s t h => jjp h)) (fun _ => jji (fun _ => ja240 h _ _ _) (fun _ => jjb (j_owner h _ _) (fun r s t h => ja240 h _ _ _)))) (fun _ => jji (fun _ => jjb (j_save h _) (fun r s t h => jjp h)) (fun _ => jji (fun _ => jjb (j_restore h _) (fun r s t h => jjp h)) (fun _ => jjb (j_undo h) (fun r s t h => jjp h))))))))))))))))
theorem ja {s t : ST} (h : J s t) (x y : Int32) : JJ (f_L_act_0 s x y) (f_L_act_0 t x y) := by
  unfold f_L_act_0
  exact jjb (j_siteCount h) (fun r s t h => jji (fun _ => ja16 h _ _ _) (fun hz => jjz hz (ja16 h _ _ _)))
/-! the sum over the sites -/
def hsh (c : Nat) (X Y W : Nat → Int) : Nat → Int64
  | 0 => (iI (c : Nat)).toInt64
  | k + 1 => ((((1000003 : Int64) * hsh c X Y W k) + ((441 : Int32) * iI (W k)).toInt64) + ((21 : Int32) * iI (X k)).toInt64) + (iI (Y k)).toInt64
theorem l_state8 {s : ST} {c : Nat} {X Y W : Nat → Int} (h : GS s c X Y W) : ∀ (e k n : Nat), k + e = c → e < n → f_L_state_8 n s (hsh c X Y W k) (iI (k : Nat)) = some (hsh c X Y W c, s) := by
  have hc := h.1.1
  intro e
  induction e with
  | zero =>
    intro k n hk hn
    obtain ⟨n, rfl⟩ : ∃ k, n = k + 1 := ⟨n - 1, by omega⟩
    show g_L_state_8 (f_L_state_8 n) s _ _ = _
    unfold g_L_state_8
    have e : k = c := by omega
    rw [q_siteCount h, bnd2_some, if_pos (show iI (c : Nat) ≤ iI (k : Nat) by rw [iI_le] <;> omega), e]
  | succ e ih =>
    intro k n hk hn
    obtain ⟨n, rfl⟩ : ∃ k, n = k + 1 := ⟨n - 1, by omega⟩
    show g_L_state_8 (f_L_state_8 n) s _ _ = _
    unfold g_L_state_8
    rw [q_siteCount h, bnd2_some, if_neg (show ¬ iI (c : Nat) ≤ iI (k : Nat) by rw [iI_le] <;> omega), q_site2 h (by omega), bnd2_some, q_site0 h (by omega), bnd2_some, q_site1 h (by omega), bnd2_some, nm_eq, iI_p1]
    exact ih (k + 1) n (by omega) (by omega)
theorem l_state {s : ST} {c : Nat} {X Y W : Nat → Int} (h : GS s c X Y W) : f_L_state_0 s = some (hsh c X Y W c, s) := by
  have hc := h.1.1
  unfold f_L_state_0
  rw [q_siteCount h, bnd2_some, nm_eq]
  exact l_state8 h c 0 fuel (by omega) (by unfold fuel; omega)
theorem js {s t : ST} (h : J s t) : JJ (f_L_state_0 s) (f_L_state_0 t) := by
  obtain ⟨⟨c, X, Y, W, h1, h2⟩, -⟩ := J_has h
  exact ⟨_, s, t, l_state h1, l_state h2, h⟩
/-! both answer alike -/
def AL (A : Option (Int32 × ST × ST)) : Prop := ∃ s t : ST, A = some (1, s, t) ∧ J s t
theorem alb {α : Type} {A B : Option (α × ST)} {K : α → ST → α → ST → Option (Int32 × ST × ST)} (h : JJ A B) (hk : ∀ r s t, J s t → AL (K r s r t)) : AL (bnd2 A (fun r s => bnd2 B (fun r' t => K r s r' t))) := by
  obtain ⟨r, s, t, e1, e2, hj⟩ := h
  rw [e1, e2, bnd2_some, bnd2_some]
  exact hk r s t hj
theorem ali {r : Int32} {A B : Option (Int32 × ST × ST)} (h : AL A) : AL (if r = r then A else B) := by
  rw [if_pos rfl]
  exact h
theorem cmp_self (v : Int64) : lg_cmp v v = 0 := by
  obtain ⟨z, z1, z2, rfl⟩ := l_ex v
  rw [cmp_eq (by omega) (by omega) (by omega) (by omega)]
theorem all {v : Int64} {A B : Option (Int32 × ST × ST)} (h : AL A) : AL (if lg_cmp v v = 0 then A else B) := by
  rw [if_pos (cmp_self v)]
  exact h
theorem l_al144 : ∀ (e i n : Nat), i + e = 10 → e < n → ∀ s t : ST, J s t → AL (f_L_alike_144 n s t 1 (iI (i : Nat))) := by
  intro e
  induction e with
  | zero =>
    intro i n hi hn s t h
    obtain ⟨n, rfl⟩ : ∃ k, n = k + 1 := ⟨n - 1, by omega⟩
    show AL (g_L_alike_144 (f_L_alike_144 n) s t _ _)
    unfold g_L_alike_144
    rw [if_pos (show (10 : Int32) ≤ iI (i : Nat) by rw [q_10, iI_le] <;> omega)]
    exact ⟨s, t, rfl, h⟩
  | succ e ih =>
    intro i n hi hn s t h
    obtain ⟨n, rfl⟩ : ∃ k, n = k + 1 := ⟨n - 1, by omega⟩
    show AL (g_L_alike_144 (f_L_alike_144 n) s t _ _)
    unfold g_L_alike_144
    rw [if_neg (show ¬ (10 : Int32) ≤ iI (i : Nat) by rw [q_10, iI_le] <;> omega), if_neg (by decide), iI_p1]
    have hk : ∀ s t, J s t → AL (f_L_alike_144 n s t 1 (iI (i + 1 : Nat))) := fun s t h => ih (i + 1) n (by omega) (by omega) s t h
    exact alb (j_cornerCount h _) (fun r s t h => ali (alb (j_neighbours h _) (fun r s t h => ali (alb (j_size h _) (fun r s t h => ali (hk s t h))))))
theorem l_alike {s t : ST} (h : J s t) (x : Int32) : AL (f_L_alike_0 s t x) := by
  have hk : ∀ s t, J s t → AL (f_L_alike_144 fuel s t 1 0) := fun s t h => l_al144 10 0 fuel (by omega) (by unfold fuel; omega) s t h
  unfold f_L_alike_0
  exact alb (js h) (fun r s t h => all (alb (j_errorPosition h) (fun r s t h => ali (alb (j_hiddenSites h) (fun r s t h => ali (alb (j_triangleCount h) (fun r s t h => ali (alb (j_possibleWeights h _ _) (fun r s t h => ali (alb (j_weightForSize h _ _) (fun r s t h => ali (alb (j_conflicts h _ _ _) (fun r s t h => ali (alb (j_runScript h _ _) (fun r s t h => ali (hk s t h))))))))))))))))
