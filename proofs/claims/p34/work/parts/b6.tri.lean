/-! ===== the law's triangles ===== -/
section TRM
variable {c : Nat} {X Y W : Nat → Int}
theorem TR_sw {i j k : Nat} (h : TR X Y W c i j k) : TR X Y W c i k j := by
  obtain ⟨hd, hall⟩ := h
  have hd' : dt (pl X Y W i k) (pl X Y W i j) ≠ 0 := by rw [dt_an]; omega
  refine ⟨hd', fun o ho => ?_⟩
  exact (ev_sgn (ev_nmt hd).2.2 (ev_nmt hd').2.2 (nmt_sym hd) _).mp (hall o ho)
theorem triB_sw {i j k : Nat} : triB X Y W c i j k = triB X Y W c i k j := by
  by_cases h : TR X Y W c i j k
  · rw [triB_t h, triB_t (TR_sw h)]
  · rw [triB_f h, triB_f (fun q => h (TR_sw q))]
theorem triB_rot {i j k : Nat} : triB X Y W c i j k = triB X Y W c k i j := by
  rw [triB_sw, triB_sym, triB_sw, triB_sym]
theorem triB_11 {i k : Nat} : triB X Y W c i i k = false := by
  refine triB_f (fun h => h.1 ?_)
  rw [pl_ii]
  simp [dt]
theorem T0_le (q : Nat → Nat → Nat → Bool) : T0 c q ≤ c * (c * c) := by
  unfold T0
  rw [← sumN_const]
  refine sumN_le (fun i hi => ?_)
  rw [← sumN_const]
  refine sumN_le (fun j hj => ?_)
  have : sumN c (fun k => if i < j ∧ j < k ∧ q i j k = true then 1 else 0) ≤ sumN c (fun _ => 1) := sumN_le (fun k hk => by split <;> omega)
  rw [sumN_const, Nat.mul_one] at this
  exact this
theorem T0_b (hc : c ≤ 10) (q : Nat → Nat → Nat → Bool) : T0 c q ≤ 1000 := by
  have h1 := T0_le (c := c) q
  have h2 : c * c ≤ 10 * 10 := Nat.mul_le_mul hc hc
  have h3 : c * (c * c) ≤ 10 * (10 * 10) := Nat.mul_le_mul hc h2
  omega
theorem T0_split {q r p : Nat → Nat → Nat → Bool} (h : ∀ i j k, i < c → j < c → k < c → (if p i j k = true then 1 else 0) = (if q i j k = true then 1 else 0) + (if r i j k = true then 1 else 0)) : T0 c p = T0 c q + T0 c r := by
  unfold T0
  rw [← sumN_add]
  refine sumN_congr (fun i hi => ?_)
  rw [← sumN_add]
  refine sumN_congr (fun j hj => ?_)
  rw [← sumN_add]
  refine sumN_congr (fun k hk => ?_)
  have := h i j k hi hj hk
  by_cases g : i < j ∧ j < k
  · simp only [g.1, g.2, true_and]
    exact this
  · rw [if_neg (fun q => g ⟨q.1, q.2.1⟩), if_neg (fun q => g ⟨q.1, q.2.1⟩), if_neg (fun q => g ⟨q.1, q.2.1⟩)]
theorem pl_set {i o : Nat} (hi : i < c) (ho : o < c) (a b v : Int) : pl (setW X c a) (setW Y c b) (setW W c v) i o = pl X Y W i o := by
  unfold pl lv
  rw [setW_ne _ _ (show i ≠ c by omega), setW_ne _ _ (show i ≠ c by omega), setW_ne _ _ (show i ≠ c by omega), setW_ne _ _ (show o ≠ c by omega), setW_ne _ _ (show o ≠ c by omega), setW_ne _ _ (show o ≠ c by omega)]
theorem pl_new {i : Nat} (hi : i < c) (a b v : Int) : pl (setW X c a) (setW Y c b) (setW W c v) i c = plq X Y W i a b v := by
  unfold pl plq lv
  rw [setW_ne _ _ (show i ≠ c by omega), setW_ne _ _ (show i ≠ c by omega), setW_ne _ _ (show i ≠ c by omega), setW_eq, setW_eq, setW_eq]
/-- a triangle stands after a new site came just if it stood, and the new site isn't nearer -/
theorem TR_add {i j k : Nat} (hi : i < c) (hj : j < c) (hk : k < c) (a b v : Int) : TR (setW X c a) (setW Y c b) (setW W c v) (c + 1) i j k ↔ TR X Y W c i j k ∧ ev (plq X Y W i a b v) (nmt (pl X Y W i j) (pl X Y W i k)) ≤ 0 := by
  unfold TR
  rw [pl_set hi hj, pl_set hi hk]
  constructor
  · rintro ⟨h1, h2⟩
    refine ⟨⟨h1, fun o ho => ?_⟩, ?_⟩
    · have := h2 o (by omega)
      rwa [pl_set hi ho] at this
    · have := h2 c (by omega)
      rwa [pl_new hi] at this
  · rintro ⟨⟨h1, h2⟩, h3⟩
    refine ⟨h1, fun o ho => ?_⟩
    by_cases q : o = c
    · subst q
      rw [pl_new hi]
      exact h3
    · rw [pl_set hi (by omega)]
      exact h2 o (by omega)
theorem T0_add (a b v : Int) : T0 c (triB X Y W c) = T0 c (cnB X Y W c a b v) + T0 c (triB (setW X c a) (setW Y c b) (setW W c v) (c + 1)) := by
  refine T0_split (fun i j k hi hj hk => ?_)
  by_cases h : TR X Y W c i j k
  · by_cases g : ev (plq X Y W i a b v) (nmt (pl X Y W i j) (pl X Y W i k)) ≤ 0
    · have h2 := (TR_add hi hj hk a b v).mpr ⟨h, g⟩
      have h3 : cnB X Y W c a b v i j k = false := by
        unfold cnB
        rw [triB_t h, decide_eq_false (by omega)]
        rfl
      rw [triB_t h, triB_t h2, h3]
      rfl
    · have h2 : ¬ TR (setW X c a) (setW Y c b) (setW W c v) (c + 1) i j k := fun q => g ((TR_add hi hj hk a b v).mp q).2
      have h3 : cnB X Y W c a b v i j k = true := by
        unfold cnB
        rw [triB_t h, decide_eq_true (by omega)]
        rfl
      rw [triB_t h, triB_f h2, h3]
      rfl
  · have h2 : ¬ TR (setW X c a) (setW Y c b) (setW W c v) (c + 1) i j k := fun q => h ((TR_add hi hj hk a b v).mp q).1
    have h3 : cnB X Y W c a b v i j k = false := by
      unfold cnB
      rw [triB_f h]
      rfl
    rw [triB_f h, triB_f h2, h3]
    rfl
theorem hsh_congr {X' Y' W' : Nat → Int} : ∀ k : Nat, (∀ i, i < k → X' i = X i ∧ Y' i = Y i ∧ W' i = W i) → hsh c X' Y' W' k = hsh c X Y W k := by
  intro k
  induction k with
  | zero => intro _; rfl
  | succ k ih =>
    intro h
    obtain ⟨h1, h2, h3⟩ := h k (by omega)
    rw [hsh, hsh, ih (fun i hi => h i (by omega)), h1, h2, h3]
theorem dp_set (a : Int) {i : Nat} (hi : i < c) : dpF (setW X c a) c i = X i := by
  unfold dpF
  rw [if_pos hi, setW_ne _ _ (by omega)]
end TRM
/-! sums over the triples, as the law takes them -/
def Q1 (q : Nat → Nat → Nat → Bool) (i j k : Nat) : Nat := sumN k (fun k => if q i j k = true then 1 else 0)
def Q2 (q : Nat → Nat → Nat → Bool) (i j : Nat) : Nat := sumN j (fun j => Q1 q i j j)
def Q3 (q : Nat → Nat → Nat → Bool) (i : Nat) : Nat := sumN i (fun i => Q2 q i i)
theorem Q1_le (q : Nat → Nat → Nat → Bool) (i j k : Nat) : Q1 q i j k ≤ k := by
  have : Q1 q i j k ≤ k * 1 := by
    unfold Q1
    rw [← sumN_const]
    exact sumN_le (fun i hi => by split <;> omega)
  omega
theorem Q1_s (q : Nat → Nat → Nat → Bool) (i j k : Nat) : Q1 q i j (k + 1) = Q1 q i j k + (if q i j k = true then 1 else 0) := rfl
theorem Q2_s (q : Nat → Nat → Nat → Bool) (i j : Nat) : Q2 q i (j + 1) = Q2 q i j + Q1 q i j j := rfl
theorem Q3_s (q : Nat → Nat → Nat → Bool) (i : Nat) : Q3 q (i + 1) = Q3 q i + Q2 q i i := rfl
theorem Q3_T0 {c : Nat} {q : Nat → Nat → Nat → Bool} (hq : ∀ i j k, i < c → j < c → k < c → q i j k = q k j i) : Q3 q c = T0 c q := T0_down hq
theorem iI_addN (a b : Nat) : iI (a : Nat) + iI (b : Nat) = iI ((a + b : Nat) : Int) := by rw [iI_add]; rfl
theorem b01 (b : Bool) : (if b = true then (1 : Int32) else 0) = iI ((if b = true then 1 else 0 : Nat) : Int) := by cases b <;> rfl
section TRL
variable {c : Nat} {X Y W : Nat → Int}
theorem l_t35 {k25 : ST → Int32 → Int32 → Int64 → Int32 → Int32 → Int32 → Option R_L_triangles} {x1 : Int32} {x2 : Int32} {x3 : Int64} {i j A : Nat} (hi : i < c) (hj : j < c) :
    ∀ (e k n : Nat), k + e = j → e < n → ∀ s, GS s c X Y W → ∃ s', Eq15 s s' ∧ f_L_triangles_35 k25 n s x1 x2 x3 (iI ((A + Q1 (triB X Y W c) i j k : Nat) : Int)) (iI (i : Nat)) (iI (j : Nat)) (iI (k : Nat)) = k25 s' x1 x2 x3 (iI ((A + Q1 (triB X Y W c) i j j : Nat) : Int)) (iI (i : Nat)) (iI (j + 1 : Nat)) := by
  intro e
  induction e with
  | zero =>
    intro k n hk hn s h
    have hc := h.1.1
    obtain ⟨n, rfl⟩ : ∃ k, n = k + 1 := ⟨n - 1, by omega⟩
    have ek : k = j := by omega
    subst ek
    refine ⟨s, E_rf s, ?_⟩
    show g_L_triangles_35 k25 (f_L_triangles_35 k25 n) s _ _ _ _ _ _ _ = _
    unfold g_L_triangles_35
    rw [if_pos (show iI (k : Nat) ≤ iI (k : Nat) by rw [iI_le] <;> omega), iI_p1]
  | succ e ih =>
    intro k n hk hn s h
    have hc := h.1.1
    obtain ⟨n, rfl⟩ : ∃ k, n = k + 1 := ⟨n - 1, by omega⟩
    obtain ⟨s1, k1, e1⟩ := q_tri h hi hj (show k < c by omega)
    obtain ⟨s2, k2, e2⟩ := ih (k + 1) n (by omega) (by omega) s1 (GS_E k1 h)
    refine ⟨s2, E_tr k1 k2, ?_⟩
    show g_L_triangles_35 k25 (f_L_triangles_35 k25 n) s _ _ _ _ _ _ _ = _
    unfold g_L_triangles_35
    rw [if_neg (show ¬ iI (j : Nat) ≤ iI (k : Nat) by rw [iI_le] <;> omega), e1, bnd2_some, nm_eq, b01, iI_addN, iI_p1, Nat.add_assoc, ← Q1_s]
    exact e2
theorem l_t25 {k16 : ST → Int32 → Int32 → Int64 → Int32 → Int32 → Option R_L_triangles} {x1 : Int32} {x2 : Int32} {x3 : Int64} {i A : Nat} (hi : i < c) :
    ∀ (e j n : Nat), j + e = i → e < n → ∀ s, GS s c X Y W → ∃ s', Eq15 s s' ∧ f_L_triangles_25 k16 n s x1 x2 x3 (iI ((A + Q2 (triB X Y W c) i j : Nat) : Int)) (iI (i : Nat)) (iI (j : Nat)) = k16 s' x1 x2 x3 (iI ((A + Q2 (triB X Y W c) i i : Nat) : Int)) (iI (i + 1 : Nat)) := by
  intro e
  induction e with
  | zero =>
    intro j n hj hn s h
    have hc := h.1.1
    obtain ⟨n, rfl⟩ : ∃ k, n = k + 1 := ⟨n - 1, by omega⟩
    have ej : j = i := by omega
    subst ej
    refine ⟨s, E_rf s, ?_⟩
    show g_L_triangles_25 k16 (f_L_triangles_25 k16 n) s _ _ _ _ _ _ = _
    unfold g_L_triangles_25
    rw [if_pos (show iI (j : Nat) ≤ iI (j : Nat) by rw [iI_le] <;> omega), iI_p1]
  | succ e ih =>
    intro j n hj hn s h
    have hc := h.1.1
    obtain ⟨n, rfl⟩ : ∃ k, n = k + 1 := ⟨n - 1, by omega⟩
    obtain ⟨s1, k1, e1⟩ := l_t35 (k25 := f_L_triangles_25 k16 n) (x1 := x1) (x2 := x2) (x3 := x3) (A := A + Q2 (triB X Y W c) i j) hi (show j < c by omega) j 0 fuel (by omega) (by unfold fuel; omega) s h
    obtain ⟨s2, k2, e2⟩ := ih (j + 1) n (by omega) (by omega) s1 (GS_E k1 h)
    refine ⟨s2, E_tr k1 k2, ?_⟩
    show g_L_triangles_25 k16 (f_L_triangles_25 k16 n) s _ _ _ _ _ _ = _
    unfold g_L_triangles_25
    rw [if_neg (show ¬ iI (i : Nat) ≤ iI (j : Nat) by rw [iI_le] <;> omega)]
    have e1' : f_L_triangles_35 (f_L_triangles_25 k16 n) fuel s x1 x2 x3 (iI ((A + Q2 (triB X Y W c) i j : Nat) : Int)) (iI (i : Nat)) (iI (j : Nat)) 0 = _ := e1
    rw [e1', Nat.add_assoc, ← Q2_s]
    exact e2
theorem l_t16 {x1 : Int32} {x3 : Int64} : ∀ (e i n : Nat), i + e = c → e < n → ∀ s, GS s c X Y W → ∃ (s' : ST) (n' : Nat), Eq15 s s' ∧ f_L_triangles_16 n s x1 (iI (c : Nat)) x3 (iI ((Q3 (triB X Y W c) i : Nat) : Int)) (iI (i : Nat)) = g_L_triangles_16 (f_L_triangles_16 n') s' x1 (iI (c : Nat)) x3 (iI ((Q3 (triB X Y W c) c : Nat) : Int)) (iI (c : Nat)) := by
  intro e
  induction e with
  | zero =>
    intro i n hi hn s h
    obtain ⟨n, rfl⟩ : ∃ k, n = k + 1 := ⟨n - 1, by omega⟩
    have ei : i = c := by omega
    subst ei
    exact ⟨s, n, E_rf s, rfl⟩
  | succ e ih =>
    intro i n hi hn s h
    have hc := h.1.1
    obtain ⟨n, rfl⟩ : ∃ k, n = k + 1 := ⟨n - 1, by omega⟩
    obtain ⟨s1, k1, e1⟩ := l_t25 (k16 := f_L_triangles_16 n) (x1 := x1) (x2 := iI (c : Nat)) (x3 := x3) (A := Q3 (triB X Y W c) i) (show i < c by omega) i 0 fuel (by omega) (by unfold fuel; omega) s h
    obtain ⟨s2, n', k2, e2⟩ := ih (i + 1) n (by omega) (by omega) s1 (GS_E k1 h)
    refine ⟨s2, n', E_tr k1 k2, ?_⟩
    have key : f_L_triangles_16 (n + 1) s x1 (iI (c : Nat)) x3 (iI ((Q3 (triB X Y W c) i : Nat) : Int)) (iI (i : Nat)) = g_L_triangles_16 (f_L_triangles_16 n) s x1 (iI (c : Nat)) x3 (iI ((Q3 (triB X Y W c) i : Nat) : Int)) (iI (i : Nat)) := rfl
    rw [key]
    have key2 : g_L_triangles_16 (f_L_triangles_16 n) s x1 (iI (c : Nat)) x3 (iI ((Q3 (triB X Y W c) i : Nat) : Int)) (iI (i : Nat)) = f_L_triangles_25 (f_L_triangles_16 n) fuel s x1 (iI (c : Nat)) x3 (iI ((Q3 (triB X Y W c) i : Nat) : Int)) (iI (i : Nat)) 0 := by
      unfold g_L_triangles_16
      rw [if_neg (show ¬ iI (c : Nat) ≤ iI (i : Nat) by rw [iI_le] <;> omega)]
    have e1' : f_L_triangles_25 (f_L_triangles_16 n) fuel s x1 (iI (c : Nat)) x3 (iI ((Q3 (triB X Y W c) i : Nat) : Int)) (iI (i : Nat)) 0 = _ := e1
    rw [key2, e1', ← Q3_s]
    exact e2
theorem l_t229 {m : Nat} {k219 : ST → Int32 → Int64 → Int32 → Int32 → Int32 → Int32 → Int32 → Int32 → Option R_L_triangles} {x2 : Int32} {x3 : Int64} {x5 x6 x10 : Int32} {i j A : Nat} (hi : i < m) (hj : j < m) :
    ∀ (e k n : Nat), k + e = j → e < n → ∀ s, GS s m X Y W → ∃ s', Eq15 s s' ∧ f_L_triangles_229 k219 n s x2 x3 x5 x6 x10 (iI ((A + Q1 (triB X Y W m) i j k : Nat) : Int)) (iI (i : Nat)) (iI (j : Nat)) (iI (k : Nat)) = k219 s' x2 x3 x5 x6 x10 (iI ((A + Q1 (triB X Y W m) i j j : Nat) : Int)) (iI (i : Nat)) (iI (j + 1 : Nat)) := by
  intro e
  induction e with
  | zero =>
    intro k n hk hn s h
    have hc := h.1.1
    obtain ⟨n, rfl⟩ : ∃ k, n = k + 1 := ⟨n - 1, by omega⟩
    have ek : k = j := by omega
    subst ek
    refine ⟨s, E_rf s, ?_⟩
    show g_L_triangles_229 k219 (f_L_triangles_229 k219 n) s _ _ _ _ _ _ _ _ _ = _
    unfold g_L_triangles_229
    rw [if_pos (show iI (k : Nat) ≤ iI (k : Nat) by rw [iI_le] <;> omega), iI_p1]
  | succ e ih =>
    intro k n hk hn s h
    have hc := h.1.1
    obtain ⟨n, rfl⟩ : ∃ k, n = k + 1 := ⟨n - 1, by omega⟩
    obtain ⟨s1, k1, e1⟩ := q_tri h hi hj (show k < m by omega)
    obtain ⟨s2, k2, e2⟩ := ih (k + 1) n (by omega) (by omega) s1 (GS_E k1 h)
    refine ⟨s2, E_tr k1 k2, ?_⟩
    show g_L_triangles_229 k219 (f_L_triangles_229 k219 n) s _ _ _ _ _ _ _ _ _ = _
    unfold g_L_triangles_229
    rw [if_neg (show ¬ iI (j : Nat) ≤ iI (k : Nat) by rw [iI_le] <;> omega), e1, bnd2_some, nm_eq, b01, iI_addN, iI_p1, Nat.add_assoc, ← Q1_s]
    exact e2
theorem l_t219 {m : Nat} {k210 : ST → Int32 → Int64 → Int32 → Int32 → Int32 → Int32 → Int32 → Option R_L_triangles} {x2 : Int32} {x3 : Int64} {x5 x6 x10 : Int32} {i A : Nat} (hi : i < m) :
    ∀ (e j n : Nat), j + e = i → e < n → ∀ s, GS s m X Y W → ∃ s', Eq15 s s' ∧ f_L_triangles_219 k210 n s x2 x3 x5 x6 x10 (iI ((A + Q2 (triB X Y W m) i j : Nat) : Int)) (iI (i : Nat)) (iI (j : Nat)) = k210 s' x2 x3 x5 x6 x10 (iI ((A + Q2 (triB X Y W m) i i : Nat) : Int)) (iI (i + 1 : Nat)) := by
  intro e
  induction e with
  | zero =>
    intro j n hj hn s h
    have hc := h.1.1
    obtain ⟨n, rfl⟩ : ∃ k, n = k + 1 := ⟨n - 1, by omega⟩
    have ej : j = i := by omega
    subst ej
    refine ⟨s, E_rf s, ?_⟩
    show g_L_triangles_219 k210 (f_L_triangles_219 k210 n) s _ _ _ _ _ _ _ _ = _
    unfold g_L_triangles_219
    rw [if_pos (show iI (j : Nat) ≤ iI (j : Nat) by rw [iI_le] <;> omega), iI_p1]
  | succ e ih =>
    intro j n hj hn s h
    have hc := h.1.1
    obtain ⟨n, rfl⟩ : ∃ k, n = k + 1 := ⟨n - 1, by omega⟩
    obtain ⟨s1, k1, e1⟩ := l_t229 (k219 := f_L_triangles_219 k210 n) (x2 := x2) (x3 := x3) (x5 := x5) (x6 := x6) (x10 := x10) (A := A + Q2 (triB X Y W m) i j) hi (show j < m by omega) j 0 fuel (by omega) (by unfold fuel; omega) s h
    obtain ⟨s2, k2, e2⟩ := ih (j + 1) n (by omega) (by omega) s1 (GS_E k1 h)
    refine ⟨s2, E_tr k1 k2, ?_⟩
    show g_L_triangles_219 k210 (f_L_triangles_219 k210 n) s _ _ _ _ _ _ _ _ = _
    unfold g_L_triangles_219
    rw [if_neg (show ¬ iI (i : Nat) ≤ iI (j : Nat) by rw [iI_le] <;> omega)]
    have e1' : f_L_triangles_229 (f_L_triangles_219 k210 n) fuel s x2 x3 x5 x6 x10 (iI ((A + Q2 (triB X Y W m) i j : Nat) : Int)) (iI (i : Nat)) (iI (j : Nat)) 0 = _ := e1
    rw [e1', Nat.add_assoc, ← Q2_s]
    exact e2
theorem l_t210 {m : Nat} {x3 : Int64} {x5 x6 x10 : Int32} (hcm : c ≤ m) : ∀ (e i n : Nat), i + e = c → e < n → ∀ s, GS s m X Y W → ∃ (s' : ST) (n' : Nat), Eq15 s s' ∧ f_L_triangles_210 n s (iI (c : Nat)) x3 x5 x6 x10 (iI ((Q3 (triB X Y W m) i : Nat) : Int)) (iI (i : Nat)) = g_L_triangles_210 (f_L_triangles_210 n') s' (iI (c : Nat)) x3 x5 x6 x10 (iI ((Q3 (triB X Y W m) c : Nat) : Int)) (iI (c : Nat)) := by
  intro e
  induction e with
  | zero =>
    intro i n hi hn s h
    obtain ⟨n, rfl⟩ : ∃ k, n = k + 1 := ⟨n - 1, by omega⟩
    have ei : i = c := by omega
    subst ei
    exact ⟨s, n, E_rf s, rfl⟩
  | succ e ih =>
    intro i n hi hn s h
    have hc := h.1.1
    obtain ⟨n, rfl⟩ : ∃ k, n = k + 1 := ⟨n - 1, by omega⟩
    obtain ⟨s1, k1, e1⟩ := l_t219 (k210 := f_L_triangles_210 n) (x2 := iI (c : Nat)) (x3 := x3) (x5 := x5) (x6 := x6) (x10 := x10) (A := Q3 (triB X Y W m) i) (show i < m by omega) i 0 fuel (by omega) (by unfold fuel; omega) s h
    obtain ⟨s2, n', k2, e2⟩ := ih (i + 1) n (by omega) (by omega) s1 (GS_E k1 h)
    refine ⟨s2, n', E_tr k1 k2, ?_⟩
    have key : f_L_triangles_210 (n + 1) s (iI (c : Nat)) x3 x5 x6 x10 (iI ((Q3 (triB X Y W m) i : Nat) : Int)) (iI (i : Nat)) = g_L_triangles_210 (f_L_triangles_210 n) s (iI (c : Nat)) x3 x5 x6 x10 (iI ((Q3 (triB X Y W m) i : Nat) : Int)) (iI (i : Nat)) := rfl
    rw [key]
    have key2 : g_L_triangles_210 (f_L_triangles_210 n) s (iI (c : Nat)) x3 x5 x6 x10 (iI ((Q3 (triB X Y W m) i : Nat) : Int)) (iI (i : Nat)) = f_L_triangles_219 (f_L_triangles_210 n) fuel s (iI (c : Nat)) x3 x5 x6 x10 (iI ((Q3 (triB X Y W m) i : Nat) : Int)) (iI (i : Nat)) 0 := by
      unfold g_L_triangles_210
      rw [if_neg (show ¬ iI (c : Nat) ≤ iI (i : Nat) by rw [iI_le] <;> omega)]
    have e1' : f_L_triangles_219 (f_L_triangles_210 n) fuel s (iI (c : Nat)) x3 x5 x6 x10 (iI ((Q3 (triB X Y W m) i : Nat) : Int)) (iI (i : Nat)) 0 = _ := e1
    rw [key2, e1', ← Q3_s]
    exact e2
/-- what the law's triangles do to a state -/
def TT (c : Nat) (a b v : Int) (s s' : ST) : Prop := ∃ s1 s2 s3 s4 s5 s6 : ST, ∃ r1 r2 r3 r4 : Int32, Eq15 s s1 ∧ F_X5_add s1 (iI a) (iI b) (iI v) = some (r1, s2) ∧ Eq15 s2 s3 ∧ F_X5_remove s3 (iI (c : Nat)) = some (r2, s4) ∧ F_X5_undo s4 = some (r3, s5) ∧ F_X5_undo s5 = some (r4, s6) ∧ Eq15 s6 s'
theorem l_t121 {s : ST} (h : GS s c X Y W) (hw : NW s) {x : Nat} (hx : x < 2147483648) : ∃ s' : ST, f_L_triangles_121 s (iI (x : Nat)) (iI (c : Nat)) (hsh c X Y W c) (iI ((Q3 (triB X Y W c) c : Nat) : Int)) 1 = some (1, s') ∧ ((10 ≤ c ∧ Eq15 s s') ∨ (c < 10 ∧ TT c (x % 21 : Nat) (x / 21 % 21 : Nat) (x / 441 % 60 : Nat) s s')) := by
  have hc := h.1.1
  unfold f_L_triangles_121
  rw [if_neg (by decide)]
  by_cases h10 : 10 ≤ c
  · rw [if_pos (show (10 : Int32) ≤ iI (c : Nat) by rw [q_10, iI_le] <;> omega)]
    exact ⟨s, rfl, Or.inl ⟨h10, E_rf s⟩⟩
  · have hl1 : x / 21 ≤ x := Nat.div_le_self _ _
    have hl2 : x / 441 ≤ x := Nat.div_le_self _ _
    rw [if_neg (show ¬ (10 : Int32) ≤ iI (c : Nat) by rw [q_10, iI_le] <;> omega), show (21 : Int32) = iI (21 : Nat) from rfl, show (441 : Int32) = iI (441 : Nat) from rfl, show (60 : Int32) = iI (60 : Nat) from rfl, iI_rN hx (by omega), iI_dN hx (by omega), iI_dN hx (by omega), iI_rN (by omega) (by omega), iI_rN (by omega) (by omega), nm_eq, nm_eq, nm_eq]
    obtain ⟨a, ha⟩ : ∃ a : Nat, a = x % 21 := ⟨_, rfl⟩
    obtain ⟨b, hb⟩ : ∃ b : Nat, b = x / 21 % 21 := ⟨_, rfl⟩
    obtain ⟨v, hv⟩ : ∃ v : Nat, v = x / 441 % 60 := ⟨_, rfl⟩
    rw [← ha, ← hb, ← hv]
    have ha2 : a ≤ 20 := by omega
    have hb2 : b ≤ 20 := by omega
    have hv2 : v ≤ 59 := by omega
    clear ha hb hv hl1 hl2
    obtain ⟨s1, k1, e1⟩ := q_cf h (a := (a : Nat)) (b := (b : Nat)) (d := (v : Nat)) (by omega) (by omega) (by omega) (by omega) (by omega) (by omega)
    have h1 := GS_E k1 h
    have hT := Q3_T0 (c := c) (q := triB X Y W c) (fun i j k _ _ _ => triB_sym)
    have hA := T0_add (c := c) (X := X) (Y := Y) (W := W) (a : Nat) (b : Nat) (v : Nat)
    have b1 := T0_b hc (triB X Y W c)
    have b2 := T0_b hc (cnB X Y W c (a : Nat) (b : Nat) (v : Nat))
    rw [e1, bnd2_some, if_neg (show ¬ iI ((T0 c (cnB X Y W c (a : Nat) (b : Nat) (v : Nat)) : Nat) : Int) < 0 by rw [q_0, iI_lt] <;> omega), hT, if_neg (show ¬ iI ((T0 c (triB X Y W c) : Nat) : Int) < iI ((T0 c (cnB X Y W c (a : Nat) (b : Nat) (v : Nat)) : Nat) : Int) by rw [iI_lt] <;> omega)]
    obtain ⟨s2, e2, h2, t2, o2, -⟩ := e_add h1 (NW_E k1 hw) (show c < 10 by omega) (a := (a : Nat)) (b := (b : Nat)) (v := (v : Nat)) (by omega) (by omega) (by omega) (by omega) (by omega) (by omega)
    rw [e2, bnd2_some, if_pos rfl]
    obtain ⟨s3, n', k3, e3⟩ := l_t210 (c := c) (m := c + 1) (X := setW X c (a : Nat)) (Y := setW Y c (b : Nat)) (W := setW W c (v : Nat)) (x3 := hsh c X Y W c) (x5 := iI ((T0 c (triB X Y W c) : Nat) : Int)) (x6 := 1) (x10 := iI ((T0 c (cnB X Y W c (a : Nat) (b : Nat) (v : Nat)) : Nat) : Int)) (by omega) c 0 fuel (by omega) (by unfold fuel; omega) s2 h2
    have e3' : f_L_triangles_210 fuel s2 (iI (c : Nat)) (hsh c X Y W c) (iI ((T0 c (triB X Y W c) : Nat) : Int)) 1 (iI ((T0 c (cnB X Y W c (a : Nat) (b : Nat) (v : Nat)) : Nat) : Int)) 0 0 = _ := e3
    rw [e3']
    have hT2 := Q3_T0 (c := c) (q := triB (setW X c (a : Nat)) (setW Y c (b : Nat)) (setW W c (v : Nat)) (c + 1)) (fun i j k _ _ _ => triB_sym)
    have h3 := GS_E k3 h2
    have t3 := TOP_E k3 t2
    obtain ⟨s4, e4, h4, t4, o4, -⟩ := e_rem h3 (NW_T t3)
    have eh : hsh c (dpF (setW X c (a : Nat)) c) (dpF (setW Y c (b : Nat)) c) (dpF (setW W c (v : Nat)) c) c = hsh c X Y W c := hsh_congr c (fun i hi => ⟨dp_set _ hi, dp_set _ hi, dp_set _ hi⟩)
    have t41 := o4 0 c X Y W (by omega) t3
    obtain ⟨r5, s5, e5, b5, h5, o5, -⟩ := e_undo t4
    have t5 := o5 0 c X Y W t41
    obtain ⟨r6, s6, e6, b6, h6, o6, -⟩ := e_undo t5
    have l4 := l_state h4
    have l6 := l_state h6
    unfold g_L_triangles_210
    rw [if_pos (show iI (c : Nat) ≤ iI (c : Nat) by rw [iI_le] <;> omega), if_neg (by decide), hT2, iI_sub, if_pos (show iI ((T0 c (triB (setW X c (a : Nat)) (setW Y c (b : Nat)) (setW W c (v : Nat)) (c + 1)) : Nat) : Int) = iI (((T0 c (triB X Y W c) : Nat) : Int) - ((T0 c (cnB X Y W c (a : Nat) (b : Nat) (v : Nat)) : Nat) : Int)) by congr 1; omega), e4, bnd2_some, if_pos rfl, l4, bnd2_some, eh, if_pos (cmp_self _), e5, bnd2_some, if_neg (show ¬ iI (r5 : Nat) < 0 by rw [q_0, iI_lt] <;> omega), e6, bnd2_some, if_neg (show ¬ iI (r6 : Nat) < 0 by rw [q_0, iI_lt] <;> omega), l6, bnd2_some, if_pos (cmp_self _)]
    exact ⟨s6, rfl, Or.inr ⟨by omega, s1, s2, s3, s4, s5, s6, _, _, _, _, k1, e2, k3, e4, e5, e6, E_rf s6⟩⟩
theorem TT_E {a b v : Int} {s t s' : ST} (k : Eq15 s t) (h : TT c a b v t s') : TT c a b v s s' := by
  obtain ⟨s1, s2, s3, s4, s5, s6, r1, r2, r3, r4, k1, e2, k3, e4, e5, e6, k7⟩ := h
  exact ⟨s1, s2, s3, s4, s5, s6, r1, r2, r3, r4, E_tr k k1, e2, k3, e4, e5, e6, k7⟩
theorem l_triangles {s : ST} (h : GS s c X Y W) (hw : NW s) {x : Nat} (hx : x < 2147483648) : ∃ s' : ST, f_L_triangles_0 s (iI (x : Nat)) = some (1, s') ∧ ((10 ≤ c ∧ Eq15 s s') ∨ (c < 10 ∧ TT c (x % 21 : Nat) (x / 21 % 21 : Nat) (x / 441 % 60 : Nat) s s')) := by
  have hc := h.1.1
  unfold f_L_triangles_0
  rw [q_siteCount h, bnd2_some, l_state h, bnd2_some]
  obtain ⟨s1, n', k1, e1⟩ := l_t16 (x1 := iI (x : Nat)) (x3 := hsh c X Y W c) c 0 fuel (by omega) (by unfold fuel; omega) s h
  have e1' : f_L_triangles_16 fuel s (iI (x : Nat)) (iI (c : Nat)) (hsh c X Y W c) 0 0 = _ := e1
  rw [e1']
  have h1 := GS_E k1 h
  have hT := Q3_T0 (c := c) (q := triB X Y W c) (fun i j k _ _ _ => triB_sym)
  obtain ⟨s2, k2, e2⟩ := q_tc h1
  have h2 := GS_E k2 h1
  have fin : ∀ s2 : ST, Eq15 s s2 → ∃ s' : ST, f_L_triangles_121 s2 (iI (x : Nat)) (iI (c : Nat)) (hsh c X Y W c) (iI ((Q3 (triB X Y W c) c : Nat) : Int)) 1 = some (1, s') ∧ ((10 ≤ c ∧ Eq15 s s') ∨ (c < 10 ∧ TT c (x % 21 : Nat) (x / 21 % 21 : Nat) (x / 441 % 60 : Nat) s s')) := by
    intro s2 k
    obtain ⟨s', e, q⟩ := l_t121 (GS_E k h) (NW_E k hw) hx
    refine ⟨s', e, ?_⟩
    rcases q with ⟨q1, q2⟩ | ⟨q1, q2⟩
    · exact Or.inl ⟨q1, E_tr k q2⟩
    · exact Or.inr ⟨q1, TT_E k q2⟩
  have k12 := E_tr k1 k2
  unfold g_L_triangles_16
  rw [if_pos (show iI (c : Nat) ≤ iI (c : Nat) by rw [iI_le] <;> omega), e2, bnd2_some, if_pos (by rw [hT])]
  by_cases h3 : c < 3
  · rw [if_pos (show iI (c : Nat) < 3 by rw [q_3, iI_lt] <;> omega)]
    exact fin s2 k12
  · rw [if_neg (show ¬ iI (c : Nat) < 3 by rw [q_3, iI_lt] <;> omega)]
    obtain ⟨s3, k3, e3⟩ := q_tri h2 (i := 0) (j := 1) (k := 2) (by omega) (by omega) (by omega)
    have h3' := GS_E k3 h2
    obtain ⟨s4, k4, e4⟩ := q_tri h3' (i := 2) (j := 0) (k := 1) (by omega) (by omega) (by omega)
    have h4 := GS_E k4 h3'
    obtain ⟨s5, k5, e5⟩ := q_tri h4 (i := 1) (j := 1) (k := 2) (by omega) (by omega) (by omega)
    have e3' : F_X5_isTriangle s2 0 1 2 = _ := e3
    have e4' : F_X5_isTriangle s3 2 0 1 = _ := e4
    have e5' : F_X5_isTriangle s4 1 1 2 = _ := e5
    rw [e3', bnd2_some, e4', bnd2_some, if_pos (by rw [triB_rot]), e5', bnd2_some, triB_11, if_pos (by decide)]
    exact fin s5 (E_tr k12 (E_tr k3 (E_tr k4 k5)))
end TRL
