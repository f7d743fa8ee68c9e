/-! ===== sites: what the decompiled functions of both sides answer ===== -/
def pw (X Y W : Nat → Int) (i : Nat) (a b : Int) : Int := (a - X i) * (a - X i) + (b - Y i) * (b - Y i) - W i
def BD (c : Nat) (X Y W : Nat → Int) : Prop := c ≤ 10 ∧ ∀ i, (0 ≤ X i ∧ X i ≤ 20) ∧ (0 ≤ Y i ∧ Y i ≤ 20) ∧ 0 ≤ W i ∧ W i ≤ 400
def RS (c : Nat) (X Y W : Nat → Int) (cnt : Int32) (x y w : Nat → Int32) : Prop := cnt = iI c ∧ ∀ i, i < c → x i = iI (X i) ∧ y i = iI (Y i) ∧ w i = iI (W i)
def RM (c : Nat) (X Y W : Nat → Int) (st : Nat → Int32) : Prop := st 0 = iI c ∧ ∀ i, i < c → st (1 + 3 * i) = iI (X i) ∧ st (2 + 3 * i) = iI (Y i) ∧ st (3 + 3 * i) = iI (W i)
theorem sq_b {t : Int} (h1 : -20 ≤ t) (h2 : t ≤ 20) : 0 ≤ t * t ∧ t * t ≤ 400 := by
  have a := Int.mul_nonneg (show 0 ≤ 20 - t by omega) (show 0 ≤ 20 + t by omega)
  have b : 0 ≤ t * t := by
    rcases Int.le_total 0 t with h | h
    · exact Int.mul_nonneg h h
    · have := Int.mul_nonneg (show 0 ≤ -t by omega) (show 0 ≤ -t by omega)
      rwa [Int.neg_mul_neg] at this
  refine ⟨b, ?_⟩
  have e : (20 - t) * (20 + t) = 400 - t * t := by grind
  omega
theorem pw_b {c : Nat} {X Y W : Nat → Int} (h : BD c X Y W) (i : Nat) {a b : Int} (a1 : 0 ≤ a) (a2 : a ≤ 20) (b1 : 0 ≤ b) (b2 : b ≤ 20) : -400 ≤ pw X Y W i a b ∧ pw X Y W i a b ≤ 800 := by
  obtain ⟨⟨x1, x2⟩, ⟨y1, y2⟩, w1, w2⟩ := h.2 i
  have p := sq_b (t := a - X i) (by omega) (by omega)
  have q := sq_b (t := b - Y i) (by omega) (by omega)
  unfold pw
  omega
/-- the first of least value, among the first n that are not left out -/
def own (P : Nat → Int) (sk : Nat → Bool) : Nat → Option Nat
  | 0 => none
  | n + 1 => if sk n = true then own P sk n else match own P sk n with
    | none => some n
    | some b => if P n < P b then some n else some b
def oI (o : Option Nat) (d : Int) : Int := match o with
  | none => d
  | some b => b
theorem own_lt {P : Nat → Int} {sk : Nat → Bool} {n b : Nat} (h : own P sk n = some b) : b < n ∧ sk b = false := by
  induction n generalizing b with
  | zero => cases h
  | succ n ih =>
    unfold own at h
    by_cases h1 : sk n = true
    · rw [if_pos h1] at h
      have := ih h
      exact ⟨by omega, this.2⟩
    · rw [if_neg h1] at h
      cases h2 : own P sk n with
      | none => rw [h2] at h; cases h; exact ⟨by omega, by simpa using h1⟩
      | some b' =>
        rw [h2] at h
        have := ih h2
        by_cases h3 : P n < P b'
        · simp only [if_pos h3] at h; cases h; exact ⟨by omega, by simpa using h1⟩
        · simp only [if_neg h3] at h; cases h; exact ⟨by omega, this.2⟩
theorem own_le {P : Nat → Int} {sk : Nat → Bool} {n b : Nat} (h : own P sk n = some b) : ∀ j, j < n → sk j = false → P b ≤ P j ∧ (P b = P j → b ≤ j) := by
  induction n generalizing b with
  | zero => cases h
  | succ n ih =>
    unfold own at h
    by_cases h1 : sk n = true
    · rw [if_pos h1] at h
      intro j hj hs
      by_cases e : j = n
      · subst e; rw [h1] at hs; cases hs
      · exact ih h j (by omega) hs
    · rw [if_neg h1] at h
      cases h2 : own P sk n with
      | none =>
        rw [h2] at h
        have hb : n = b := Option.some.inj h
        subst hb
        intro j hj hs
        by_cases e : j = n
        · rw [e]; exact ⟨by omega, fun _ => by omega⟩
        · exfalso
          have key : ∀ m, own P sk m = none → ∀ j, j < m → sk j = true := by
            intro m
            induction m with
            | zero => intro _ j hj; omega
            | succ m ihm =>
              intro hm j hj
              unfold own at hm
              by_cases g1 : sk m = true
              · rw [if_pos g1] at hm
                by_cases e2 : j = m
                · subst e2; exact g1
                · exact ihm hm j (by omega)
              · rw [if_neg g1] at hm
                cases g2 : own P sk m with
                | none => rw [g2] at hm; cases hm
                | some b2 => rw [g2] at hm; simp only at hm; split at hm <;> cases hm
          have := key n h2 j (by omega)
          rw [this] at hs; cases hs
      | some b' =>
        rw [h2] at h
        have ihb := ih h2
        have hb' := (own_lt h2).1
        by_cases h3 : P n < P b'
        · simp only [if_pos h3] at h; cases h
          intro j hj hs
          by_cases e : j = n
          · subst e; exact ⟨by omega, fun _ => by omega⟩
          · have := ihb j (by omega) hs
            exact ⟨by omega, fun _ => by omega⟩
        · simp only [if_neg h3] at h; cases h
          intro j hj hs
          by_cases e : j = n
          · subst e; exact ⟨by omega, fun _ => by omega⟩
          · exact ihb j (by omega) hs
theorem own_none {P : Nat → Int} {sk : Nat → Bool} {n : Nat} (h : own P sk n = none) : ∀ j, j < n → sk j = true := by
  induction n with
  | zero => intro j hj; omega
  | succ m ihm =>
    intro j hj
    unfold own at h
    by_cases g1 : sk m = true
    · rw [if_pos g1] at h
      by_cases e2 : j = m
      · subst e2; exact g1
      · exact ihm h j (by omega)
    · rw [if_neg g1] at h
      cases g2 : own P sk m with
      | none => rw [g2] at h; cases h
      | some b2 => rw [g2] at h; simp only at h; split at h <;> cases h
theorem own_iff {P : Nat → Int} {sk : Nat → Bool} {n b : Nat} : own P sk n = some b ↔ b < n ∧ sk b = false ∧ ∀ j, j < n → sk j = false → P b ≤ P j ∧ (P b = P j → b ≤ j) := by
  constructor
  · intro h; exact ⟨(own_lt h).1, (own_lt h).2, own_le h⟩
  · intro ⟨h1, h2, h3⟩
    cases h : own P sk n with
    | none => have := own_none h b h1; rw [this] at h2; cases h2
    | some b' =>
      have g1 := own_lt h
      have g2 := own_le h b h1 h2
      have g3 := h3 b' g1.1 g1.2
      have : b' = b := by omega
      rw [this]
section ZS
variable {c : Nat} {X Y W : Nat → Int} {cnt : Int32} {x y w : Nat → Int32} {st : Nat → Int32}
theorem z_has (hc : c ≤ 10) (p : Int32) : f_X4_has_0 (iI c) p = some (if 0 ≤ p.toInt ∧ p.toInt < c then 1 else 0) := by
  obtain ⟨z, h1, h2, rfl⟩ := i_ex p
  unfold f_X4_has_0
  simp (disch := omega) only [q_0, iI_lt, iI_le, iI_toInt]
  by_cases a : z < 0
  · rw [if_pos a, if_neg (by omega)]
  · rw [if_neg a]
    by_cases b : (c : Int) ≤ z
    · rw [if_pos b, if_neg (by omega)]
    · rw [if_neg b, if_pos (by omega)]
theorem z_sq (hR : RS c X Y W cnt x y w) (hc : c ≤ 10) {i : Nat} (hi : i < c) (a b : Int) : f_X4_squareTo_0 x y (iI i) (iI a) (iI b) = some (iI ((a - X i) * (a - X i) + (b - Y i) * (b - Y i))) := by
  unfold f_X4_squareTo_0
  simp (disch := omega) only [gIx_iI, nm_eq, iI_clN, (hR.2 i hi).1, (hR.2 i hi).2.1, iI_sub, iI_mul, iI_add]
theorem z_power (hR : RS c X Y W cnt x y w) (hc : c ≤ 10) {i : Nat} (hi : i < c) (a b : Int) : f_X4_power_0 x y w (iI i) (iI a) (iI b) = some (iI (pw X Y W i a b)) := by
  unfold f_X4_power_0
  rw [z_sq hR hc hi]
  simp (disch := omega) only [bnd_some, gIx_iI, iI_clN, (hR.2 i hi).2.2, iI_sub]
  rfl
theorem z_ownW_loop (hR : RS c X Y W cnt x y w) (hB : BD c X Y W) (left : Int32) {a b : Int} (a1 : 0 ≤ a) (a2 : a ≤ 20) (b1 : 0 ≤ b) (b2 : b ≤ 20) (P : Nat → Int) (hPd : P = fun i => pw X Y W i a b) (sk : Nat → Bool) (hsk : sk = fun (i : Nat) => decide (iI i = left)) :
    ∀ (d i n : Nat) (bp : Int32), i + d = c → d < n → (∀ k, own P sk i = some k → bp = iI (P k)) → f_X4_ownerWithout_9 (iI c) x y w n left (iI a) (iI b) (iI (oI (own P sk i) (-1))) bp (iI i) = some (iI (oI (own P sk c) (-1))) := by
  have hc : c ≤ 10 := hB.1
  intro d
  induction d with
  | zero =>
    intro i n bp hi hn hbp
    obtain ⟨n, rfl⟩ : ∃ k, n = k + 1 := ⟨n - 1, by omega⟩
    show g_X4_ownerWithout_9 _ _ _ _ _ _ _ _ _ _ _ = _
    unfold g_X4_ownerWithout_9
    have e : i = c := by omega
    subst e
    rw [if_pos (by rw [iI_le] <;> omega)]
  | succ d ih =>
    intro i n bp hi hn hbp
    obtain ⟨n, rfl⟩ : ∃ k, n = k + 1 := ⟨n - 1, by omega⟩
    show g_X4_ownerWithout_9 _ _ _ _ (f_X4_ownerWithout_9 (iI c) x y w n) _ _ _ _ _ _ = _
    unfold g_X4_ownerWithout_9
    rw [if_neg (by rw [iI_le] <;> omega)]
    have e1 : iI i + (1 : Int32) = iI ((i + 1 : Nat) : Int) := by rw [q_1, iI_add]; rfl
    rw [e1]
    by_cases h1 : iI i = left
    · rw [if_pos h1]
      have e2 : own P sk (i + 1) = own P sk i := by
        rw [own, if_pos (by rw [hsk]; simpa using h1)]
      have := ih (i + 1) n bp (by omega) (by omega) (fun k hk => hbp k (by rw [← e2]; exact hk))
      rw [e2] at this
      exact this
    · rw [if_neg h1, z_power hR hc (by omega), bnd_some]
      have hs : ¬ sk i = true := by rw [hsk]; simpa using h1
      have hPi : pw X Y W i a b = P i := by rw [hPd]
      rw [hPi]
      have bi := pw_b hB i a1 a2 b1 b2
      rw [hPi] at bi
      cases h2 : own P sk i with
      | none =>
        rw [if_pos (by show iI (-1) = -1; rfl)]
        have e2 : own P sk (i + 1) = some i := by rw [own, if_neg hs, h2]
        have := ih (i + 1) n (iI (P i)) (by omega) (by omega) (fun k hk => by rw [e2] at hk; cases hk; rfl)
        rw [e2] at this
        exact this
      | some k =>
        have hk := own_lt h2
        have bk := pw_b hB k a1 a2 b1 b2
        have hPk : pw X Y W k a b = P k := by rw [hPd]
        rw [hPk] at bk
        rw [if_neg (by show ¬ iI (k : Int) = iI (-1); rw [iI_eq] <;> omega)]
        rw [hbp k h2]
        by_cases h3 : P i < P k
        · rw [if_neg (by rw [iI_le] <;> omega)]
          have e2 : own P sk (i + 1) = some i := by rw [own, if_neg hs, h2]; simp only [if_pos h3]
          have := ih (i + 1) n (iI (P i)) (by omega) (by omega) (fun k hk => by rw [e2] at hk; cases hk; rfl)
          rw [e2] at this
          exact this
        · rw [if_pos (by rw [iI_le] <;> omega)]
          have e2 : own P sk (i + 1) = some k := by rw [own, if_neg hs, h2]; simp only [if_neg h3]
          have := ih (i + 1) n (iI (P k)) (by omega) (by omega) (fun k' hk => by rw [e2] at hk; cases hk; rfl)
          rw [e2] at this
          exact this
theorem z_ownW (hR : RS c X Y W cnt x y w) (hB : BD c X Y W) (left : Int32) {a b : Int} (a1 : 0 ≤ a) (a2 : a ≤ 20) (b1 : 0 ≤ b) (b2 : b ≤ 20) : f_X4_ownerWithout_0 cnt x y w left (iI a) (iI b) = some (iI (oI (own (fun i => pw X Y W i a b) (fun (i : Nat) => decide (iI i = left)) c) (-1))) := by
  rw [hR.1]
  have hc := hB.1
  have := z_ownW_loop hR hB left a1 a2 b1 b2 _ rfl _ rfl c 0 fuel 0 (by omega) (by unfold fuel; omega) (fun k hk => by cases hk)
  exact this
abbrev ownr (X Y W : Nat → Int) (c : Nat) (a b : Int) : Option Nat := own (fun i => pw X Y W i a b) (fun _ => false) c
theorem own_congr {P Q : Nat → Int} {s t : Nat → Bool} {n : Nat} (h1 : ∀ i, i < n → P i = Q i) (h2 : ∀ i, i < n → s i = t i) : own P s n = own Q t n := by
  induction n with
  | zero => rfl
  | succ n ih =>
    have e := ih (fun i hi => h1 i (by omega)) (fun i hi => h2 i (by omega))
    rw [own, own, e, h2 n (by omega), h1 n (by omega)]
    cases h : own Q t n with
    | none => rfl
    | some b =>
      have := (own_lt h).1
      simp only [h1 b (by omega)]
theorem z_ownAt (hR : RS c X Y W cnt x y w) (hB : BD c X Y W) {a b : Int} (a1 : 0 ≤ a) (a2 : a ≤ 20) (b1 : 0 ≤ b) (b2 : b ≤ 20) : f_X4_ownerAt_0 cnt x y w (iI a) (iI b) = some (iI (oI (ownr X Y W c a b) (-1))) := by
  have hc := hB.1
  unfold f_X4_ownerAt_0
  rw [z_ownW hR hB (-1) a1 a2 b1 b2, bnd_some]
  rw [own_congr (t := fun _ => false) (fun _ _ => rfl) (fun i hi => by
    have : ¬ iI (i : Int) = -1 := by show ¬ iI (i : Int) = iI (-1); rw [iI_eq] <;> omega
    simpa using this)]
end ZS
