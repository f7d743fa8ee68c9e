/-! ===== along a segment ===== -/
abbrev S4I : Type := Int × Int × Int × Int
section ZSG
variable {c : Nat} {X Y W : Nat → Int} {cnt : Int32} {x y w : Nat → Int32} {st : Nat → Int32} {a b u v : Int}
def gD (a b u v : Int) (t : Ln) : Int := t.1 * (u - a) + t.2.1 * (v - b)
def gE (a b : Int) (t : Ln) : Int := t.2.2 - t.1 * a - t.2.1 * b
/-- one line cuts the segment -/
def stp (a b u v : Int) (S : S4I) (t : Ln) : Option S4I :=
  if gD a b u v t = 0 then (if gE a b t < 0 then none else some S)
  else if gD a b u v t < 0 then (if (-gE a b t) * S.2.1 ≤ S.1 * (-gD a b u v t) then some S else some (-gE a b t, -gD a b u v t, S.2.2.1, S.2.2.2))
  else (if S.2.2.1 * gD a b u v t ≤ gE a b t * S.2.2.2 then some S else some (S.1, S.2.1, gE a b t, gD a b u v t))
def runS (a b u v : Int) : List Ln → S4I → Option S4I
  | [], S => some S
  | t :: L, S => match stp a b u v S t with
    | none => none
    | some S' => runS a b u v L S'
def finS : Option S4I → Int32
  | none => 0
  | some S => if S.2.2.1 * S.2.1 < S.1 * S.2.2.2 then 0 else 1
def BS (S : S4I) : Prop := (-3000 ≤ S.1 ∧ S.1 ≤ 3000) ∧ (0 < S.2.1 ∧ S.2.1 ≤ 3000) ∧ (-3000 ≤ S.2.2.1 ∧ S.2.2.1 ≤ 3000) ∧ 0 < S.2.2.2 ∧ S.2.2.2 ≤ 3000
/-- the ends of the segment lie in the square -/
def PQ (a b u v : Int) : Prop := ((0 ≤ a ∧ a ≤ 20) ∧ 0 ≤ b ∧ b ≤ 20) ∧ (0 ≤ u ∧ u ≤ 20) ∧ 0 ≤ v ∧ v ≤ 20
theorem gDE_b (h : PQ a b u v) {t : Ln} (ht : BL t) : (-1600 ≤ gD a b u v t ∧ gD a b u v t ≤ 1600) ∧ -2800 ≤ gE a b t ∧ gE a b t ≤ 2800 := by
  obtain ⟨⟨⟨a1, a2⟩, b1, b2⟩, ⟨u1, u2⟩, v1, v2⟩ := h
  obtain ⟨⟨t1, t2⟩, ⟨t3, t4⟩, t5, t6⟩ := ht
  have m1 := mul_b (A := 40) (B := 20) t1 t2 (b := u - a) (by omega) (by omega)
  have m2 := mul_b (A := 40) (B := 20) t3 t4 (b := v - b) (by omega) (by omega)
  have m3 := mul_b (A := 40) (B := 20) t1 t2 (b := a) (by omega) (by omega)
  have m4 := mul_b (A := 40) (B := 20) t3 t4 (b := b) (by omega) (by omega)
  unfold gD gE
  omega
theorem stp_b (h : PQ a b u v) {t : Ln} (ht : BL t) {S S' : S4I} (hS : BS S) (e : stp a b u v S t = some S') : BS S' := by
  have g := gDE_b h ht
  unfold stp at e
  unfold BS at hS ⊢
  split at e
  · split at e
    · cases e
    · cases e; exact hS
  · split at e
    · split at e
      · cases e; exact hS
      · cases e; simp only; omega
    · split at e
      · cases e; exact hS
      · cases e; simp only; omega
theorem pr_b {p q : Int} (h1 : -3000 ≤ p) (h2 : p ≤ 3000) (h3 : -3000 ≤ q) (h4 : q ≤ 3000) : -9000000 ≤ p * q ∧ p * q ≤ 9000000 := by
  have := mul_b (A := 3000) (B := 3000) h1 h2 h3 h4
  omega
theorem z_hso {L : List Ln} {ct : Int32} {ta tb tc : Nat → Int32} (hL : RLn L ct ta tb tc) (hl : L.length ≤ 14) (hB : ∀ t ∈ L, BL t) (h : PQ a b u v) :
    ∀ (e k n : Nat) (S : S4I), k + e = L.length → e < n → BS S → f_X1_holdSomeOf_15 ct ta tb tc n (iI a) (iI b) (iI u) (iI v) (iI S.1) (iI S.2.1) (iI S.2.2.1) (iI S.2.2.2) (iI k) = some (finS (runS a b u v (L.drop k) S)) := by
  intro e
  induction e with
  | zero =>
    intro k n S hk hn hS
    obtain ⟨n, rfl⟩ : ∃ k, n = k + 1 := ⟨n - 1, by omega⟩
    show g_X1_holdSomeOf_15 ct ta tb tc (f_X1_holdSomeOf_15 ct ta tb tc n) (iI a) (iI b) (iI u) (iI v) _ _ _ _ _ = _
    unfold g_X1_holdSomeOf_15
    rw [if_pos (by rw [hL.1, iI_le] <;> omega), List.drop_eq_nil_of_le (by omega), iI_mul, iI_mul]
    obtain ⟨⟨s1, s2⟩, ⟨s3, s4⟩, ⟨s5, s6⟩, s7, s8⟩ := hS
    have p1 := pr_b s5 s6 (q := S.2.1) (by omega) s4
    have p2 := pr_b s1 s2 (q := S.2.2.2) (by omega) s8
    show _ = some (if S.2.2.1 * S.2.1 < S.1 * S.2.2.2 then 0 else 1)
    by_cases q : S.2.2.1 * S.2.1 < S.1 * S.2.2.2
    · rw [if_pos (by rw [iI_lt] <;> omega), if_pos q]
    · rw [if_neg (by rw [iI_lt] <;> omega), if_neg q]
  | succ e ih =>
    intro k n S hk hn hS
    obtain ⟨n, rfl⟩ : ∃ k, n = k + 1 := ⟨n - 1, by omega⟩
    have kl : k < L.length := by omega
    have ht := hB L[k] (List.getElem_mem kl)
    obtain ⟨c1, c2, c3⟩ := hL.2 k L[k] (List.getElem?_eq_getElem kl)
    have g := gDE_b h ht
    have ihS := fun S' (e' : stp a b u v S L[k] = some S') => ih (k + 1) n S' (by omega) (by omega) (stp_b h ht hS e')
    rw [List.drop_eq_getElem_cons kl]
    show g_X1_holdSomeOf_15 ct ta tb tc (f_X1_holdSomeOf_15 ct ta tb tc n) (iI a) (iI b) (iI u) (iI v) _ _ _ _ _ = _
    unfold g_X1_holdSomeOf_15
    rw [if_neg (by rw [hL.1, iI_le] <;> omega), gIx_iI (by omega) (by omega) (by omega), iI_clN (by omega), c1, c2, c3, nm_eq, nm_eq]
    simp only [iI_sub, iI_mul, iI_add]
    show (if iI (gD a b u v L[k]) = 0 then (if (0 : Int32) ≤ iI (gE a b L[k]) then f_X1_holdSomeOf_91 (f_X1_holdSomeOf_15 ct ta tb tc n) ct ta tb tc (iI a) (iI b) (iI u) (iI v) (iI S.1) (iI S.2.1) (iI S.2.2.1) (iI S.2.2.2) (iI k) (iI (gD a b u v L[k])) (iI (gE a b L[k])) else some 0) else f_X1_holdSomeOf_91 (f_X1_holdSomeOf_15 ct ta tb tc n) ct ta tb tc (iI a) (iI b) (iI u) (iI v) (iI S.1) (iI S.2.1) (iI S.2.2.1) (iI S.2.2.2) (iI k) (iI (gD a b u v L[k])) (iI (gE a b L[k]))) = some (finS (match stp a b u v S L[k] with | none => none | some S' => runS a b u v (L.drop (k + 1)) S'))
    unfold f_X1_holdSomeOf_91 f_X1_holdSomeOf_117
    unfold stp at ihS ⊢
    generalize gD a b u v L[k] = D at *
    generalize gE a b L[k] = E at *
    obtain ⟨⟨s1, s2⟩, ⟨s3, s4⟩, ⟨s5, s6⟩, s7, s8⟩ := hS
    have p1 := pr_b (p := -E) (q := S.2.1) (by omega) (by omega) (by omega) s4
    have p2 := pr_b (p := S.1) (q := -D) s1 s2 (by omega) (by omega)
    have p3 := pr_b (p := S.2.2.1) (q := D) s5 s6 (by omega) (by omega)
    have p4 := pr_b (p := E) (q := S.2.2.2) (by omega) (by omega) (by omega) s8
    simp only [nm_eq, iI_neg, iI_mul, iI_p1]
    by_cases hD : D = 0
    · subst hD
      rw [if_pos rfl] at ihS ⊢
      rw [if_pos (show iI 0 = 0 from rfl)]
      by_cases hE : E < 0
      · rw [if_neg (show ¬ (0 : Int32) ≤ iI E by rw [q_0, iI_le] <;> omega), if_pos hE]
        rfl
      · rw [if_neg hE] at ihS ⊢
        rw [if_pos (show (0 : Int32) ≤ iI E by rw [q_0, iI_le] <;> omega), if_pos (show iI 0 ≤ 0 by decide), if_pos (show (0 : Int32) ≤ iI 0 by decide)]
        exact ihS S rfl
    · rw [if_neg hD] at ihS ⊢
      rw [if_neg (show ¬ iI D = 0 by rw [q_0, iI_eq] <;> omega)]
      by_cases hD2 : D < 0
      · rw [if_pos hD2] at ihS ⊢
        rw [if_pos (show iI D ≤ 0 by rw [q_0, iI_le] <;> omega), if_neg (show ¬ (0 : Int32) ≤ iI D by rw [q_0, iI_le] <;> omega)]
        by_cases h3 : (-E) * S.2.1 ≤ S.1 * (-D)
        · rw [if_pos h3] at ihS ⊢
          rw [if_pos (by rw [iI_le] <;> omega)]
          exact ihS S rfl
        · rw [if_neg h3] at ihS ⊢
          rw [if_neg (by rw [iI_le] <;> omega)]
          exact ihS _ rfl
      · rw [if_neg hD2] at ihS ⊢
        rw [if_neg (show ¬ iI D ≤ 0 by rw [q_0, iI_le] <;> omega)]
        by_cases h3 : S.2.2.1 * D ≤ E * S.2.2.2
        · rw [if_pos h3] at ihS ⊢
          rw [if_pos (show iI (S.2.2.1 * D) ≤ iI (E * S.2.2.2) by rw [iI_le] <;> omega), if_pos (show (0 : Int32) ≤ iI D by rw [q_0, iI_le] <;> omega)]
          exact ihS S rfl
        · rw [if_neg h3] at ihS ⊢
          rw [if_neg (show ¬ iI (S.2.2.1 * D) ≤ iI (E * S.2.2.2) by rw [iI_le] <;> omega), if_pos (show (0 : Int32) ≤ iI D by rw [q_0, iI_le] <;> omega)]
          exact ihS _ rfl
end ZSG
