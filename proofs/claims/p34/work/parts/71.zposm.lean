section ZPM
variable {c : Nat} {X Y W : Nat → Int} {cnt : Int32} {x y w : Nat → Int32} {st : Nat → Int32}
variable {s : Nat} {ox oy oo : Nat → Nat} {sn : Int32} {rx ry ro : Nat → Int32}
/-- an observation holds for a weight of the site -/
def obOK (X Y W : Nat → Int) (c : Nat) (ox oy oo : Nat → Nat) (j : Nat) : Prop := ownr X Y W c (ox j : Nat) (oy j : Nat) = some (oo j)
theorem eq_ob {a b : Int} {o : Nat} (hc : c ≤ 10) (ho : o ≤ 9) : iI (oI (ownr X Y W c a b) (-9)) = iI (o : Nat) ↔ ownr X Y W c a b = some o := by
  cases hw : ownr X Y W c a b with
  | none =>
    constructor
    · intro h
      have h' : iI (-9) = iI (o : Nat) := h
      rw [iI_eq (by omega) (by omega) (by omega) (by omega)] at h'
      omega
    · intro h; cases h
  | some q =>
    have hq : q < c := (own_lt hw).1
    constructor
    · intro h
      have h' : iI (q : Nat) = iI (o : Nat) := h
      rw [iI_eq (by omega) (by omega) (by omega) (by omega)] at h'
      rw [show q = o by omega]
    · intro h; cases h; rfl
theorem z_mag (hB : BD c X Y W) (hO : OBS s ox oy oo) (hS : ROB s ox oy oo sn rx ry ro) {cp : Nat → Int32} (hM : RM c X Y W cp) (k54 : Int32 → (Nat → Int32) → Int32 → Int32 → Int32 → Int32 → Int32 → Int32 → Option R_X6_possibleWeights) (t x1 x2 x3 x4 x5 x6 : Int32) :
    ∀ (e k n : Nat), k + e = s → e + 1 < n → (∀ j, j < k → obOK X Y W c ox oy oo j) → ∃ r : Int32, f_X6_possibleWeights_80 k54 sn st rx ry ro n t cp x1 x2 x3 x4 x5 x6 1 (iI k) = f_X6_possibleWeights_138 k54 sn st rx ry ro t cp x1 x2 x3 x4 x5 x6 r ∧ ((r = 1 ∧ ∀ j, j < s → obOK X Y W c ox oy oo j) ∨ (r = 0 ∧ ¬ ∀ j, j < s → obOK X Y W c ox oy oo j)) := by
  have hc := hB.1
  have hs := hO.1
  intro e
  induction e with
  | zero =>
    intro k n hk hn hok
    obtain ⟨n, rfl⟩ : ∃ k, n = k + 1 := ⟨n - 1, by omega⟩
    have e : k = s := by omega
    subst e
    refine ⟨1, ?_, Or.inl ⟨rfl, hok⟩⟩
    have key : ∀ u, f_X6_possibleWeights_80 k54 sn st rx ry ro (n + 1) t cp x1 x2 x3 x4 x5 x6 1 u = g_X6_possibleWeights_80 k54 sn st rx ry ro (f_X6_possibleWeights_80 k54 sn st rx ry ro n) t cp x1 x2 x3 x4 x5 x6 1 u := fun _ => rfl
    rw [key]
    unfold g_X6_possibleWeights_80
    rw [if_pos (by rw [hS.1, iI_le] <;> omega)]
  | succ e ih =>
    intro k n hk hn hok
    obtain ⟨n, rfl⟩ : ∃ k, n = k + 1 := ⟨n - 1, by omega⟩
    have key : ∀ n z u, f_X6_possibleWeights_80 k54 sn st rx ry ro (n + 1) t cp x1 x2 x3 x4 x5 x6 z u = g_X6_possibleWeights_80 k54 sn st rx ry ro (f_X6_possibleWeights_80 k54 sn st rx ry ro n) t cp x1 x2 x3 x4 x5 x6 z u := fun _ _ _ => rfl
    rw [key]
    unfold g_X6_possibleWeights_80
    obtain ⟨b1, b2, b3⟩ := hO.2 k (by omega)
    obtain ⟨c1, c2, c3⟩ := hS.2 k (by omega)
    rw [if_neg (by rw [hS.1, iI_le] <;> omega), if_neg (by decide), gIx_iI (by omega) (by omega) (by omega), iI_clN (by omega), c1, c2, c3, z_mown hM hB (by omega) (by omega) (by omega) (by omega), bnd_some, iI_p1]
    by_cases h : ownr X Y W c (ox k : Nat) (oy k : Nat) = some (oo k)
    · rw [if_pos ((eq_ob hc b3).mpr h)]
      exact ih (k + 1) n (by omega) (by omega) (fun j hj => by
        by_cases ej : j = k
        · rw [ej]; exact h
        · exact hok j (by omega))
    · rw [if_neg (fun q => h ((eq_ob hc b3).mp q))]
      obtain ⟨n, rfl⟩ : ∃ k, n = k + 1 := ⟨n - 1, by omega⟩
      rw [key]
      unfold g_X6_possibleWeights_80
      refine ⟨0, ?_, Or.inr ⟨rfl, fun q => h (q k (by omega))⟩⟩
      rw [if_pos (show (0 : Int32) = 0 from rfl)]
      exact ite_self _
end ZPM
