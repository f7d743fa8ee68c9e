/-! ===== possibleWeights, the class's side ===== -/
section ZPO
variable {c : Nat} {X Y W : Nat → Int} {cnt : Int32} {x y w : Nat → Int32} {st : Nat → Int32}
def OBS (s : Nat) (ox oy oo : Nat → Nat) : Prop := s ≤ 6 ∧ ∀ k, k < s → ox k ≤ 20 ∧ oy k ≤ 20 ∧ oo k ≤ 9
def ROB (s : Nat) (ox oy oo : Nat → Nat) (n : Int32) (rx ry ro : Nat → Int32) : Prop := n = iI (s : Nat) ∧ ∀ k, k < s → rx k = iI (ox k : Nat) ∧ ry k = iI (oy k : Nat) ∧ ro k = iI (oo k : Nat)
variable {s : Nat} {ox oy oo : Nat → Nat} {sn : Int32} {rx ry ro : Nat → Int32}
theorem z_small (hR : RS c X Y W cnt x y w) (hB : BD c X Y W) (hO : OBS s ox oy oo) (hS : ROB s ox oy oo sn rx ry ro) {i : Nat} (hi : i < c) :
    ∀ (e k n : Nat) (acc : Int), k + e = s → e < n → 0 ≤ acc → acc ≤ 1201 → ∃ r : Int, f_X5_smallestPossibleWeight_4 sn ro rx ry cnt x y w n (iI i) (iI acc) (iI k) = some (iI r) ∧ (0 ≤ r ∧ r ≤ 1201) ∧ ∀ v : Int, r ≤ v ↔ acc ≤ v ∧ ∀ j, k ≤ j → j < s → oo j = i → wtoN X Y W i (ox j : Nat) (oy j : Nat) c ≤ v := by
  have hc := hB.1
  have hs := hO.1
  intro e
  induction e with
  | zero =>
    intro k n acc hk hn a1 a2
    obtain ⟨n, rfl⟩ : ∃ k, n = k + 1 := ⟨n - 1, by omega⟩
    refine ⟨acc, ?_, ⟨a1, a2⟩, fun v => ⟨fun h => ⟨h, fun j h1 h2 => by omega⟩, fun h => h.1⟩⟩
    have key : ∀ u v, f_X5_smallestPossibleWeight_4 sn ro rx ry cnt x y w (n + 1) (iI i) u v = g_X5_smallestPossibleWeight_4 sn ro rx ry cnt x y w (f_X5_smallestPossibleWeight_4 sn ro rx ry cnt x y w n) (iI i) u v := fun _ _ => rfl
    rw [key]
    unfold g_X5_smallestPossibleWeight_4
    rw [if_pos (by rw [hS.1, iI_le] <;> omega)]
  | succ e ih =>
    intro k n acc hk hn a1 a2
    obtain ⟨n, rfl⟩ : ∃ k, n = k + 1 := ⟨n - 1, by omega⟩
    have key : ∀ u v, f_X5_smallestPossibleWeight_4 sn ro rx ry cnt x y w (n + 1) (iI i) u v = g_X5_smallestPossibleWeight_4 sn ro rx ry cnt x y w (f_X5_smallestPossibleWeight_4 sn ro rx ry cnt x y w n) (iI i) u v := fun _ _ => rfl
    rw [key]
    unfold g_X5_smallestPossibleWeight_4
    obtain ⟨b1, b2, b3⟩ := hO.2 k (by omega)
    obtain ⟨c1, c2, c3⟩ := hS.2 k (by omega)
    rw [if_neg (by rw [hS.1, iI_le] <;> omega), gIx_iI (by omega) (by omega) (by omega), iI_clN (by omega), c1, c2, c3, iI_p1]
    by_cases ho : oo k = i
    · rw [if_pos (by rw [ho]), z_wto hR hB hi (by omega) (by omega) (by omega) (by omega), bnd_some, nm_eq]
      have wb := wtoN_b hB i (a := (ox k : Nat)) (b := (oy k : Nat)) (by omega) (by omega) (by omega) (by omega) c
      rw [mxI_iI (by omega) (by omega) (by omega) (by omega)]
      obtain ⟨r, e1, r1, r2⟩ := ih (k + 1) n (max acc (wtoN X Y W i (ox k : Nat) (oy k : Nat) c)) (by omega) (by omega) (by omega) (by omega)
      refine ⟨r, e1, r1, fun v => ?_⟩
      rw [r2]
      constructor
      · rintro ⟨h1, h2⟩
        refine ⟨by omega, fun j h3 h4 h5 => ?_⟩
        by_cases ej : j = k
        · rw [ej]; omega
        · exact h2 j (by omega) h4 h5
      · rintro ⟨h1, h2⟩
        have := h2 k (by omega) (by omega) ho
        exact ⟨by omega, fun j h3 h4 h5 => h2 j (by omega) h4 h5⟩
    · rw [if_neg (by rw [iI_eq] <;> omega)]
      obtain ⟨r, e1, r1, r2⟩ := ih (k + 1) n acc (by omega) (by omega) a1 a2
      refine ⟨r, e1, r1, fun v => ?_⟩
      rw [r2]
      constructor
      · rintro ⟨h1, h2⟩
        refine ⟨h1, fun j h3 h4 h5 => ?_⟩
        by_cases ej : j = k
        · exact absurd (ej ▸ h5) ho
        · exact h2 j (by omega) h4 h5
      · rintro ⟨h1, h2⟩
        exact ⟨h1, fun j h3 h4 h5 => h2 j (by omega) h4 h5⟩
/-- an observation of another site holds for a weight -/
def othOK (X Y W : Nat → Int) (c i : Nat) (ox oy oo : Nat → Nat) (v : Int) (j : Nat) : Prop := wo X Y W c i (ox j : Nat) (oy j : Nat) = some (oo j) ∧ v < wtoN X Y W i (ox j : Nat) (oy j : Nat) c
theorem z_great (hR : RS c X Y W cnt x y w) (hB : BD c X Y W) (hO : OBS s ox oy oo) (hS : ROB s ox oy oo sn rx ry ro) {i : Nat} (hi : i < c) :
    ∀ (e k n : Nat) (acc : Int), k + e = s → e < n → -1 ≤ acc → acc ≤ 400 → ∃ r : Int, f_X5_greatestPossibleWeight_6 sn ro rx ry cnt x y w n (iI i) (iI acc) (iI k) = some (iI r) ∧ (-1 ≤ r ∧ r ≤ 400) ∧ ∀ v : Int, 0 ≤ v → (v ≤ r ↔ v ≤ acc ∧ ∀ j, k ≤ j → j < s → oo j ≠ i → othOK X Y W c i ox oy oo v j) := by
  have hc := hB.1
  have hs := hO.1
  intro e
  induction e with
  | zero =>
    intro k n acc hk hn a1 a2
    obtain ⟨n, rfl⟩ : ∃ k, n = k + 1 := ⟨n - 1, by omega⟩
    refine ⟨acc, ?_, ⟨a1, a2⟩, fun v _ => ⟨fun h => ⟨h, fun j h1 h2 => by omega⟩, fun h => h.1⟩⟩
    have key : ∀ u v, f_X5_greatestPossibleWeight_6 sn ro rx ry cnt x y w (n + 1) (iI i) u v = g_X5_greatestPossibleWeight_6 sn ro rx ry cnt x y w (f_X5_greatestPossibleWeight_6 sn ro rx ry cnt x y w n) (iI i) u v := fun _ _ => rfl
    rw [key]
    unfold g_X5_greatestPossibleWeight_6
    rw [if_pos (by rw [hS.1, iI_le] <;> omega)]
  | succ e ih =>
    intro k n acc hk hn a1 a2
    obtain ⟨n, rfl⟩ : ∃ k, n = k + 1 := ⟨n - 1, by omega⟩
    have key : ∀ u v, f_X5_greatestPossibleWeight_6 sn ro rx ry cnt x y w (n + 1) (iI i) u v = g_X5_greatestPossibleWeight_6 sn ro rx ry cnt x y w (f_X5_greatestPossibleWeight_6 sn ro rx ry cnt x y w n) (iI i) u v := fun _ _ => rfl
    rw [key]
    unfold g_X5_greatestPossibleWeight_6
    obtain ⟨b1, b2, b3⟩ := hO.2 k (by omega)
    obtain ⟨c1, c2, c3⟩ := hS.2 k (by omega)
    rw [if_neg (by rw [hS.1, iI_le] <;> omega), gIx_iI (by omega) (by omega) (by omega), iI_clN (by omega), c1, c2, c3, iI_p1]
    by_cases ho : oo k = i
    · rw [if_pos (by rw [ho])]
      obtain ⟨r, e1, r1, r2⟩ := ih (k + 1) n acc (by omega) (by omega) a1 a2
      refine ⟨r, e1, r1, fun v hv => ?_⟩
      rw [r2 v hv]
      constructor
      · rintro ⟨h1, h2⟩
        refine ⟨h1, fun j h3 h4 h5 => ?_⟩
        by_cases ej : j = k
        · exact absurd (ej ▸ ho) h5
        · exact h2 j (by omega) h4 h5
      · rintro ⟨h1, h2⟩
        exact ⟨h1, fun j h3 h4 h5 => h2 j (by omega) h4 h5⟩
    · rw [if_neg (by rw [iI_eq] <;> omega), z_wo hR hB hi (by omega) (by omega) (by omega) (by omega), bnd_some]
      have wb := wtoN_b hB i (a := (ox k : Nat)) (b := (oy k : Nat)) (by omega) (by omega) (by omega) (by omega) c
      have eqo : iI (oI (wo X Y W c i (ox k : Nat) (oy k : Nat)) (-1)) = iI (oo k : Nat) ↔ wo X Y W c i (ox k : Nat) (oy k : Nat) = some (oo k) := by
        cases hw : wo X Y W c i (ox k : Nat) (oy k : Nat) with
        | none =>
          constructor
          · intro h
            have h' : iI (-1) = iI (oo k : Nat) := h
            rw [iI_eq (by omega) (by omega) (by omega) (by omega)] at h'
            omega
          · intro h; cases h
        | some q =>
          have hq : q < c := (own_lt hw).1
          constructor
          · intro h
            have h' : iI (q : Nat) = iI (oo k : Nat) := h
            rw [iI_eq (by omega) (by omega) (by omega) (by omega)] at h'
            rw [show q = oo k by omega]
          · intro h; cases h; rfl
      by_cases hw : wo X Y W c i (ox k : Nat) (oy k : Nat) = some (oo k)
      · rw [if_pos (eqo.mpr hw), z_wto hR hB hi (by omega) (by omega) (by omega) (by omega), bnd_some, nm_eq, q_1, iI_sub, mnI_iI (by omega) (by omega) (by omega) (by omega)]
        obtain ⟨r, e1, r1, r2⟩ := ih (k + 1) n (min acc (wtoN X Y W i (ox k : Nat) (oy k : Nat) c - 1)) (by omega) (by omega) (by omega) (by omega)
        refine ⟨r, e1, r1, fun v hv => ?_⟩
        rw [r2 v hv]
        constructor
        · rintro ⟨h1, h2⟩
          refine ⟨by omega, fun j h3 h4 h5 => ?_⟩
          by_cases ej : j = k
          · rw [ej]; exact ⟨hw, by omega⟩
          · exact h2 j (by omega) h4 h5
        · rintro ⟨h1, h2⟩
          have := (h2 k (by omega) (by omega) ho).2
          exact ⟨by omega, fun j h3 h4 h5 => h2 j (by omega) h4 h5⟩
      · rw [if_neg (fun q => hw (eqo.mp q))]
        refine ⟨-1, rfl, by omega, fun v hv => ⟨fun h => by omega, fun h => ?_⟩⟩
        exact absurd (h.2 k (by omega) (by omega) ho).1 hw
end ZPO
