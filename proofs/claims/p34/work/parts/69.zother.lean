/-! ===== who owns a point when a site's weight changes ===== -/
section ZOT
variable {c : Nat} {X Y W : Nat → Int} {cnt : Int32} {x y w : Nat → Int32} {st : Nat → Int32} {a b : Int}
/-- the owner among the other sites -/
def wo (X Y W : Nat → Int) (c i : Nat) (a b : Int) : Option Nat := own (fun j => pw X Y W j a b) (fun j => decide (j = i)) c
theorem z_wo (hR : RS c X Y W cnt x y w) (hB : BD c X Y W) {i : Nat} (hi : i < c) (a1 : 0 ≤ a) (a2 : a ≤ 20) (b1 : 0 ≤ b) (b2 : b ≤ 20) : f_X4_ownerWithout_0 cnt x y w (iI i) (iI a) (iI b) = some (iI (oI (wo X Y W c i a b) (-1))) := by
  have hc := hB.1
  rw [z_ownW hR hB (iI i) a1 a2 b1 b2]
  unfold wo
  rw [own_congr (t := fun j => decide (j = i)) (fun _ _ => rfl) (fun j hj => by
    refine decide_eq_decide.mpr ?_
    rw [iI_eq (by omega) (by omega) (by omega) (by omega)]
    omega)]
theorem own_other {i o : Nat} (hi : i < c) (hne : o ≠ i) {v : Int} (hv : 0 ≤ v) : ownr X Y (setW W i v) c a b = some o ↔ wo X Y W c i a b = some o ∧ v < wtoN X Y W i a b c := by
  have pj : ∀ j, j ≠ i → pw X Y (setW W i v) j a b = pw X Y W j a b := by
    intro j hj
    unfold pw setW
    rw [if_neg hj]
  have hw := own_wto (X := X) (Y := Y) (W := W) (a := a) (b := b) hi hv
  constructor
  · intro h
    refine ⟨?_, ?_⟩
    · unfold wo
      obtain ⟨h1, -, h2⟩ := own_iff.mp h
      refine own_iff.mpr ⟨h1, decide_eq_false hne, fun j hj hs => ?_⟩
      have hji : j ≠ i := of_decide_eq_false hs
      have := h2 j hj rfl
      simp only [pj j hji, pj o hne] at this
      exact this
    · rcases Int.lt_or_le v (wtoN X Y W i a b c) with q | q
      · exact q
      · exfalso
        rw [hw.mpr q] at h
        cases h
        exact hne rfl
  · rintro ⟨h1, h2⟩
    unfold wo at h1
    obtain ⟨g1, -, g2⟩ := own_iff.mp h1
    refine own_iff.mpr ⟨g1, rfl, fun j hj _ => ?_⟩
    by_cases e : j = i
    · subst e
      by_cases q : pw X Y (setW W j v) o a b ≤ pw X Y (setW W j v) j a b ∧ (pw X Y (setW W j v) o a b = pw X Y (setW W j v) j a b → o ≤ j)
      · exact q
      · exfalso
        have : ownr X Y (setW W j v) c a b = some j := by
          refine own_iff.mpr ⟨hj, rfl, fun k hk _ => ?_⟩
          by_cases ek : k = j
          · subst ek; omega
          · have := g2 k hk (decide_eq_false ek)
            rw [← pj k ek, ← pj o hne] at this
            omega
        have := hw.mp this
        omega
    · have := g2 j hj (decide_eq_false e)
      simp only [pj j e, pj o hne]
      exact this
end ZOT
