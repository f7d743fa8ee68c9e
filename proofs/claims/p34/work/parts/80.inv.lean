/-! ===== the invariant ===== -/
/-- the same sites on both sides -/
def SameS (cnt : Int32) (x y w : Nat → Int32) (st : Nat → Int32) : Prop := ∃ (c : Nat) (X Y W : Nat → Int), BD c X Y W ∧ RS c X Y W cnt x y w ∧ RM c X Y W st
def IV : InvT := fun xl xc cnt x y w nw rem filled sn sx sy so σ τ ml mt st mrem mh ms mused mob msx msy mss =>
  SameS cnt x y w st ∧
  (∃ n : Nat, n ≤ 80 ∧ xl = iI (n : Nat) ∧ ml = iI (n : Nat) ∧ ∀ k, k < n → xc k = mt k ∧ ∃ z : Int, 0 ≤ z ∧ z ≤ 255 ∧ xc k = iI z) ∧
  (∃ h n : Nat, h ≤ 14 ∧ n < 14 ∧ nw = iI (n : Nat) ∧ rem = iI (h : Nat) ∧ mrem = iI (h : Nat) ∧ ∀ j, j < h → SameS (σ ((n + 14 - j) % 14)).1 (σ ((n + 14 - j) % 14)).2.1 (σ ((n + 14 - j) % 14)).2.2.1 (σ ((n + 14 - j) % 14)).2.2.2 (fun k => mh (31 * (h - 1 - j) + k))) ∧
  (∀ g, g < 2 → (filled g = 0 ∧ mused g = 0) ∨ (filled g = 1 ∧ mused g = 1 ∧ SameS (τ g).1 (τ g).2.1 (τ g).2.2.1 (τ g).2.2.2 (fun k => ms (31 * g + k)))) ∧
  ∃ (s : Nat) (ox oy oo : Nat → Nat), OBS s ox oy oo ∧ ROB s ox oy oo sn sx sy so ∧ ROB s ox oy oo mob msx msy mss
theorem hs_IV : HS IV := by
  intro _ _ _ _ _ _ _ _ _ _ _ _ _ _ _ _ _ _ _ _ _ _ _ _ _ _ h
  exact h.1
theorem ho_IV : HO IV := by
  intro _ _ _ _ _ _ _ _ _ _ _ _ _ _ _ _ _ _ _ _ _ _ _ _ _ _ h
  exact h.2.2.2.2
abbrev inv0 (Inv : InvT) : Prop := Inv (0 : Int32) (fun _ => 0) (0 : Int32) (fun _ => 0) (fun _ => 0) (fun _ => 0) (0 : Int32) (0 : Int32) (fun _ => 0) (0 : Int32) (fun _ => 0) (fun _ => 0) (fun _ => 0) (fun _ => z4) (fun _ => z4) 0 (fun _ => 0) (fun _ => 0) 0 (fun _ => 0) (fun _ => 0) (fun _ => 0) 0 (fun _ => 0) (fun _ => 0) (fun _ => 0)
theorem inv0_IV : inv0 IV := by
  refine ⟨⟨0, fun _ => 0, fun _ => 0, fun _ => 0, ⟨by omega, fun i => by simp only; omega⟩, ⟨rfl, fun i hi => by omega⟩, ⟨rfl, fun i hi => by omega⟩⟩, ⟨0, by omega, rfl, rfl, fun k hk => by omega⟩, ⟨0, 0, by omega, by omega, rfl, rfl, rfl, fun j hj => by omega⟩, fun g hg => Or.inl ⟨rfl, rfl⟩, 0, fun _ => 0, fun _ => 0, fun _ => 0, ⟨by omega, fun k hk => by omega⟩, ⟨rfl, fun k hk => by omega⟩, ⟨rfl, fun k hk => by omega⟩⟩
theorem o25_IV : op_25 IV := by
  intro _ _ _ _ _ _ _ _ _ _ _ _ _ _ _ _ _ _ _ _ _ _ _ _ _ _ t hI
  obtain ⟨h1, h2, h3, h4, s, ox, oy, oo, hO, hS, hS2⟩ := hI
  unfold f_X5_clearObservations_0 f_X6_clearObservations_0
  rw [hS.1, hS2.1]
  exact ⟨_, _, _, _, rfl, rfl, h1, h2, h3, h4, 0, ox, oy, oo, ⟨by omega, fun k hk => by omega⟩, ⟨rfl, fun k hk => by omega⟩, ⟨rfl, fun k hk => by omega⟩⟩
theorem o1_IV : op_1 IV := by
  intro _ _ _ _ _ _ _ _ _ _ _ _ _ _ _ _ _ _ _ _ _ _ _ _ _ _ t hI
  obtain ⟨h1, ⟨n, n1, n2, n3, n4⟩, h3⟩ := hI
  unfold f_X5_clearText_0 f_X6_clearText_0
  rw [n2, n3]
  exact ⟨_, _, _, _, rfl, rfl, h1, ⟨0, by omega, rfl, rfl, fun k hk => by omega⟩, h3⟩
