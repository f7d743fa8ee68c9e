/-! ===== observe ===== -/
def up3 (f : Nat → Nat) (s v : Nat) : Nat → Nat := fun k => if k = s then v else f k
theorem ROB_up {s : Nat} {ox oy oo : Nat → Nat} {sn : Int32} {rx ry ro : Nat → Int32} (h : ROB s ox oy oo sn rx ry ro) (a b o : Nat) : ROB (s + 1) (up3 ox s a) (up3 oy s b) (up3 oo s o) (iI (s + 1 : Nat)) (upd rx s (iI (a : Nat))) (upd ry s (iI (b : Nat))) (upd ro s (iI (o : Nat))) := by
  refine ⟨rfl, fun k hk => ?_⟩
  unfold up3
  by_cases e : k = s
  · rw [if_pos e, if_pos e, if_pos e, e, upd_eq, upd_eq, upd_eq]
    exact ⟨rfl, rfl, rfl⟩
  · rw [if_neg e, if_neg e, if_neg e, upd_ne e, upd_ne e, upd_ne e]
    exact h.2 k (by omega)
theorem OBS_up {s : Nat} {ox oy oo : Nat → Nat} (h : OBS s ox oy oo) (hs : s < 6) {a b o : Nat} (ha : a ≤ 20) (hb : b ≤ 20) (ho : o ≤ 9) : OBS (s + 1) (up3 ox s a) (up3 oy s b) (up3 oo s o) := by
  refine ⟨by omega, fun k hk => ?_⟩
  unfold up3
  by_cases e : k = s
  · rw [if_pos e, if_pos e, if_pos e]
    exact ⟨ha, hb, ho⟩
  · rw [if_neg e, if_neg e, if_neg e]
    exact h.2 k (by omega)
theorem o24_IV : op_24 IV := by
  intro _ _ _ _ _ _ _ _ _ _ _ _ _ _ _ _ _ _ _ _ _ _ _ _ _ _ t p q r hI
  have hI0 := hI
  obtain ⟨h1, h2, h3, h4, s, ox, oy, oo, hO, hS, hS2⟩ := hI
  have es := hS.1
  have es2 := hS2.1
  subst es es2
  have hs := hO.1
  unfold f_X5_observe_0 f_X6_observe_0
  rw [z_insq, z_ispt, bnd_some, bnd_some]
  by_cases g1 : (0 ≤ p.toInt ∧ p.toInt ≤ 20) ∧ 0 ≤ q.toInt ∧ q.toInt ≤ 20
  · rw [if_pos g1, if_neg (show ¬ (1 : Int32) = 0 by decide), if_neg (show ¬ (1 : Int32) = 0 by decide)]
    obtain ⟨z, z1, z2, rfl⟩ := i_ex r
    rw [iI_l z1 z2, ql_0, ql_9, z_in _ _ _ (by omega) (by omega) (by omega) (by omega) (by omega) (by omega), bnd_some]
    by_cases g2 : z < 0
    · rw [if_pos (show iI z < 0 by rw [q_0, iI_lt] <;> omega), if_neg (show ¬ ((0 : Int) ≤ z ∧ z ≤ 9) by omega), if_pos rfl]
      exact ⟨_, _, _, _, _, _, _, _, _, _, rfl, rfl, hI0⟩
    · rw [if_neg (show ¬ iI z < 0 by rw [q_0, iI_lt] <;> omega)]
      by_cases g3 : z < 10
      · rw [if_pos (show iI z < 10 by rw [q_10, iI_lt] <;> omega), if_pos (show (0 : Int) ≤ z ∧ z ≤ 9 by omega), if_neg (show ¬ (1 : Int32) = 0 by decide)]
        by_cases g4 : s < 6
        · rw [if_pos (show iI (s : Nat) < 6 by rw [q_6, iI_lt] <;> omega), if_neg (show ¬ iI (s : Nat) = 6 by rw [q_6, iI_eq] <;> omega), gIx_iI (by omega) (by omega) (by omega), gIx_iI (by omega) (by omega) (by omega), nm_eq, nm_eq, iI_clN (by omega), iI_p1]
          obtain ⟨a, ha, rfl⟩ : ∃ a : Nat, a ≤ 20 ∧ p = iI (a : Nat) := ⟨p.toInt.toNat, by omega, by rw [Int.toNat_of_nonneg g1.1.1]; exact iI_of p⟩
          obtain ⟨b, hb, rfl⟩ : ∃ b : Nat, b ≤ 20 ∧ q = iI (b : Nat) := ⟨q.toInt.toNat, by omega, by rw [Int.toNat_of_nonneg g1.2.1]; exact iI_of q⟩
          obtain ⟨o, rfl⟩ : ∃ o : Nat, z = (o : Nat) := ⟨z.toNat, by omega⟩
          exact ⟨_, _, _, _, _, _, _, _, _, _, rfl, rfl, h1, h2, h3, h4, s + 1, _, _, _, OBS_up hO g4 ha hb (by omega), ROB_up hS a b o, ROB_up hS2 a b o⟩
        · rw [if_neg (show ¬ iI (s : Nat) < 6 by rw [q_6, iI_lt] <;> omega), if_pos (show iI (s : Nat) = 6 by rw [show s = 6 by omega]; rfl)]
          exact ⟨_, _, _, _, _, _, _, _, _, _, rfl, rfl, hI0⟩
      · rw [if_neg (show ¬ iI z < 10 by rw [q_10, iI_lt] <;> omega), if_neg (show ¬ ((0 : Int) ≤ z ∧ z ≤ 9) by omega), if_pos rfl]
        exact ⟨_, _, _, _, _, _, _, _, _, _, rfl, rfl, hI0⟩
  · rw [if_neg g1, if_pos rfl, if_pos rfl]
    exact ⟨_, _, _, _, _, _, _, _, _, _, rfl, rfl, hI0⟩
