section ZWE
variable {c : Nat} {X Y W : Nat → Int} {cnt : Int32} {x y w : Nat → Int32} {st : Nat → Int32}
theorem z_assign (p : Nat → Int32) : ∀ (e k n : Nat) (q : Nat → Int32), k + e = 31 → e < n → (∀ j, j < k → q j = p j) → ∃ q' : Nat → Int32, f_X6_assign_2 p n q (iI k) = some q' ∧ ∀ j, (j < 31 → q' j = p j) ∧ (31 ≤ j → q' j = q j) := by
  intro e
  induction e with
  | zero =>
    intro k n q hk hn h
    obtain ⟨n, rfl⟩ : ∃ k, n = k + 1 := ⟨n - 1, by omega⟩
    have e : k = 31 := by omega
    subst e
    have key : ∀ u, f_X6_assign_2 p (n + 1) q u = g_X6_assign_2 p (f_X6_assign_2 p n) q u := fun _ => rfl
    refine ⟨q, ?_, fun j => ⟨fun hj => h j hj, fun _ => rfl⟩⟩
    rw [key]
    unfold g_X6_assign_2
    rw [if_pos (by rw [q_31, iI_le] <;> omega)]
  | succ e ih =>
    intro k n q hk hn h
    obtain ⟨n, rfl⟩ : ∃ k, n = k + 1 := ⟨n - 1, by omega⟩
    have key : ∀ u, f_X6_assign_2 p (n + 1) q u = g_X6_assign_2 p (f_X6_assign_2 p n) q u := fun _ => rfl
    rw [key]
    unfold g_X6_assign_2
    rw [if_neg (by rw [q_31, iI_le] <;> omega), gIx_iI (by omega) (by omega) (by omega), iI_clN (by omega), iI_p1]
    obtain ⟨q', e1, h1⟩ := ih (k + 1) n (upd q k (p k)) (by omega) (by omega) (fun j hj => by
      by_cases e : j = k
      · rw [e, upd_eq]
      · rw [upd_ne e]; exact h j (by omega))
    exact ⟨q', e1, fun j => ⟨(h1 j).1, fun hj => by rw [(h1 j).2 hj, upd_ne (by omega)]⟩⟩
theorem z_asg (p q : Nat → Int32) : ∃ q' : Nat → Int32, f_X6_assign_0 p q = some q' ∧ ∀ j, j < 31 → q' j = p j := by
  unfold f_X6_assign_0
  obtain ⟨q', e, h⟩ := z_assign p 31 0 fuel q (by omega) (by unfold fuel; omega) (fun j hj => by omega)
  exact ⟨q', e, fun j => (h j).1⟩
theorem RM_cp (hM : RM c X Y W st) (hc : c ≤ 10) {q : Nat → Int32} (h : ∀ j, j < 31 → q j = st j) : RM c X Y W q := by
  refine ⟨by rw [h 0 (by omega)]; exact hM.1, fun i hi => ⟨?_, ?_, ?_⟩⟩
  · rw [h _ (by omega)]; exact (hM.2 i hi).1
  · rw [h _ (by omega)]; exact (hM.2 i hi).2.1
  · rw [h _ (by omega)]; exact (hM.2 i hi).2.2
theorem o23 {Inv : InvT} (H : HS Inv) : op_23 Inv := by
  intro _ _ _ _ _ _ _ _ _ _ _ _ _ _ _ _ _ st _ _ _ _ _ _ _ _ pb t cp p q hI
  obtain ⟨c, X, Y, W, hB, hR, hM⟩ := H _ _ _ _ _ _ _ _ _ _ _ _ _ _ _ _ _ _ _ _ _ _ _ _ _ _ hI
  have hc := hB.1
  have ec := hR.1
  subst ec
  unfold f_X5_weightForSize_0 f_X6_weightForSize_0
  rw [z_has hc, z_nosite hM hc, bnd_some, bnd_some]
  by_cases hp : 0 ≤ p.toInt ∧ p.toInt < c
  · rw [if_pos hp, if_pos hp, if_neg (by decide), if_pos rfl]
    obtain ⟨i, hi, rfl⟩ := p_nat hp
    obtain ⟨z, z1, z2, rfl⟩ := i_ex q
    rw [iI_l z1 z2, ql_0, ql_441, z_in _ _ _ (by omega) (by omega) (by omega) (by omega) (by omega) (by omega), bnd_some]
    by_cases h1 : z < 0
    · rw [if_pos (by rw [q_0, iI_lt] <;> omega), if_neg (show ¬ ((0 : Int) ≤ z ∧ z ≤ 441) by omega), if_pos rfl]
      exact ⟨_, _, _, _, rfl, rfl, hI⟩
    · rw [if_neg (by rw [q_0, iI_lt] <;> omega)]
      by_cases h2 : z ≤ 441
      · rw [if_pos (by rw [q_441, iI_le] <;> omega), if_pos (show (0 : Int) ≤ z ∧ z ≤ 441 by omega), if_neg (by decide)]
        unfold f_X5_countPointsByWeight_0
        obtain ⟨arr, e1, hA⟩ := z_cp2 hR hB hi 401 0 fuel pb (by omega) (by unfold fuel; omega) (fun v hv => by omega)
        have e1' : f_X5_countPointsByWeight_2 (iI c) _ _ _ fuel pb (iI i) 0 = _ := e1
        rw [e1', bnd_some]
        obtain ⟨v, hv, e2⟩ := z_wfs37 (cnt := iI c) hB hi hA (show 0 ≤ z by omega) h2 401 0 fuel (by omega) (by unfold fuel; omega) (fun v' hv' => by omega)
        obtain ⟨cp', e3, h3⟩ := z_asg st cp
        rw [e3, bnd_some]
        have hM2 := RM_cp hM hc h3
        rw [← setW_self (W := W) i] at hM2
        obtain ⟨v', hv', cp2, e4⟩ := z_mwfs (st := st) hB hi (show 0 ≤ z by omega) h2 0 401 0 401 fuel (W i) cp' (by omega) (by omega) (by omega) (by unfold fuel; omega) hM2 (fun v' hv' => by omega) (fun q => by omega)
        rw [LW_un hv' hv] at e4
        exact ⟨_, _, _, _, e2, e4, hI⟩
      · rw [if_neg (by rw [q_441, iI_le] <;> omega), if_neg (show ¬ ((0 : Int) ≤ z ∧ z ≤ 441) by omega), if_pos rfl]
        exact ⟨_, _, _, _, rfl, rfl, hI⟩
  · rw [if_neg hp, if_neg hp, if_pos rfl, if_neg (by decide)]
    exact ⟨_, _, _, _, rfl, rfl, hI⟩
end ZWE
