section ZWM
variable {c : Nat} {X Y W : Nat → Int} {cnt : Int32} {x y w : Nat → Int32} {st : Nat → Int32}
theorem BD_set (hB : BD c X Y W) (i : Nat) {v : Int} (h1 : 0 ≤ v) (h2 : v ≤ 400) : BD c X Y (setW W i v) := by
  refine ⟨hB.1, fun j => ⟨(hB.2 j).1, (hB.2 j).2.1, ?_⟩⟩
  unfold setW
  split
  · exact ⟨h1, h2⟩
  · exact (hB.2 j).2.2
theorem RM_set (hM : RM c X Y W st) {i : Nat} (hi : i < c) {v0 v : Int} (h : RM c X Y (setW W i v0) st ∨ RM c X Y W st) : RM c X Y (setW W i v) (upd st (3 + 3 * i) (iI v)) := by
  have g0 : st 0 = iI c := by rcases h with h | h <;> exact h.1
  have g1 : ∀ j, j < c → st (1 + 3 * j) = iI (X j) := by rcases h with h | h <;> exact fun j hj => (h.2 j hj).1
  have g2 : ∀ j, j < c → st (2 + 3 * j) = iI (Y j) := by rcases h with h | h <;> exact fun j hj => (h.2 j hj).2.1
  have g3 : ∀ j, j < c → j ≠ i → st (3 + 3 * j) = iI (W j) := by
    intro j hj hne
    rcases h with h | h
    · have := (h.2 j hj).2.2
      unfold setW at this
      rwa [if_neg hne] at this
    · exact (h.2 j hj).2.2
  refine ⟨by rw [upd_ne (by omega)]; exact g0, fun j hj => ⟨by rw [upd_ne (by omega)]; exact g1 j hj, by rw [upd_ne (by omega)]; exact g2 j hj, ?_⟩⟩
  unfold setW
  by_cases e : j = i
  · rw [e, upd_eq, if_pos rfl]
  · rw [upd_ne (by omega), if_neg e]
    exact g3 j hj e
theorem RM_set2 {i : Nat} (hi : i < c) {v0 v : Int} (h : RM c X Y (setW W i v0) st) : RM c X Y (setW W i v) (upd st (3 + 3 * i) (iI v)) := by
  have g3 : ∀ j, j < c → j ≠ i → st (3 + 3 * j) = iI (W j) := by
    intro j hj hne
    have := (h.2 j hj).2.2
    unfold setW at this
    rwa [if_neg hne] at this
  refine ⟨by rw [upd_ne (by omega)]; exact h.1, fun j hj => ⟨by rw [upd_ne (by omega)]; exact (h.2 j hj).1, by rw [upd_ne (by omega)]; exact (h.2 j hj).2.1, ?_⟩⟩
  unfold setW
  by_cases e : j = i
  · rw [e, upd_eq, if_pos rfl]
  · rw [upd_ne (by omega), if_neg e]
    exact g3 j hj e
theorem setW_self (i : Nat) : setW W i (W i) = W := by
  funext j
  unfold setW
  by_cases e : j = i
  · rw [if_pos e, e]
  · rw [if_neg e]
theorem z_mwfs (hB : BD c X Y W) {i : Nat} (hi : i < c) {z : Int} (z1 : 0 ≤ z) (z2 : z ≤ 441) (t0 : Int32) :
    ∀ (e lo hi' n : Nat) (v0 : Int) (cp : Nat → Int32), hi' ≤ lo + e → lo ≤ hi' → hi' ≤ 401 → e < n → RM c X Y (setW W i v0) cp → (∀ v', v' < lo → ((SV X Y W c i (v' : Nat) : Nat) : Int) < z) → (hi' < 401 → z ≤ ((SV X Y W c i (hi' : Nat) : Nat) : Int)) → ∃ v, LW X Y W c i z v ∧ ∃ cp', f_X6_weightForSize_48 st n t0 cp (iI i) (iI z) (iI lo) (iI hi') = some (if v < 401 then iI (v : Nat) else -9, t0, cp') := by
  have hc := hB.1
  intro e
  induction e with
  | zero =>
    intro lo hi' n v0 cp h1 h2 h3 hn hM hlo hhi
    obtain ⟨n, rfl⟩ : ∃ k, n = k + 1 := ⟨n - 1, by omega⟩
    have e : hi' = lo := by omega
    subst e
    refine ⟨hi', ⟨h3, hlo, hhi⟩, cp, ?_⟩
    show g_X6_weightForSize_48 st (f_X6_weightForSize_48 st n) t0 cp (iI i) (iI z) (iI hi') (iI hi') = _
    unfold g_X6_weightForSize_48
    rw [if_pos (by rw [iI_le] <;> omega)]
    by_cases q : hi' < 401
    · rw [if_pos (by rw [q_400, iI_le] <;> omega), if_pos q]
    · rw [if_neg (by rw [q_400, iI_le] <;> omega), if_neg q]
  | succ e ih =>
    intro lo hi' n v0 cp h1 h2 h3 hn hM hlo hhi
    obtain ⟨n, rfl⟩ : ∃ k, n = k + 1 := ⟨n - 1, by omega⟩
    show ∃ v, LW X Y W c i z v ∧ ∃ cp', g_X6_weightForSize_48 st (f_X6_weightForSize_48 st n) t0 cp (iI i) (iI z) (iI lo) (iI hi') = _
    unfold g_X6_weightForSize_48
    by_cases hle : hi' ≤ lo
    · have e : hi' = lo := by omega
      subst e
      refine ⟨hi', ⟨h3, hlo, hhi⟩, cp, ?_⟩
      rw [if_pos (by rw [iI_le] <;> omega)]
      by_cases q : hi' < 401
      · rw [if_pos (by rw [q_400, iI_le] <;> omega), if_pos q]
      · rw [if_neg (by rw [q_400, iI_le] <;> omega), if_neg q]
    · rw [if_neg (by rw [iI_le] <;> omega)]
      have em : (iI lo + iI hi') / (2 : Int32) = iI (((lo + hi') / 2 : Nat) : Int) := by
        rw [iI_add, q_2, iI_div (by omega) (by omega) (by omega) (by omega)]
        congr 1
      have ex : (3 : Int32) + (3 : Int32) * iI i = iI ((3 + 3 * i : Nat) : Int) := by
        rw [q_3, iI_mul, iI_add]
        congr 1
      rw [nm_eq, em, ex, gIx_iI (by omega) (by omega) (by omega), iI_clN (by omega)]
      generalize hm : (lo + hi') / 2 = mid
      have hM2 := RM_set2 (v := (mid : Int)) hi hM
      have sl : SV X Y W c i (mid : Nat) ≤ 21 * 21 := SZ_le
      have so := z_so hM2 (BD_set hB i (v := (mid : Int)) (by omega) (by omega)) hi
      have so' : f_X6_sizeOf_0 (upd cp (3 + 3 * i) (iI (mid : Nat))) (iI i) = some (iI (SV X Y W c i (mid : Nat) : Nat)) := so
      rw [so', bnd_some]
      unfold f_X6_weightForSize_91 f_X6_weightForSize_105
      by_cases q : ((SV X Y W c i (mid : Nat) : Nat) : Int) < z
      · rw [if_pos (by rw [iI_lt] <;> omega), if_pos rfl, if_pos rfl, nm_eq, iI_p1]
        refine ih (mid + 1) hi' n mid _ (by omega) (by omega) h3 (by omega) hM2 (fun v' hv' => ?_) hhi
        have := SV_mono (X := X) (Y := Y) (W := W) hi (v := (v' : Nat)) (v' := (mid : Nat)) (by omega) (by omega)
        omega
      · rw [if_neg (by rw [iI_lt] <;> omega), if_neg (by decide), if_neg (by decide)]
        exact ih lo mid n mid _ (by omega) (by omega) (by omega) (by omega) hM2 hlo (fun _ => by omega)
end ZWM
