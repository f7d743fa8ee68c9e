/-! ===== weightForSize, the class's side ===== -/
section ZWF
variable {c : Nat} {X Y W : Nat → Int} {cnt : Int32} {x y w : Nat → Int32} {st : Nat → Int32}
/-- how many points of a row need just this weight -/
def cwr (X Y W : Nat → Int) (c i v a n : Nat) : Nat := sumN n (fun b => if wtoN X Y W i (a : Int) (b : Int) c = ((v : Nat) : Int) then 1 else 0)
def cw (X Y W : Nat → Int) (c i v n : Nat) : Nat := sumN n (fun a => cwr X Y W c i v a 21)
theorem z_cp34 (hR : RS c X Y W cnt x y w) (hB : BD c X Y W) {i : Nat} (hi : i < c) {a : Nat} (ha : a < 21) (k26 : (Nat → Int32) → Int32 → Int32 → Option R_X5_countPointsByWeight) (s : Nat → Nat) :
    ∀ (e b n : Nat) (arr : Nat → Int32), b + e = 21 → e < n → (∀ v, v < 401 → arr v = iI (s v + cwr X Y W c i v a b : Nat)) → ∃ arr' : Nat → Int32, f_X5_countPointsByWeight_34 k26 cnt x y w n arr (iI i) (iI a) (iI b) = k26 arr' (iI i) (iI (a + 1 : Nat)) ∧ ∀ v, v < 401 → arr' v = iI (s v + cwr X Y W c i v a 21 : Nat) := by
  intro e
  induction e with
  | zero =>
    intro b n arr hb hn hA
    obtain ⟨n, rfl⟩ : ∃ k, n = k + 1 := ⟨n - 1, by omega⟩
    have e : b = 21 := by omega
    subst e
    refine ⟨arr, ?_, hA⟩
    have key : ∀ u v, f_X5_countPointsByWeight_34 k26 cnt x y w (n + 1) arr u (iI a) v = g_X5_countPointsByWeight_34 k26 cnt x y w (f_X5_countPointsByWeight_34 k26 cnt x y w n) arr u (iI a) v := fun _ _ => rfl
    rw [key]
    unfold g_X5_countPointsByWeight_34
    rw [if_pos (by rw [q_20, iI_lt] <;> omega), iI_p1]
  | succ e ih =>
    intro b n arr hb hn hA
    obtain ⟨n, rfl⟩ : ∃ k, n = k + 1 := ⟨n - 1, by omega⟩
    have key : ∀ u v, f_X5_countPointsByWeight_34 k26 cnt x y w (n + 1) arr u (iI a) v = g_X5_countPointsByWeight_34 k26 cnt x y w (f_X5_countPointsByWeight_34 k26 cnt x y w n) arr u (iI a) v := fun _ _ => rfl
    rw [key]
    unfold g_X5_countPointsByWeight_34
    have wb := wtoN_b hB i (a := (a : Int)) (b := (b : Int)) (by omega) (by omega) (by omega) (by omega) c
    rw [if_neg (by rw [q_20, iI_lt] <;> omega), z_wto hR hB hi (by omega) (by omega) (by omega) (by omega), bnd_some, if_neg (by rw [q_0, iI_lt] <;> omega), iI_p1]
    have es : ∀ v, cwr X Y W c i v a (b + 1) = cwr X Y W c i v a b + (if wtoN X Y W i (a : Int) (b : Int) c = ((v : Nat) : Int) then 1 else 0) := fun _ => rfl
    by_cases h : 401 ≤ wtoN X Y W i (a : Int) (b : Int) c
    · rw [if_pos (by rw [q_401, iI_le] <;> omega)]
      refine ih (b + 1) n arr (by omega) (by omega) (fun v hv => ?_)
      rw [es, if_neg (by omega), Nat.add_zero]
      exact hA v hv
    · rw [if_neg (by rw [q_401, iI_le] <;> omega), gIx_iI (by omega) (by omega) (by omega), iI_cl (by omega) (by omega)]
      refine ih (b + 1) n _ (by omega) (by omega) (fun v hv => ?_)
      rw [es]
      by_cases ev : v = (wtoN X Y W i (a : Int) (b : Int) c).toNat
      · rw [if_pos (by omega), ev, upd_eq, hA _ (by omega), iI_p1]
        rfl
      · rw [if_neg (by omega), upd_ne ev, Nat.add_zero]
        exact hA v hv
theorem z_cp26 (hR : RS c X Y W cnt x y w) (hB : BD c X Y W) {i : Nat} (hi : i < c) :
    ∀ (e a n : Nat) (arr : Nat → Int32), a + e = 21 → e < n → (∀ v, v < 401 → arr v = iI (cw X Y W c i v a : Nat)) → ∃ arr' : Nat → Int32, f_X5_countPointsByWeight_26 cnt x y w n arr (iI i) (iI a) = some arr' ∧ ∀ v, v < 401 → arr' v = iI (cw X Y W c i v 21 : Nat) := by
  intro e
  induction e with
  | zero =>
    intro a n arr hb hn hA
    obtain ⟨n, rfl⟩ : ∃ k, n = k + 1 := ⟨n - 1, by omega⟩
    have e : a = 21 := by omega
    subst e
    refine ⟨arr, ?_, hA⟩
    have key : ∀ u v, f_X5_countPointsByWeight_26 cnt x y w (n + 1) arr u v = g_X5_countPointsByWeight_26 cnt x y w (f_X5_countPointsByWeight_26 cnt x y w n) arr u v := fun _ _ => rfl
    rw [key]
    unfold g_X5_countPointsByWeight_26
    rw [if_pos (by rw [q_20, iI_lt] <;> omega)]
  | succ e ih =>
    intro a n arr hb hn hA
    obtain ⟨n, rfl⟩ : ∃ k, n = k + 1 := ⟨n - 1, by omega⟩
    have key : ∀ u v, f_X5_countPointsByWeight_26 cnt x y w (n + 1) arr u v = g_X5_countPointsByWeight_26 cnt x y w (f_X5_countPointsByWeight_26 cnt x y w n) arr u v := fun _ _ => rfl
    rw [key]
    unfold g_X5_countPointsByWeight_26
    rw [if_neg (by rw [q_20, iI_lt] <;> omega)]
    obtain ⟨arr1, e1, h1⟩ := z_cp34 hR hB hi (show a < 21 by omega) (f_X5_countPointsByWeight_26 cnt x y w n) (fun v => cw X Y W c i v a) 21 0 fuel arr (by omega) (by unfold fuel; omega) hA
    have e1' : f_X5_countPointsByWeight_34 (f_X5_countPointsByWeight_26 cnt x y w n) cnt x y w fuel arr (iI i) (iI a) 0 = _ := e1
    rw [e1']
    exact ih (a + 1) n arr1 (by omega) (by omega) h1
theorem z_cp2 (hR : RS c X Y W cnt x y w) (hB : BD c X Y W) {i : Nat} (hi : i < c) :
    ∀ (e k n : Nat) (arr : Nat → Int32), k + e = 401 → e < n → (∀ v, v < k → arr v = 0) → ∃ arr' : Nat → Int32, f_X5_countPointsByWeight_2 cnt x y w n arr (iI i) (iI k) = some arr' ∧ ∀ v, v < 401 → arr' v = iI (cw X Y W c i v 21 : Nat) := by
  intro e
  induction e with
  | zero =>
    intro k n arr hb hn hA
    obtain ⟨n, rfl⟩ : ∃ k, n = k + 1 := ⟨n - 1, by omega⟩
    have e : k = 401 := by omega
    subst e
    have key : ∀ u v, f_X5_countPointsByWeight_2 cnt x y w (n + 1) arr u v = g_X5_countPointsByWeight_2 cnt x y w (f_X5_countPointsByWeight_2 cnt x y w n) arr u v := fun _ _ => rfl
    rw [key]
    unfold g_X5_countPointsByWeight_2
    rw [if_pos (by rw [q_401, iI_le] <;> omega)]
    exact z_cp26 hR hB hi 21 0 fuel arr (by omega) (by unfold fuel; omega) (fun v hv => hA v hv)
  | succ e ih =>
    intro k n arr hb hn hA
    obtain ⟨n, rfl⟩ : ∃ k, n = k + 1 := ⟨n - 1, by omega⟩
    have key : ∀ u v, f_X5_countPointsByWeight_2 cnt x y w (n + 1) arr u v = g_X5_countPointsByWeight_2 cnt x y w (f_X5_countPointsByWeight_2 cnt x y w n) arr u v := fun _ _ => rfl
    rw [key]
    unfold g_X5_countPointsByWeight_2
    rw [if_neg (by rw [q_401, iI_le] <;> omega), gIx_iI (by omega) (by omega) (by omega), iI_clN (by omega), iI_p1]
    refine ih (k + 1) n _ (by omega) (by omega) (fun v hv => ?_)
    by_cases e : v = k
    · rw [e, upd_eq]
    · rw [upd_ne e]; exact hA v (by omega)
/-- how many points the site owns with the weight v -/
def SV (X Y W : Nat → Int) (c i : Nat) (v : Int) : Nat := SZ X Y (setW W i v) c i 21
theorem cw_sum {i : Nat} (hB : BD c X Y W) (hi : i < c) (v : Nat) : sumN (v + 1) (fun v' => cw X Y W c i v' 21) = SV X Y W c i v := by
  unfold cw SV SZ
  rw [sumN_swap]
  refine sumN_congr (fun a ha => ?_)
  unfold cwr SZr
  rw [sumN_swap]
  refine sumN_congr (fun b hb => ?_)
  have wb := wtoN_b hB i (a := (a : Int)) (b := (b : Int)) (by omega) (by omega) (by omega) (by omega) c
  by_cases h : wtoN X Y W i (a : Int) (b : Int) c ≤ v
  · rw [if_pos ((own_wto hi (by omega)).mpr h)]
    rw [sumN_congr (g := fun v' => if (wtoN X Y W i (a : Int) (b : Int) c).toNat = v' then 1 else 0) (fun v' hv' => by
      by_cases e : wtoN X Y W i (a : Int) (b : Int) c = ((v' : Nat) : Int)
      · rw [if_pos e, if_pos (by omega)]
      · rw [if_neg e, if_neg (by omega)])]
    exact sumN_ind (by omega)
  · rw [if_neg (fun q => h ((own_wto hi (by omega)).mp q))]
    exact sumN_0 (fun v' hv' => if_neg (by omega))
theorem SZr_le {k a n : Nat} : SZr X Y W c k a n ≤ n := by
  unfold SZr
  have := @sumN_le n (fun b => if ownr X Y W c (a : Int) (b : Int) = some k then 1 else 0) (fun _ => 1) (fun i hi => by split <;> omega)
  rw [sumN_const] at this
  omega
theorem SZ_le {k n : Nat} : SZ X Y W c k n ≤ n * 21 := by
  unfold SZ
  have := @sumN_le n (fun a => SZr X Y W c k a 21) (fun _ => 21) (fun i hi => SZr_le)
  rw [sumN_const] at this
  exact this
theorem SV_mono {i : Nat} (hi : i < c) {v v' : Int} (h0 : 0 ≤ v) (h : v ≤ v') : SV X Y W c i v ≤ SV X Y W c i v' := by
  unfold SV SZ
  refine sumN_le (fun a ha => ?_)
  unfold SZr
  refine sumN_le (fun b hb => ?_)
  by_cases q : ownr X Y (setW W i v) c (a : Int) (b : Int) = some i
  · rw [if_pos q, if_pos ((own_wto hi (by omega)).mpr (by have := (own_wto hi h0).mp q; omega))]
    omega
  · rw [if_neg q]
    omega
/-- the least weight with which a site owns so many points, or 401 -/
def LW (X Y W : Nat → Int) (c i : Nat) (z : Int) (v : Nat) : Prop := v ≤ 401 ∧ (∀ v', v' < v → ((SV X Y W c i (v' : Nat) : Nat) : Int) < z) ∧ (v < 401 → z ≤ ((SV X Y W c i (v : Nat) : Nat) : Int))
theorem z_wfs37 (hB : BD c X Y W) {i : Nat} (hi : i < c) {arr : Nat → Int32} (hA : ∀ v, v < 401 → arr v = iI (cw X Y W c i v 21 : Nat)) {z : Int} (z1 : 0 ≤ z) (z2 : z ≤ 441) :
    ∀ (e k n : Nat), k + e = 401 → e < n → (∀ v', v' < k → ((SV X Y W c i (v' : Nat) : Nat) : Int) < z) → ∃ v, LW X Y W c i z v ∧ f_X5_weightForSize_37 cnt x y w n arr (iI z) (iI (sumN k (fun v' => cw X Y W c i v' 21) : Nat)) (iI k) = some (if v < 401 then iI (v : Nat) else -9, arr) := by
  intro e
  induction e with
  | zero =>
    intro k n hk hn hb
    obtain ⟨n, rfl⟩ : ∃ k, n = k + 1 := ⟨n - 1, by omega⟩
    have e : k = 401 := by omega
    subst e
    refine ⟨401, ⟨by omega, hb, fun q => by omega⟩, ?_⟩
    have key : ∀ u v, f_X5_weightForSize_37 cnt x y w (n + 1) arr (iI z) u v = g_X5_weightForSize_37 cnt x y w (f_X5_weightForSize_37 cnt x y w n) arr (iI z) u v := fun _ _ => rfl
    rw [key]
    unfold g_X5_weightForSize_37
    rw [if_pos (by rw [q_401, iI_le] <;> omega), if_neg (by omega)]
  | succ e ih =>
    intro k n hk hn hb
    obtain ⟨n, rfl⟩ : ∃ k, n = k + 1 := ⟨n - 1, by omega⟩
    have key : ∀ u v, f_X5_weightForSize_37 cnt x y w (n + 1) arr (iI z) u v = g_X5_weightForSize_37 cnt x y w (f_X5_weightForSize_37 cnt x y w n) arr (iI z) u v := fun _ _ => rfl
    rw [key]
    unfold g_X5_weightForSize_37
    have sm : sumN k (fun v' => cw X Y W c i v' 21) + cw X Y W c i k 21 = SV X Y W c i (k : Nat) := cw_sum hB hi k
    have sl : SV X Y W c i (k : Nat) ≤ 21 * 21 := SZ_le
    have ec : iI (sumN k (fun v' => cw X Y W c i v' 21) : Nat) + iI (cw X Y W c i k 21 : Nat) = iI (SV X Y W c i (k : Nat) : Nat) := by
      rw [iI_add, ← Int.natCast_add, sm]
    rw [if_neg (by rw [q_401, iI_le] <;> omega), gIx_iI (by omega) (by omega) (by omega), iI_clN (by omega), hA k (by omega), nm_eq, ec, iI_p1]
    by_cases h : ((SV X Y W c i (k : Nat) : Nat) : Int) < z
    · rw [if_pos (by rw [iI_lt] <;> omega)]
      have ih' := ih (k + 1) n (by omega) (by omega) (fun v' hv' => by
        by_cases e : v' = k
        · rw [e]; exact h
        · exact hb v' (by omega))
      rwa [show sumN (k + 1) (fun v' => cw X Y W c i v' 21) = SV X Y W c i (k : Nat) from cw_sum hB hi k] at ih'
    · rw [if_neg (by rw [iI_lt] <;> omega)]
      exact ⟨k, ⟨by omega, hb, fun _ => by omega⟩, by rw [if_pos (by omega)]⟩
theorem LW_un {i : Nat} {z : Int} {v v' : Nat} (h : LW X Y W c i z v) (h' : LW X Y W c i z v') : v = v' := by
  obtain ⟨a1, a2, a3⟩ := h
  obtain ⟨b1, b2, b3⟩ := h'
  rcases Nat.lt_trichotomy v v' with q | q | q
  · have := b2 v q
    have := a3 (by omega)
    omega
  · exact q
  · have := a2 v' q
    have := b3 (by omega)
    omega
end ZWF
