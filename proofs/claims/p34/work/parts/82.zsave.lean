/-! ===== copies of sites; save and restore ===== -/
theorem iI_31 (g k : Nat) : (31 : Int32) * iI g + iI k = iI ((31 * g + k : Nat) : Int) := by
  rw [q_31, iI_mul, iI_add]
  congr 1
theorem z_copy_loop (cnt : Int32) (x y w : Nat → Int32) :
    ∀ (e k n : Nat) (q : Int32) (x' y' w' : Nat → Int32), k + e = 10 → e < n → (∀ j, j < k → x' j = x j ∧ y' j = y j ∧ w' j = w j) → ∃ x2 y2 w2 : Nat → Int32, f_X4_copy_11 cnt x y w n q x' y' w' (iI k) = some (cnt, x2, y2, w2) ∧ ∀ j, j < 10 → x2 j = x j ∧ y2 j = y j ∧ w2 j = w j := by
  intro e
  induction e with
  | zero =>
    intro k n q x' y' w' hk hn h
    obtain ⟨n, rfl⟩ : ∃ k, n = k + 1 := ⟨n - 1, by omega⟩
    have e : k = 10 := by omega
    subst e
    refine ⟨x', y', w', ?_, h⟩
    have key : ∀ a1 a2 a3 a4 v, f_X4_copy_11 cnt x y w (n + 1) a1 a2 a3 a4 v = g_X4_copy_11 cnt x y w (f_X4_copy_11 cnt x y w n) a1 a2 a3 a4 v := fun _ _ _ _ _ => rfl
    rw [key]
    unfold g_X4_copy_11
    rw [if_pos (by rw [q_10, iI_le] <;> omega)]
  | succ e ih =>
    intro k n q x' y' w' hk hn h
    obtain ⟨n, rfl⟩ : ∃ k, n = k + 1 := ⟨n - 1, by omega⟩
    have key : ∀ a1 a2 a3 a4 v, f_X4_copy_11 cnt x y w (n + 1) a1 a2 a3 a4 v = g_X4_copy_11 cnt x y w (f_X4_copy_11 cnt x y w n) a1 a2 a3 a4 v := fun _ _ _ _ _ => rfl
    rw [key]
    unfold g_X4_copy_11
    rw [if_neg (by rw [q_10, iI_le] <;> omega), gIx_iI (by omega) (by omega) (by omega), iI_clN (by omega), iI_p1]
    refine ih (k + 1) n q _ _ _ (by omega) (by omega) (fun j hj => ?_)
    by_cases e : j = k
    · rw [e, upd_eq, upd_eq, upd_eq]
      exact ⟨rfl, rfl, rfl⟩
    · rw [upd_ne e, upd_ne e, upd_ne e]
      exact h j (by omega)
theorem z_copy (cnt : Int32) (x y w : Nat → Int32) (q : Int32) (x' y' w' : Nat → Int32) : ∃ x2 y2 w2 : Nat → Int32, f_X4_copy_0 cnt x y w q x' y' w' = some (cnt, x2, y2, w2) ∧ ∀ j, j < 10 → x2 j = x j ∧ y2 j = y j ∧ w2 j = w j :=
  z_copy_loop cnt x y w 10 0 fuel q x' y' w' (by omega) (by unfold fuel; omega) (fun j hj => by omega)
theorem RS_cp {c : Nat} {X Y W : Nat → Int} {cnt : Int32} {x y w x2 y2 w2 : Nat → Int32} (h : RS c X Y W cnt x y w) (hc : c ≤ 10) (h1 : ∀ j, j < 10 → x2 j = x j ∧ y2 j = y j ∧ w2 j = w j) : RS c X Y W cnt x2 y2 w2 := by
  refine ⟨h.1, fun i hi => ?_⟩
  obtain ⟨e1, e2, e3⟩ := h1 i (by omega)
  rw [e1, e2, e3]
  exact h.2 i hi
theorem SameS_cp {cnt : Int32} {x y w st x2 y2 w2 s2 : Nat → Int32} (h : SameS cnt x y w st) (h1 : ∀ j, j < 10 → x2 j = x j ∧ y2 j = y j ∧ w2 j = w j) (h2 : ∀ j, j < 31 → s2 j = st j) : SameS cnt x2 y2 w2 s2 := by
  obtain ⟨c, X, Y, W, hB, hR, hM⟩ := h
  exact ⟨c, X, Y, W, hB, RS_cp hR hB.1 h1, RM_cp hM hB.1 h2⟩
theorem SameS_st {cnt : Int32} {x y w st s2 : Nat → Int32} (h : SameS cnt x y w st) (h2 : ∀ j, j < 31 → s2 j = st j) : SameS cnt x y w s2 := SameS_cp h (fun _ _ => ⟨rfl, rfl, rfl⟩) h2
theorem SameS_c {cnt : Int32} {x y w st : Nat → Int32} (h : SameS cnt x y w st) : st 0 = cnt := by
  obtain ⟨c, X, Y, W, hB, hR, hM⟩ := h
  rw [hM.1, hR.1]
theorem up_self {α : Type} {f : Nat → α} {k : Nat} {v : α} (h : v = f k) : va_up f k v = f := by
  funext j
  unfold va_up
  by_cases e : j = k
  · rw [if_pos e, h, e]
  · rw [if_neg e]
theorem up_eq {α : Type} {f : Nat → α} {k : Nat} {v : α} : va_up f k v k = v := by unfold va_up; rw [if_pos rfl]
theorem up_ne {α : Type} {f : Nat → α} {k j : Nat} {v : α} (h : j ≠ k) : va_up f k v j = f j := by unfold va_up; rw [if_neg h]
theorem z_msave (st used : Nat → Int32) {g : Nat} (hg : g < 2) (t : Int32) :
    ∀ (e k n : Nat) (sl : Nat → Int32), k + e = 31 → e < n → (∀ j, j < k → sl (31 * g + j) = st j) → ∃ s2 : Nat → Int32, f_X6_save_26 st n t used sl (iI g) (iI k) = some (st 0, t, used, s2) ∧ (∀ j, j < 31 → s2 (31 * g + j) = st j) ∧ ∀ j, j < 31 * g ∨ 31 * g + 31 ≤ j → s2 j = sl j := by
  intro e
  induction e with
  | zero =>
    intro k n sl hk hn h
    obtain ⟨n, rfl⟩ : ∃ k, n = k + 1 := ⟨n - 1, by omega⟩
    have e : k = 31 := by omega
    subst e
    refine ⟨sl, ?_, h, fun _ _ => rfl⟩
    have key : ∀ a1 a2 a3 a4 v, f_X6_save_26 st (n + 1) a1 a2 a3 a4 v = g_X6_save_26 st (f_X6_save_26 st n) a1 a2 a3 a4 v := fun _ _ _ _ _ => rfl
    rw [key]
    unfold g_X6_save_26
    rw [if_pos (by rw [q_31, iI_le] <;> omega)]
    rfl
  | succ e ih =>
    intro k n sl hk hn h
    obtain ⟨n, rfl⟩ : ∃ k, n = k + 1 := ⟨n - 1, by omega⟩
    have key : ∀ a1 a2 a3 a4 v, f_X6_save_26 st (n + 1) a1 a2 a3 a4 v = g_X6_save_26 st (f_X6_save_26 st n) a1 a2 a3 a4 v := fun _ _ _ _ _ => rfl
    rw [key]
    unfold g_X6_save_26
    rw [if_neg (by rw [q_31, iI_le] <;> omega), gIx_iI (by omega) (by omega) (by omega), iI_31, gIx_iI (by omega) (by omega) (by omega), iI_clN (by omega), iI_clN (by omega), iI_p1]
    obtain ⟨s2, e1, h1, h2⟩ := ih (k + 1) n (upd sl (31 * g + k) (st k)) (by omega) (by omega) (fun j hj => by
      by_cases e : j = k
      · rw [e, upd_eq]
      · rw [upd_ne (by omega)]; exact h j (by omega))
    exact ⟨s2, e1, h1, fun j hj => by rw [h2 j hj, upd_ne (by omega)]⟩
theorem z_mrest (used sl : Nat → Int32) {g : Nat} (hg : g < 2) (t r : Int32) :
    ∀ (e k n : Nat) (st : Nat → Int32), k + e = 31 → e < n → (∀ j, j < k → st j = sl (31 * g + j)) → ∃ s2 : Nat → Int32, f_X6_restore_31 used sl n t r st (iI g) (iI k) = some (s2 0, t, 0, s2) ∧ ∀ j, j < 31 → s2 j = sl (31 * g + j) := by
  intro e
  induction e with
  | zero =>
    intro k n st hk hn h
    obtain ⟨n, rfl⟩ : ∃ k, n = k + 1 := ⟨n - 1, by omega⟩
    have e : k = 31 := by omega
    subst e
    refine ⟨st, ?_, h⟩
    have key : ∀ a1 a2 a3 a4 v, f_X6_restore_31 used sl (n + 1) a1 a2 a3 a4 v = g_X6_restore_31 used sl (f_X6_restore_31 used sl n) a1 a2 a3 a4 v := fun _ _ _ _ _ => rfl
    rw [key]
    unfold g_X6_restore_31
    rw [if_pos (by rw [q_31, iI_le] <;> omega)]
    rfl
  | succ e ih =>
    intro k n st hk hn h
    obtain ⟨n, rfl⟩ : ∃ k, n = k + 1 := ⟨n - 1, by omega⟩
    have key : ∀ a1 a2 a3 a4 v, f_X6_restore_31 used sl (n + 1) a1 a2 a3 a4 v = g_X6_restore_31 used sl (f_X6_restore_31 used sl n) a1 a2 a3 a4 v := fun _ _ _ _ _ => rfl
    rw [key]
    unfold g_X6_restore_31
    rw [if_neg (by rw [q_31, iI_le] <;> omega), iI_31, gIx_iI (by omega) (by omega) (by omega), gIx_iI (by omega) (by omega) (by omega), iI_clN (by omega), iI_clN (by omega), iI_p1]
    exact ih (k + 1) n (upd st k (sl (31 * g + k))) (by omega) (by omega) (fun j hj => by
      by_cases e : j = k
      · rw [e, upd_eq]
      · rw [upd_ne e]; exact h j (by omega))
theorem z_slot (z : Int) (h1 : -2147483648 ≤ z) (h2 : z < 2147483648) : f_X5_isSlot_0 (iI z) = some (if 0 ≤ z ∧ z < 2 then 1 else 0) := by
  unfold f_X5_isSlot_0
  by_cases a : z < 0
  · rw [if_pos (by rw [q_0, iI_lt] <;> omega), if_neg (by omega)]
  · rw [if_neg (by rw [q_0, iI_lt] <;> omega)]
    by_cases b : 2 ≤ z
    · rw [if_pos (by rw [q_2, iI_le] <;> omega), if_neg (by omega)]
    · rw [if_neg (by rw [q_2, iI_le] <;> omega), if_pos (by omega)]
theorem z_mslot (z : Int) (h1 : -2147483648 ≤ z) (h2 : z < 2147483648) : f_X6_in_0 (iI z).toInt64 (0 : Int64) (1 : Int64) = some (if 0 ≤ z ∧ z < 2 then 1 else 0) := by
  rw [iI_l h1 h2, ql_0, ql_1, z_in _ _ _ (by omega) (by omega) (by omega) (by omega) (by omega) (by omega)]
  by_cases a : 0 ≤ z ∧ z < 2
  · rw [if_pos a, if_pos (by omega)]
  · rw [if_neg a, if_neg (by omega)]
theorem o29_IV : op_29 IV := by
  intro xl xc cnt x y w nw rem filled sn sx sy so σ τ ml mt st mrem mh ms mused mob msx msy mss t p hI
  have hI0 := hI
  obtain ⟨h1, h2, h3, h4, h5⟩ := hI
  obtain ⟨z, z1, z2, rfl⟩ := i_ex p
  unfold f_X5_save_0 f_X6_save_0
  rw [z_slot z z1 z2, z_mslot z z1 z2]
  by_cases hz : 0 ≤ z ∧ z < 2
  · obtain ⟨g, rfl⟩ : ∃ g : Nat, z = (g : Nat) := ⟨z.toNat, by omega⟩
    refine ⟨g, by omega, by rw [iI_clN (by omega)]; omega, ?_⟩
    rw [if_pos hz, bnd_some, bnd_some, if_neg (by decide), if_neg (by decide), gIx_iI (by omega) (by omega) (by omega), gIx_iI (by omega) (by omega) (by omega), nI_iI, gEq_rf, iI_clN (by omega)]
    obtain ⟨x2, y2, w2, e1, k1⟩ := z_copy cnt x y w (τ g).1 (τ g).2.1 (τ g).2.2.1 (τ g).2.2.2
    rw [e1, bnd4_some]
    obtain ⟨s2, e2, k2, k3⟩ := z_msave st (upd mused g 1) (show g < 2 by omega) 0 31 0 fuel ms (by omega) (by unfold fuel; omega) (fun j hj => by omega)
    have e2' : f_X6_save_26 st fuel 0 (upd mused g 1) ms (iI g) 0 = _ := e2
    rw [e2', SameS_c h1]
    refine ⟨_, _, _, _, _, _, _, _, _, rfl, rfl, h1, h2, h3, fun g' hg' => ?_, h5⟩
    by_cases e : g' = g
    · subst e
      refine Or.inr ⟨upd_eq, upd_eq, ?_⟩
      rw [up_eq]
      exact SameS_cp h1 k1 k2
    · rw [upd_ne e, upd_ne e, up_ne e]
      rcases h4 g' hg' with q | q
      · exact Or.inl q
      · exact Or.inr ⟨q.1, q.2.1, SameS_st q.2.2 (fun j hj => k3 _ (by omega))⟩
  · refine ⟨_, Nat.mod_lt _ (by decide), rfl, ?_⟩
    rw [if_neg hz, bnd_some, bnd_some, if_pos rfl, if_pos rfl]
    exact ⟨_, _, _, _, _, _, _, _, _, rfl, rfl, by rw [up_self rfl]; exact hI0⟩
theorem o30_IV : op_30 IV := by
  intro xl xc cnt x y w nw rem filled sn sx sy so σ τ ml mt st mrem mh ms mused mob msx msy mss t p hI
  have hI0 := hI
  obtain ⟨h1, h2, ⟨h, n, q1, q2, q3, q4, q5, q6⟩, h4, h5⟩ := hI
  obtain ⟨z, z1, z2, rfl⟩ := i_ex p
  unfold f_X5_restore_0 f_X6_restore_0
  rw [z_slot z z1 z2, z_mslot z z1 z2]
  by_cases hz : 0 ≤ z ∧ z < 2
  · obtain ⟨g, rfl⟩ : ∃ g : Nat, z = (g : Nat) := ⟨z.toNat, by omega⟩
    refine ⟨g, by omega, by rw [iI_clN (by omega)]; omega, ?_⟩
    rw [if_pos hz, bnd_some, bnd_some, if_neg (show ¬ (1 : Int32) = 0 by decide), if_neg (show ¬ (1 : Int32) = 0 by decide), gIx_iI (by omega) (by omega) (by omega), gIx_iI (by omega) (by omega) (by omega), nI_iI, gEq_rf, iI_clN (by omega)]
    rcases h4 g (by omega) with ⟨f1, f2⟩ | ⟨f1, f2, f3⟩
    · rw [if_pos f1, if_pos f2]
      exact ⟨_, _, _, _, _, _, _, _, _, rfl, rfl, hI0⟩
    · rw [if_neg (show ¬ filled g = 0 by rw [f1]; decide), if_neg (show ¬ mused g = 0 by rw [f2]; decide)]
      obtain ⟨x2, y2, w2, e1, k1⟩ := z_copy (τ g).1 (τ g).2.1 (τ g).2.2.1 (τ g).2.2.2 cnt x y w
      rw [e1, bnd4_some]
      obtain ⟨s2, e2, k2⟩ := z_mrest mused ms (show g < 2 by omega) 0 mrem 31 0 fuel st (by omega) (by unfold fuel; omega) (fun j hj => by omega)
      have e2' : f_X6_restore_31 mused ms fuel 0 mrem st (iI g) 0 = _ := e2
      rw [e2']
      have hS := SameS_cp f3 k1 k2
      rw [SameS_c hS]
      exact ⟨_, _, _, _, _, _, _, _, _, rfl, rfl, hS, h2, ⟨0, n, by omega, q2, q3, rfl, rfl, fun j hj => by omega⟩, h4, h5⟩
  · refine ⟨_, Nat.mod_lt _ (by decide), rfl, ?_⟩
    rw [if_neg hz, bnd_some, bnd_some, if_pos rfl, if_pos rfl]
    exact ⟨_, _, _, _, _, _, _, _, _, rfl, rfl, hI0⟩
