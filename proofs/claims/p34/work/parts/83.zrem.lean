/-! ===== remember: the ring against the shift ===== -/
def HI (n h : Nat) (σ : Nat → S4) (mh : Nat → Int32) : Prop := ∀ j, j < h → SameS (σ ((n + 14 - j) % 14)).1 (σ ((n + 14 - j) % 14)).2.1 (σ ((n + 14 - j) % 14)).2.2.1 (σ ((n + 14 - j) % 14)).2.2.2 (fun k => mh (31 * (h - 1 - j) + k))
theorem z_mrem51 (st : Nat → Int32) {h : Nat} (hh : h < 14) :
    ∀ (e k n : Nat) (mh : Nat → Int32), k + e = 31 → e < n → (∀ j, j < k → mh (31 * h + j) = st j) → ∃ m2 : Nat → Int32, f_X6_remember_51 st n (iI h) mh (iI k) = some (iI (h + 1 : Nat), m2) ∧ (∀ j, j < 31 → m2 (31 * h + j) = st j) ∧ ∀ j, j < 31 * h → m2 j = mh j := by
  intro e
  induction e with
  | zero =>
    intro k n mh hk hn h'
    obtain ⟨n, rfl⟩ : ∃ k, n = k + 1 := ⟨n - 1, by omega⟩
    have e : k = 31 := by omega
    subst e
    refine ⟨mh, ?_, h', fun _ _ => rfl⟩
    have key : ∀ a1 a2 v, f_X6_remember_51 st (n + 1) a1 a2 v = g_X6_remember_51 st (f_X6_remember_51 st n) a1 a2 v := fun _ _ _ => rfl
    rw [key]
    unfold g_X6_remember_51
    rw [if_pos (by rw [q_31, iI_le] <;> omega), nm_eq, iI_p1]
  | succ e ih =>
    intro k n mh hk hn h'
    obtain ⟨n, rfl⟩ : ∃ k, n = k + 1 := ⟨n - 1, by omega⟩
    have key : ∀ a1 a2 v, f_X6_remember_51 st (n + 1) a1 a2 v = g_X6_remember_51 st (f_X6_remember_51 st n) a1 a2 v := fun _ _ _ => rfl
    rw [key]
    unfold g_X6_remember_51
    rw [if_neg (by rw [q_31, iI_le] <;> omega), gIx_iI (by omega) (by omega) (by omega), iI_31, gIx_iI (by omega) (by omega) (by omega), iI_clN (by omega), iI_clN (by omega), iI_p1]
    obtain ⟨m2, e1, h1, h2⟩ := ih (k + 1) n (upd mh (31 * h + k) (st k)) (by omega) (by omega) (fun j hj => by
      by_cases e : j = k
      · rw [e, upd_eq]
      · rw [upd_ne (by omega)]; exact h' j (by omega))
    exact ⟨m2, e1, h1, fun j hj => by rw [h2 j hj, upd_ne (by omega)]⟩
theorem z_mrem11 (st : Nat → Int32) (mh0 : Nat → Int32) :
    ∀ (e k n : Nat) (mh : Nat → Int32), k + e = 403 → e < n → (∀ j, j < k → mh j = mh0 (j + 31)) → (∀ j, k ≤ j → mh j = mh0 j) → ∃ m1 : Nat → Int32, f_X6_remember_11 st n (iI (14 : Nat)) mh (iI k) = f_X6_remember_51 st fuel (iI (13 : Nat)) m1 0 ∧ ∀ j, j < 403 → m1 j = mh0 (j + 31) := by
  intro e
  induction e with
  | zero =>
    intro k n mh hk hn h1 h2
    obtain ⟨n, rfl⟩ : ∃ k, n = k + 1 := ⟨n - 1, by omega⟩
    have e : k = 403 := by omega
    subst e
    refine ⟨mh, ?_, h1⟩
    have key : ∀ a1 a2 v, f_X6_remember_11 st (n + 1) a1 a2 v = g_X6_remember_11 st (f_X6_remember_11 st n) a1 a2 v := fun _ _ _ => rfl
    rw [key]
    unfold g_X6_remember_11
    rw [if_pos (by rw [q_403, iI_le] <;> omega), nm_eq]
    rfl
  | succ e ih =>
    intro k n mh hk hn h1 h2
    obtain ⟨n, rfl⟩ : ∃ k, n = k + 1 := ⟨n - 1, by omega⟩
    have key : ∀ a1 a2 v, f_X6_remember_11 st (n + 1) a1 a2 v = g_X6_remember_11 st (f_X6_remember_11 st n) a1 a2 v := fun _ _ _ => rfl
    rw [key]
    unfold g_X6_remember_11
    have e31 : iI (k : Nat) + (31 : Int32) = iI ((k + 31 : Nat) : Int) := by rw [q_31, iI_add]; rfl
    rw [if_neg (by rw [q_403, iI_le] <;> omega), e31, gIx_iI (by omega) (by omega) (by omega), gIx_iI (by omega) (by omega) (by omega), iI_clN (by omega), iI_clN (by omega), iI_p1]
    refine ih (k + 1) n (upd mh k (mh (k + 31))) (by omega) (by omega) (fun j hj => ?_) (fun j hj => ?_)
    · by_cases e : j = k
      · rw [e, upd_eq]; exact h2 _ (by omega)
      · rw [upd_ne e]; exact h1 j (by omega)
    · rw [upd_ne (by omega)]; exact h2 j (by omega)
theorem z_mrem (st mh : Nat → Int32) {h : Nat} (hh : h ≤ 14) : ∃ m2 : Nat → Int32, f_X6_remember_0 st (iI h) mh = some (iI (min (h + 1) 14 : Nat), m2) ∧ (∀ j, j < 31 → m2 (31 * (min (h + 1) 14 - 1) + j) = st j) ∧ ∀ j, j < 31 * (min (h + 1) 14 - 1) → m2 j = mh (if h = 14 then j + 31 else j) := by
  unfold f_X6_remember_0
  by_cases e : h = 14
  · subst e
    rw [if_pos (show iI (14 : Nat) = 14 from rfl)]
    obtain ⟨m1, e1, h1⟩ := z_mrem11 st mh 403 0 fuel mh (by omega) (by unfold fuel; omega) (fun j hj => by omega) (fun _ _ => rfl)
    have e1' : f_X6_remember_11 st fuel (iI (14 : Nat)) mh 0 = _ := e1
    rw [e1']
    obtain ⟨m2, e2, h2, h3⟩ := z_mrem51 st (show 13 < 14 by omega) 31 0 fuel m1 (by omega) (by unfold fuel; omega) (fun j hj => by omega)
    have e2' : f_X6_remember_51 st fuel (iI (13 : Nat)) m1 0 = _ := e2
    rw [e2']
    exact ⟨m2, rfl, h2, fun j hj => by rw [if_pos rfl, h3 j (by omega), h1 j (by omega)]⟩
  · rw [if_neg (by rw [q_14, iI_eq] <;> omega)]
    obtain ⟨m2, e2, h2, h3⟩ := z_mrem51 st (show h < 14 by omega) 31 0 fuel mh (by omega) (by unfold fuel; omega) (fun j hj => by omega)
    have e2' : f_X6_remember_51 st fuel (iI h) mh 0 = _ := e2
    rw [e2', show min (h + 1) 14 = h + 1 by omega, show h + 1 - 1 = h by omega]
    exact ⟨m2, rfl, h2, fun j hj => by rw [if_neg e, h3 j hj]⟩
theorem z_rem (cnt : Int32) (x y w : Nat → Int32) {n h : Nat} (hn : n < 14) (hh : h ≤ 14) (hc : Int32) (hx hy hw : Nat → Int32) : ∃ x2 y2 w2 : Nat → Int32, f_X5_remember_0 cnt x y w (nI ((n + 1) % 14)) (iI n) (iI h) hc hx hy hw = some (iI ((n + 1) % 14 : Nat), iI (min (h + 1) 14 : Nat), cnt, x2, y2, w2) ∧ ∀ j, j < 10 → x2 j = x j ∧ y2 j = y j ∧ w2 j = w j := by
  obtain ⟨x2, y2, w2, e1, k1⟩ := z_copy cnt x y w hc hx hy hw
  refine ⟨x2, y2, w2, ?_, k1⟩
  unfold f_X5_remember_0 f_X5_remember_20
  have em : mnI (iI h + (1 : Int32)) (14 : Int32) = iI (min (h + 1) 14 : Nat) := by
    rw [iI_p1, q_14, mnI_iI (by omega) (by omega) (by omega) (by omega)]
    congr 1
    omega
  by_cases e : n = 13
  · subst e
    rw [if_pos (show iI (13 : Nat) = 13 from rfl), nI_iI, show iI ((13 + 1) % 14 : Nat) = iI 0 from rfl, q_0, gIx_iI (by omega) (by omega) (by omega), gEq_rf, e1, bnd4_some, em, nm_eq]
  · have e2 : (n + 1) % 14 = n + 1 := by omega
    rw [if_neg (by rw [q_13, iI_eq] <;> omega), e2, iI_p1, nI_iI, gIx_iI (by omega) (by omega) (by omega), gEq_rf, e1, bnd4_some, em, nm_eq]
theorem z_remb {cnt : Int32} {x y w st : Nat → Int32} {n h : Nat} {σ : Nat → S4} {mh : Nat → Int32} (hS : SameS cnt x y w st) (hn : n < 14) (hh : h ≤ 14) (hH : HI n h σ mh) :
    ∃ (g h' : Nat) (x2 y2 w2 m2 : Nat → Int32), g < 14 ∧ h' ≤ 14 ∧ f_X5_remember_0 cnt x y w (nI g) (iI n) (iI h) (σ g).1 (σ g).2.1 (σ g).2.2.1 (σ g).2.2.2 = some (iI g, iI h', cnt, x2, y2, w2) ∧ f_X6_remember_0 st (iI h) mh = some (iI h', m2) ∧ HI g h' (va_up σ g (cnt, x2, y2, w2)) m2 ∧ g = (n + 1) % 14 ∧ h' = min (h + 1) 14 ∧ ∀ j, j < 10 → x2 j = x j ∧ y2 j = y j ∧ w2 j = w j := by
  obtain ⟨x2, y2, w2, e1, k1⟩ := z_rem cnt x y w hn hh (σ ((n + 1) % 14)).1 (σ ((n + 1) % 14)).2.1 (σ ((n + 1) % 14)).2.2.1 (σ ((n + 1) % 14)).2.2.2
  obtain ⟨m2, e2, k2, k3⟩ := z_mrem st mh hh
  refine ⟨(n + 1) % 14, min (h + 1) 14, x2, y2, w2, m2, by omega, by omega, e1, e2, fun j hj => ?_, rfl, rfl, k1⟩
  by_cases ej : j = 0
  · subst ej
    rw [show ((n + 1) % 14 + 14 - 0) % 14 = (n + 1) % 14 by omega, up_eq]
    exact SameS_cp hS k1 (fun j hj => by rw [Nat.sub_zero]; exact k2 j hj)
  · have e3 : ((n + 1) % 14 + 14 - j) % 14 = (n + 14 - (j - 1)) % 14 := by omega
    rw [e3, up_ne (by omega)]
    refine SameS_st (hH (j - 1) (by omega)) (fun k hk => ?_)
    show m2 (31 * (min (h + 1) 14 - 1 - j) + k) = mh (31 * (h - 1 - (j - 1)) + k)
    rw [k3 _ (by omega)]
    congr 1
    by_cases e : h = 14
    · rw [if_pos e]; omega
    · rw [if_neg e]; omega
/-! undo -/
theorem z_mundo (mh : Nat → Int32) {h : Nat} (hh : h < 14) (t : Int32) :
    ∀ (e k n : Nat) (st : Nat → Int32), k + e = 31 → e < n → (∀ j, j < k → st j = mh (31 * h + j)) → ∃ s2 : Nat → Int32, f_X6_undo_27 mh n t (iI h) st (iI k) = some (iI h, t, iI h, s2) ∧ ∀ j, j < 31 → s2 j = mh (31 * h + j) := by
  intro e
  induction e with
  | zero =>
    intro k n st hk hn h'
    obtain ⟨n, rfl⟩ : ∃ k, n = k + 1 := ⟨n - 1, by omega⟩
    have e : k = 31 := by omega
    subst e
    refine ⟨st, ?_, h'⟩
    have key : ∀ a1 a2 a3 v, f_X6_undo_27 mh (n + 1) a1 a2 a3 v = g_X6_undo_27 mh (f_X6_undo_27 mh n) a1 a2 a3 v := fun _ _ _ _ => rfl
    rw [key]
    unfold g_X6_undo_27
    rw [if_pos (by rw [q_31, iI_le] <;> omega)]
  | succ e ih =>
    intro k n st hk hn h'
    obtain ⟨n, rfl⟩ : ∃ k, n = k + 1 := ⟨n - 1, by omega⟩
    have key : ∀ a1 a2 a3 v, f_X6_undo_27 mh (n + 1) a1 a2 a3 v = g_X6_undo_27 mh (f_X6_undo_27 mh n) a1 a2 a3 v := fun _ _ _ _ => rfl
    rw [key]
    unfold g_X6_undo_27
    rw [if_neg (by rw [q_31, iI_le] <;> omega), iI_31, gIx_iI (by omega) (by omega) (by omega), gIx_iI (by omega) (by omega) (by omega), iI_clN (by omega), iI_clN (by omega), iI_p1]
    exact ih (k + 1) n (upd st k (mh (31 * h + k))) (by omega) (by omega) (fun j hj => by
      by_cases e : j = k
      · rw [e, upd_eq]
      · rw [upd_ne e]; exact h' j (by omega))
theorem o13_IV : op_13 IV := by
  intro xl xc cnt x y w nw rem filled sn sx sy so σ τ ml mt st mrem mh ms mused mob msx msy mss t hI
  have hI0 := hI
  obtain ⟨h1, h2, ⟨h, n, q1, q2, q3, q4, q5, q6⟩, h4, h5⟩ := hI
  unfold f_X5_undo_0 f_X6_undo_0
  by_cases e : h = 0
  · subst e
    refine ⟨_, Nat.mod_lt _ (by decide), rfl, ?_⟩
    rw [if_pos (by rw [q4]; rfl), if_pos (by rw [q5]; rfl)]
    exact ⟨_, _, _, _, _, _, _, _, _, _, rfl, rfl, hI0⟩
  · refine ⟨n, q2, by rw [q3, iI_clN (by omega)]; omega, ?_⟩
    obtain ⟨h, rfl⟩ : ∃ k, h = k + 1 := ⟨h - 1, by omega⟩
    have em : iI ((h + 1 : Nat) : Int) - (1 : Int32) = iI (h : Nat) := by rw [q_1, iI_sub]; congr 1; omega
    rw [if_neg (by rw [q4, q_0, iI_eq] <;> omega), if_neg (by rw [q5, q_0, iI_eq] <;> omega), q4, q5, q3, gIx_iI (by omega) (by omega) (by omega), nI_iI, gEq_rf, em, nm_eq]
    obtain ⟨x2, y2, w2, e1, k1⟩ := z_copy (σ n).1 (σ n).2.1 (σ n).2.2.1 (σ n).2.2.2 cnt x y w
    rw [e1, bnd4_some]
    obtain ⟨s2, e2, k2⟩ := z_mundo mh (show h < 14 by omega) 0 31 0 fuel st (by omega) (by unfold fuel; omega) (fun j hj => by omega)
    have e2' : f_X6_undo_27 mh fuel 0 (iI h) st 0 = _ := e2
    rw [e2']
    have hS : SameS (σ n).1 x2 y2 w2 s2 := by
      have := q6 0 (by omega)
      rw [show (n + 14 - 0) % 14 = n by omega] at this
      exact SameS_cp this k1 (fun j hj => by rw [k2 j hj]; show _ = mh _; congr 1)
    unfold f_X5_undo_45
    rw [em, nm_eq]
    have hH : ∀ n' : Nat, n' < 14 → n = (n' + 1) % 14 → ∀ j, j < h → SameS (σ ((n' + 14 - j) % 14)).1 (σ ((n' + 14 - j) % 14)).2.1 (σ ((n' + 14 - j) % 14)).2.2.1 (σ ((n' + 14 - j) % 14)).2.2.2 (fun k => mh (31 * (h - 1 - j) + k)) := by
      intro n' hn' en j hj
      have := q6 (j + 1) (by omega)
      rw [show (n + 14 - (j + 1)) % 14 = (n' + 14 - j) % 14 by omega] at this
      exact SameS_st this (fun k hk => by show mh _ = mh _; congr 1; omega)
    by_cases en : n = 0
    · subst en
      rw [if_pos (show iI (0 : Nat) = 0 from rfl)]
      exact ⟨_, _, _, _, _, _, _, _, _, _, rfl, rfl, hS, h2, ⟨h, 13, by omega, by omega, rfl, rfl, rfl, hH 13 (by omega) (by omega)⟩, h4, h5⟩
    · obtain ⟨n, rfl⟩ : ∃ k, n = k + 1 := ⟨n - 1, by omega⟩
      have em2 : iI ((n + 1 : Nat) : Int) - (1 : Int32) = iI (n : Nat) := by rw [q_1, iI_sub]; congr 1; omega
      rw [if_neg (by rw [q_0, iI_eq] <;> omega), em2]
      exact ⟨_, _, _, _, _, _, _, _, _, _, rfl, rfl, hS, h2, ⟨h, n, by omega, by omega, rfl, rfl, rfl, hH n (by omega) (by omega)⟩, h4, h5⟩
