/-! ===== the text: append, errorPosition, load ===== -/
theorem o0_IV : op_0 IV := by
  intro xl xc cnt x y w nw rem filled sn sx sy so σ τ ml mt st mrem mh ms mused mob msx msy mss t p hI
  have hI0 := hI
  obtain ⟨h1, ⟨n, n1, n2, n3, n4⟩, h3⟩ := hI
  subst n2 n3
  obtain ⟨z, z1, z2, rfl⟩ := i_ex p
  unfold f_X5_append_0 f_X6_append_0
  rw [iI_l z1 z2, ql_0, ql_255, z_in _ _ _ (by omega) (by omega) (by omega) (by omega) (by omega) (by omega), bnd_some]
  by_cases g1 : z < 0
  · rw [if_pos (show iI z < 0 by rw [q_0, iI_lt] <;> omega), if_neg (show ¬ ((0 : Int) ≤ z ∧ z ≤ 255) by omega), if_pos rfl]
    exact ⟨_, _, _, _, _, _, rfl, rfl, hI0⟩
  · rw [if_neg (show ¬ iI z < 0 by rw [q_0, iI_lt] <;> omega)]
    by_cases g2 : z ≤ 255
    · rw [if_pos (show iI z ≤ 255 by rw [q_255, iI_le] <;> omega), if_pos (show (0 : Int) ≤ z ∧ z ≤ 255 by omega), if_neg (show ¬ (1 : Int32) = 0 by decide)]
      unfold f_X3_put_0
      by_cases g3 : n < 80
      · rw [if_pos (show iI (n : Nat) < 80 by rw [q_80, iI_lt] <;> omega), if_neg (show ¬ iI (n : Nat) = 80 by rw [q_80, iI_eq] <;> omega), gIx_iI (by omega) (by omega) (by omega), gIx_iI (by omega) (by omega) (by omega), nm_eq, nm_eq, iI_p1, iI_clN (by omega), bnd3_some, if_neg (show ¬ (1 : Int32) = 0 by decide)]
        refine ⟨_, _, _, _, _, _, rfl, rfl, h1, ⟨n + 1, by omega, rfl, rfl, fun k hk => ?_⟩, h3⟩
        by_cases e : k = n
        · rw [e, upd_eq, upd_eq]
          exact ⟨rfl, z, by omega, by omega, rfl⟩
        · rw [upd_ne e, upd_ne e]
          exact n4 k (by omega)
      · rw [if_neg (show ¬ iI (n : Nat) < 80 by rw [q_80, iI_lt] <;> omega), if_pos (show iI (n : Nat) = 80 by rw [show n = 80 by omega]; rfl), bnd3_some, if_pos rfl]
        exact ⟨_, _, _, _, _, _, rfl, rfl, hI0⟩
    · rw [if_neg (show ¬ iI z ≤ 255 by rw [q_255, iI_le] <;> omega), if_neg (show ¬ ((0 : Int) ≤ z ∧ z ≤ 255) by omega), if_pos rfl]
      exact ⟨_, _, _, _, _, _, rfl, rfl, hI0⟩
/-! what may stand at a place of the text -/
def gd (T : Nat → Int) (k : Nat) : Int :=
  if (k - 1) % 7 = 0 then 2 else if (k - 1) % 7 = 1 then (if T (k - 1) = 50 then 0 else 9) else if (k - 1) % 7 = 2 then 2 else if (k - 1) % 7 = 3 then (if T (k - 1) = 50 then 0 else 9) else if (k - 1) % 7 = 4 then 4 else if (k - 1) % 7 = 5 then (if T (k - 1) = 52 then 0 else 9) else if T (k - 2) = 52 then 0 else 9
def OKt (T : Nat → Int) (k : Nat) : Prop := if k = 0 then T 0 = 80 else k ≤ 70 ∧ 48 ≤ T k ∧ T k ≤ 48 + gd T k
def ANS (T : Nat → Int) (n : Nat) (r : Int) : Prop := (∃ k : Nat, k < n ∧ (∀ j, j < k → OKt T j) ∧ ¬ OKt T k ∧ r = k) ∨ ((∀ j, j < n → OKt T j) ∧ r = if n % 7 = 1 then (-9 : Int) else (n : Int))
theorem ANS_un {T : Nat → Int} {n : Nat} {r r' : Int} (h : ANS T n r) (h' : ANS T n r') : r = r' := by
  rcases h with ⟨k, k1, k2, k3, k4⟩ | ⟨k1, k2⟩
  · rcases h' with ⟨m, m1, m2, m3, m4⟩ | ⟨m1, m2⟩
    · rcases Nat.lt_trichotomy k m with q | q | q
      · exact absurd (m2 k q) k3
      · rw [k4, m4, q]
      · exact absurd (k2 m q) m3
    · exact absurd (m1 k k1) k3
  · rcases h' with ⟨m, m1, m2, m3, m4⟩ | ⟨m1, m2⟩
    · exact absurd (k1 m m1) m3
    · rw [k2, m2]
theorem ANS_b {T : Nat → Int} {n : Nat} {r : Int} (h : ANS T n r) (hn : n ≤ 80) : -9 ≤ r ∧ r ≤ 80 := by
  rcases h with ⟨k, k1, k2, k3, k4⟩ | ⟨k1, k2⟩
  · omega
  · split at k2 <;> omega
theorem OKt_0 (T : Nat → Int) : OKt T 0 ↔ T 0 = 80 := by unfold OKt; rw [if_pos rfl]
theorem OKt_d {T : Nat → Int} {k : Nat} (h1 : 1 ≤ k) : OKt T k ↔ k ≤ 70 ∧ 48 ≤ T k ∧ T k ≤ 48 + gd T k := by unfold OKt; rw [if_neg (by omega)]
theorem gd_0 {T : Nat → Int} {k : Nat} (h : (k - 1) % 7 = 0) : gd T k = 2 := by unfold gd; rw [if_pos h]
theorem gd_1 {T : Nat → Int} {k : Nat} (h : (k - 1) % 7 = 1) : gd T k = if T (k - 1) = 50 then 0 else 9 := by
  unfold gd
  rw [if_neg (show ¬ (k - 1) % 7 = 0 by omega), if_pos h]
theorem gd_2 {T : Nat → Int} {k : Nat} (h : (k - 1) % 7 = 2) : gd T k = 2 := by
  unfold gd
  rw [if_neg (show ¬ (k - 1) % 7 = 0 by omega), if_neg (show ¬ (k - 1) % 7 = 1 by omega), if_pos h]
theorem gd_3 {T : Nat → Int} {k : Nat} (h : (k - 1) % 7 = 3) : gd T k = if T (k - 1) = 50 then 0 else 9 := by
  unfold gd
  rw [if_neg (show ¬ (k - 1) % 7 = 0 by omega), if_neg (show ¬ (k - 1) % 7 = 1 by omega), if_neg (show ¬ (k - 1) % 7 = 2 by omega), if_pos h]
theorem gd_4 {T : Nat → Int} {k : Nat} (h : (k - 1) % 7 = 4) : gd T k = 4 := by
  unfold gd
  rw [if_neg (show ¬ (k - 1) % 7 = 0 by omega), if_neg (show ¬ (k - 1) % 7 = 1 by omega), if_neg (show ¬ (k - 1) % 7 = 2 by omega), if_neg (show ¬ (k - 1) % 7 = 3 by omega), if_pos h]
theorem gd_5 {T : Nat → Int} {k : Nat} (h : (k - 1) % 7 = 5) : gd T k = if T (k - 1) = 52 then 0 else 9 := by
  unfold gd
  rw [if_neg (show ¬ (k - 1) % 7 = 0 by omega), if_neg (show ¬ (k - 1) % 7 = 1 by omega), if_neg (show ¬ (k - 1) % 7 = 2 by omega), if_neg (show ¬ (k - 1) % 7 = 3 by omega), if_neg (show ¬ (k - 1) % 7 = 4 by omega), if_pos h]
theorem gd_6 {T : Nat → Int} {k : Nat} (h : (k - 1) % 7 = 6) : gd T k = if T (k - 2) = 52 then 0 else 9 := by
  unfold gd
  rw [if_neg (show ¬ (k - 1) % 7 = 0 by omega), if_neg (show ¬ (k - 1) % 7 = 1 by omega), if_neg (show ¬ (k - 1) % 7 = 2 by omega), if_neg (show ¬ (k - 1) % 7 = 3 by omega), if_neg (show ¬ (k - 1) % 7 = 4 by omega), if_neg (show ¬ (k - 1) % 7 = 5 by omega)]
section ZTX
variable {n : Nat} {T : Nat → Int} {xc mt : Nat → Int32}
theorem z_cat (hn : n ≤ 80) {k : Nat} (hk : k < n) : f_X3_characterAt_0 (iI n) xc (iI k) = some (xc k) := by
  unfold f_X3_characterAt_0
  rw [if_neg (by rw [q_0, iI_lt] <;> omega), if_neg (by rw [iI_le] <;> omega), gIx_iI (by omega) (by omega) (by omega), iI_clN (by omega)]
theorem iI_s2 (k : Nat) : iI ((k + 2 : Nat) : Int) - (2 : Int32) = iI (k : Int) := by rw [q_2, iI_sub]; congr 1; omega
theorem iI_m7 (k : Nat) (h : k ≤ 1000) : iI (k : Int) - iI (k : Int) / (7 : Int32) * (7 : Int32) = iI ((k % 7 : Nat) : Int) := by
  rw [q_7, iI_rem (by omega) (by omega) (by omega) (by omega)]
  congr 1
theorem ch_ite {a b : Int} (ha : 0 ≤ a ∧ a ≤ 255) (hb : 0 ≤ b ∧ b ≤ 255) : (if iI a = iI b then (some (48 : Int32)) else (some (57 : Int32))) = some (iI (48 + if a = b then 0 else 9)) := by
  by_cases e : a = b
  · rw [if_pos (by rw [e]), if_pos e]; rfl
  · rw [if_neg (by rw [iI_eq] <;> omega), if_neg e]; rfl
theorem z_gd (hn : n ≤ 80) (hT : ∀ k, k < n → xc k = iI (T k) ∧ 0 ≤ T k ∧ T k ≤ 255) {k : Nat} (hk : k < n) (hk1 : 1 ≤ k) : f_X3_greatestDigitAt_0 (iI n) xc (iI k) = some (iI (48 + gd T k)) := by
  obtain ⟨k, rfl⟩ : ∃ k', k = k' + 1 := ⟨k - 1, by omega⟩
  unfold f_X3_greatestDigitAt_0
  rw [iI_s1, iI_m7 k (by omega), nm_eq]
  have t1 := hT k (by omega)
  have hm : k % 7 < 7 := Nat.mod_lt _ (by omega)
  by_cases m0 : k % 7 = 0
  · rw [if_pos (by rw [m0]; rfl), gd_0 (by omega)]; rfl
  rw [if_neg (by rw [q_0, iI_eq] <;> omega)]
  by_cases m1 : k % 7 = 1
  · rw [if_pos (by rw [m1]; rfl), gd_1 (by omega), z_cat hn (by omega), bnd_some, t1.1]
    exact ch_ite (b := 50) t1.2 (by omega)
  rw [if_neg (by rw [q_1, iI_eq] <;> omega)]
  by_cases m2 : k % 7 = 2
  · rw [if_pos (by rw [m2]; rfl), gd_2 (by omega)]; rfl
  rw [if_neg (by rw [q_2, iI_eq] <;> omega)]
  by_cases m3 : k % 7 = 3
  · rw [if_pos (by rw [m3]; rfl), gd_3 (by omega), z_cat hn (by omega), bnd_some, t1.1]
    exact ch_ite (b := 50) t1.2 (by omega)
  rw [if_neg (by rw [q_3, iI_eq] <;> omega)]
  by_cases m4 : k % 7 = 4
  · rw [if_pos (by rw [m4]; rfl), gd_4 (by omega)]; rfl
  rw [if_neg (by rw [q_4, iI_eq] <;> omega)]
  by_cases m5 : k % 7 = 5
  · rw [if_pos (by rw [m5]; rfl), gd_5 (by omega), z_cat hn (by omega), bnd_some, t1.1]
    exact ch_ite (b := 52) t1.2 (by omega)
  rw [if_neg (by rw [q_5, iI_eq] <;> omega), gd_6 (by omega)]
  obtain ⟨k, rfl⟩ : ∃ k', k = k' + 1 := ⟨k - 1, by omega⟩
  have t2 := hT k (by omega)
  rw [show k + 1 + 1 = k + 2 by omega, iI_s2, z_cat hn (by omega), bnd_some, t2.1]
  exact ch_ite (b := 52) t2.2 (by omega)
theorem gd_b (T : Nat → Int) (k : Nat) : 0 ≤ gd T k ∧ gd T k ≤ 9 := by
  unfold gd
  repeat' split
  all_goals omega
theorem z_may (hn : n ≤ 80) (hT : ∀ k, k < n → xc k = iI (T k) ∧ 0 ≤ T k ∧ T k ≤ 255) {k : Nat} (hk : k < n) : (OKt T k → f_X3_mayStandAt_0 (iI n) xc (iI k) = some 1) ∧ (¬ OKt T k → f_X3_mayStandAt_0 (iI n) xc (iI k) = some 0) := by
  have t := hT k hk
  unfold f_X3_mayStandAt_0
  rw [gIx_iI (by omega) (by omega) (by omega), iI_clN (by omega), nm_eq, t.1]
  by_cases e0 : k = 0
  · subst e0
    rw [if_pos (by rfl), OKt_0]
    by_cases e : T 0 = 80
    · rw [if_pos (by rw [e]; rfl)]
      exact ⟨fun _ => rfl, fun h => absurd e h⟩
    · rw [if_neg (by rw [q_80, iI_eq] <;> omega)]
      exact ⟨fun h => absurd h e, fun _ => rfl⟩
  · rw [if_neg (by rw [q_0, iI_eq] <;> omega), OKt_d (by omega)]
    by_cases e7 : k ≤ 70
    · rw [if_pos (by rw [q_70, iI_le] <;> omega)]
      by_cases e48 : T k < 48
      · rw [if_pos (by rw [q_48, iI_lt] <;> omega)]
        exact ⟨fun h => by omega, fun _ => rfl⟩
      · have hg := gd_b T k
        rw [if_neg (by rw [q_48, iI_lt] <;> omega), z_gd hn hT hk (by omega), bnd_some]
        by_cases eg : 48 + gd T k < T k
        · rw [if_pos (by rw [iI_lt] <;> omega)]
          exact ⟨fun h => by omega, fun _ => rfl⟩
        · rw [if_neg (by rw [iI_lt] <;> omega)]
          exact ⟨fun _ => rfl, fun h => absurd ⟨by omega, by omega, by omega⟩ h⟩
    · rw [if_neg (by rw [q_70, iI_le] <;> omega)]
      exact ⟨fun h => by omega, fun _ => rfl⟩
theorem z_fe2 (hn : n ≤ 80) (hT : ∀ k, k < n → xc k = iI (T k) ∧ 0 ≤ T k ∧ T k ≤ 255) :
    ∀ (e k f : Nat), k + e = n → e < f → (∀ j, j < k → OKt T j) → ∃ r, f_X3_firstError_2 (iI n) xc f (iI k) = some (iI r) ∧ ANS T n r := by
  intro e
  induction e with
  | zero =>
    intro k f hk hf h
    obtain ⟨f, rfl⟩ : ∃ k, f = k + 1 := ⟨f - 1, by omega⟩
    have e : k = n := by omega
    subst e
    have key : ∀ v, f_X3_firstError_2 (iI k) xc (f + 1) v = g_X3_firstError_2 (iI k) xc (f_X3_firstError_2 (iI k) xc f) v := fun _ => rfl
    rw [key]
    unfold g_X3_firstError_2
    rw [if_pos (by rw [iI_le] <;> omega), iI_m7 k (by omega)]
    by_cases e : k % 7 = 1
    · rw [if_pos (by rw [e]; rfl)]
      exact ⟨-9, rfl, Or.inr ⟨h, by rw [if_pos e]⟩⟩
    · rw [if_neg (by rw [q_1, iI_eq] <;> omega)]
      exact ⟨k, rfl, Or.inr ⟨h, by rw [if_neg e]⟩⟩
  | succ e ih =>
    intro k f hk hf h
    obtain ⟨f, rfl⟩ : ∃ k, f = k + 1 := ⟨f - 1, by omega⟩
    have key : ∀ v, f_X3_firstError_2 (iI n) xc (f + 1) v = g_X3_firstError_2 (iI n) xc (f_X3_firstError_2 (iI n) xc f) v := fun _ => rfl
    rw [key]
    unfold g_X3_firstError_2
    rw [if_neg (by rw [iI_le] <;> omega)]
    obtain ⟨m1, m2⟩ := z_may hn hT (show k < n by omega)
    rcases Classical.em (OKt T k) with q | q
    · rw [m1 q, bnd_some, if_neg (by decide), iI_p1]
      refine ih (k + 1) f (by omega) (by omega) (fun j hj => ?_)
      by_cases e : j = k
      · rw [e]; exact q
      · exact h j (by omega)
    · rw [m2 q, bnd_some, if_pos rfl]
      exact ⟨k, rfl, Or.inl ⟨k, by omega, h, q, rfl⟩⟩
theorem z_fe (hn : n ≤ 80) (hT : ∀ k, k < n → xc k = iI (T k) ∧ 0 ≤ T k ∧ T k ≤ 255) : ∃ r, f_X3_firstError_0 (iI n) xc = some (iI r) ∧ ANS T n r :=
  z_fe2 hn hT n 0 fuel (by omega) (by unfold fuel; omega) (fun j hj => by omega)
/-! the reference's numbers -/
theorem z_n78 (k19 : Int32 → Int32 → Int32 → Int32 → Int32 → Int32 → Option R_X6_number) (ts : Int32) (pos : Nat) (x1 x2 : Int32) (u : Nat) (hu : u ≤ 100) (v : Int) (m : Nat) {d hi : Int} (d1 : -300 ≤ d) (d2 : d ≤ 300) (hi1 : 0 ≤ hi) (hi2 : hi ≤ 9) :
    f_X6_number_78 k19 ts mt (iI pos) x1 x2 (iI u) (iI v) (iI m) (iI d) (iI hi) = if 0 ≤ d ∧ d ≤ hi then k19 (iI (pos + 1 : Nat)) x1 x2 (iI (u / 10 : Nat)) (iI (v + d * u)) (iI (m + 1 : Nat)) else some (-9, iI pos) := by
  unfold f_X6_number_78
  rw [iI_l (by omega) (by omega), iI_l (by omega) (by omega), ql_0, z_in _ _ _ (by omega) (by omega) (by omega) (by omega) (by omega) (by omega), bnd_some]
  by_cases h : 0 ≤ d ∧ d ≤ hi
  · rw [if_pos h, if_pos h, if_neg (by decide), nm_eq, nm_eq, nm_eq, iI_p1, iI_p1, iI_mul, iI_add, q_10, iI_div (by omega) (by omega) (by omega) (by omega)]
    rfl
  · rw [if_neg h, if_neg h, if_pos rfl]
theorem z_n19 (hn : n ≤ 80) (hT : ∀ k, k < n → mt k = iI (T k) ∧ 0 ≤ T k ∧ T k ≤ 255) (f : Nat) {pos dg mo u m qh : Nat} {v : Int} (hm : m < dg) (hdg : dg ≤ 3) (hmo : mo ≤ 400) (hu : 0 < u) (hu2 : u ≤ 100) (v1 : 0 ≤ v) (v2 : v ≤ 1000) (hmu : m = 0 → mo / u = qh ∧ qh ≤ 9) (hp : pos ≤ n) :
    f_X6_number_19 (iI n) mt (f + 1) (iI pos) (iI dg) (iI mo) (iI u) (iI v) (iI m) = if pos < n ∧ 48 ≤ T pos ∧ T pos ≤ 48 + (if m = 0 then (qh : Int) else if v = mo then 0 else 9) then f_X6_number_19 (iI n) mt f (iI (pos + 1 : Nat)) (iI dg) (iI mo) (iI (u / 10 : Nat)) (iI (v + (T pos - 48) * u)) (iI (m + 1 : Nat)) else some (-9, iI pos) := by
  have key : f_X6_number_19 (iI n) mt (f + 1) (iI pos) (iI dg) (iI mo) (iI u) (iI v) (iI m) = g_X6_number_19 (iI n) mt (f_X6_number_19 (iI n) mt f) (iI pos) (iI dg) (iI mo) (iI u) (iI v) (iI m) := rfl
  rw [key]
  unfold g_X6_number_19
  rw [if_neg (by rw [iI_le] <;> omega)]
  have k53 : ∀ d : Int, -300 ≤ d → d ≤ 300 → f_X6_number_53 (f_X6_number_19 (iI n) mt f) (iI n) mt (iI pos) (iI dg) (iI mo) (iI u) (iI v) (iI m) (iI d) = if 0 ≤ d ∧ d ≤ (if m = 0 then (qh : Int) else if v = mo then 0 else 9) then f_X6_number_19 (iI n) mt f (iI (pos + 1 : Nat)) (iI dg) (iI mo) (iI (u / 10 : Nat)) (iI (v + d * u)) (iI (m + 1 : Nat)) else some (-9, iI pos) := by
    intro d d1 d2
    unfold f_X6_number_53
    by_cases e0 : m = 0
    · obtain ⟨hmu, hq9⟩ := hmu e0
      have ed : iI (mo : Int) / iI (u : Int) = iI (qh : Int) := by
        rw [iI_div (by omega) (by omega) (by omega) (by omega), ← hmu]; rfl
      rw [if_pos (by rw [e0]; rfl), gNz_ne (by rw [q_0, iI_eq] <;> omega), ed, z_n78 _ _ _ _ _ _ hu2 _ _ d1 d2 (by omega) (by omega), if_pos e0]
    · rw [if_neg (by rw [q_0, iI_eq] <;> omega), if_neg e0]
      by_cases ev : v = mo
      · rw [if_pos (by rw [ev]), if_pos ev, q_0]
        exact z_n78 _ _ _ _ _ _ hu2 _ _ d1 d2 (by omega) (by omega)
      · rw [if_neg (by rw [iI_eq] <;> omega), if_neg ev, q_9]
        exact z_n78 _ _ _ _ _ _ hu2 _ _ d1 d2 (by omega) (by omega)
  by_cases hq : pos < n
  · have t := hT pos hq
    rw [if_neg (by rw [iI_le] <;> omega), gIx_iI (by omega) (by omega) (by omega), iI_clN (by omega), t.1, q_48, iI_sub, k53 _ (by omega) (by omega)]
    generalize (if m = 0 then (qh : Int) else if v = mo then 0 else 9) = hi
    by_cases h : 0 ≤ T pos - 48 ∧ T pos - 48 ≤ hi
    · rw [if_pos h, if_pos (by omega)]
    · rw [if_neg h, if_neg (by omega)]
  · rw [if_pos (by rw [iI_le] <;> omega), if_neg (show ¬ (pos < n ∧ _) from fun h => hq h.1)]
    have := k53 (-9) (by omega) (by omega)
    rw [if_neg (by omega)] at this
    exact this
theorem z_n19e (f : Nat) (ts pos x2 x3 x4 x1 : Int32) : f_X6_number_19 ts mt (f + 1) pos x1 x2 x3 x4 x1 = some (x4, pos) := by
  have key : f_X6_number_19 ts mt (f + 1) pos x1 x2 x3 x4 x1 = g_X6_number_19 ts mt (f_X6_number_19 ts mt f) pos x1 x2 x3 x4 x1 := rfl
  rw [key]
  unfold g_X6_number_19
  rw [if_pos (Int32.le_refl _)]
/-- what the reference's number says -/
def ND (T : Nat → Int) (n P dg : Nat) (val r : Int) (q : Nat) : Prop := (r = -9 ∧ P ≤ q ∧ q < P + dg ∧ (∀ j, P ≤ j → j < q → j < n ∧ OKt T j) ∧ ¬ (q < n ∧ OKt T q)) ∨ (q = P + dg ∧ r = val ∧ 0 ≤ r ∧ r ≤ 400 ∧ ∀ j, P ≤ j → j < P + dg → j < n ∧ OKt T j)
theorem z_num2 (hn : n ≤ 80) (hT : ∀ k, k < n → mt k = iI (T k) ∧ 0 ≤ T k ∧ T k ≤ 255) {P : Nat} (hP : P ≤ n) (hP2 : 1 ≤ P ∧ P + 1 ≤ 70) (hP7 : (P - 1) % 7 = 0 ∨ (P - 1) % 7 = 2) : ∃ (r : Int) (q : Nat), f_X6_number_0 (iI n) mt (iI P) (2 : Int32) (20 : Int32) = some (iI r, iI q) ∧ ND T n P 2 (10 * (T P - 48) + (T (P + 1) - 48)) r q := by
  unfold f_X6_number_0
  rw [if_pos rfl]
  have e1 := z_n19 (f := 999) (dg := 2) (mo := 20) (u := 10) (qh := 2) (m := 0) (v := 0) (pos := P) hn hT (by omega) (by omega) (by omega) (by omega) (by omega) (by omega) (by omega) (by omega) hP
  have e1' : f_X6_number_19 (iI n) mt fuel (iI P) (2 : Int32) (20 : Int32) (10 : Int32) (0 : Int32) (0 : Int32) = _ := e1
  rw [e1']
  have o1 : OKt T P ↔ 48 ≤ T P ∧ T P ≤ 50 := by
    rw [OKt_d hP2.1]
    rcases hP7 with q | q
    · rw [gd_0 q]; omega
    · rw [gd_2 q]; omega
  have o2 : OKt T (P + 1) ↔ 48 ≤ T (P + 1) ∧ T (P + 1) ≤ 48 + if T P = 50 then 0 else 9 := by
    rw [OKt_d (by omega)]
    have : gd T (P + 1) = if T P = 50 then 0 else 9 := by
      rcases hP7 with q | q
      · rw [gd_1 (by omega)]; rfl
      · rw [gd_3 (by omega)]; rfl
    rw [this]
    constructor
    · exact fun h => ⟨h.2.1, h.2.2⟩
    · exact fun h => ⟨by omega, h.1, h.2⟩
  by_cases h1 : P < n ∧ 48 ≤ T P ∧ T P ≤ 50
  · rw [if_pos (by rw [if_pos rfl]; exact h1)]
    rw [z_n19 (f := 998) (dg := 2) (mo := 20) (qh := 0) (m := 0 + 1) (pos := P + 1) hn hT (by omega) (by omega) (by omega) (by omega) (by omega) (by omega) (by omega) (by omega) (by omega)]
    have ei : (if (0 + 1 : Nat) = 0 then ((0 : Nat) : Int) else if 0 + (T P - 48) * ((10 : Nat) : Int) = ((20 : Nat) : Int) then 0 else 9) = if T P = 50 then 0 else 9 := by
      rw [if_neg (by omega)]
      by_cases e : T P = 50
      · rw [if_pos e, if_pos (by omega)]
      · rw [if_neg e, if_neg (by omega)]
    rw [ei]
    by_cases h2 : P + 1 < n ∧ 48 ≤ T (P + 1) ∧ T (P + 1) ≤ 48 + if T P = 50 then 0 else 9
    · rw [if_pos h2]
      have e3 := z_n19e (mt := mt) 997 (iI n) (iI (P + 1 + 1 : Nat)) (iI (20 : Nat)) (iI (10 / 10 / 10 : Nat)) (iI (0 + (T P - 48) * ((10 : Nat) : Int) + (T (P + 1) - 48) * ((10 / 10 : Nat) : Int))) (iI (2 : Nat))
      refine ⟨_, _, e3, Or.inr ⟨by omega, by omega, ?_, ?_, fun j j1 j2 => ?_⟩⟩
      · omega
      · split at h2 <;> omega
      · rcases (show j = P ∨ j = P + 1 by omega) with q | q
        · rw [q]; exact ⟨h1.1, o1.mpr h1.2⟩
        · rw [q]; exact ⟨h2.1, o2.mpr h2.2⟩
    · rw [if_neg h2]
      refine ⟨-9, P + 1, rfl, Or.inl ⟨rfl, by omega, by omega, fun j j1 j2 => ?_, fun h => h2 ⟨h.1, o2.mp h.2⟩⟩⟩
      rw [show j = P by omega]
      exact ⟨h1.1, o1.mpr h1.2⟩
  · rw [if_neg (by rw [if_pos rfl]; exact h1)]
    exact ⟨-9, P, rfl, Or.inl ⟨rfl, by omega, by omega, fun j j1 j2 => by omega, fun h => h1 ⟨h.1, o1.mp h.2⟩⟩⟩
theorem z_num3 (hn : n ≤ 80) (hT : ∀ k, k < n → mt k = iI (T k) ∧ 0 ≤ T k ∧ T k ≤ 255) {P : Nat} (hP : P ≤ n) (hP2 : 1 ≤ P ∧ P + 2 ≤ 70) (hP7 : (P - 1) % 7 = 4) : ∃ (r : Int) (q : Nat), f_X6_number_0 (iI n) mt (iI P) (3 : Int32) (400 : Int32) = some (iI r, iI q) ∧ ND T n P 3 (100 * (T P - 48) + 10 * (T (P + 1) - 48) + (T (P + 2) - 48)) r q := by
  unfold f_X6_number_0
  rw [if_neg (by decide)]
  have e1 := z_n19 (f := 999) (dg := 3) (mo := 400) (u := 100) (qh := 4) (m := 0) (v := 0) (pos := P) hn hT (by omega) (by omega) (by omega) (by omega) (by omega) (by omega) (by omega) (by omega) hP
  have e1' : f_X6_number_19 (iI n) mt fuel (iI P) (3 : Int32) (400 : Int32) (100 : Int32) (0 : Int32) (0 : Int32) = _ := e1
  rw [e1']
  have o1 : OKt T P ↔ 48 ≤ T P ∧ T P ≤ 52 := by
    rw [OKt_d hP2.1, gd_4 hP7]; omega
  have o2 : OKt T (P + 1) ↔ 48 ≤ T (P + 1) ∧ T (P + 1) ≤ 48 + if T P = 52 then 0 else 9 := by
    rw [OKt_d (by omega)]
    have : gd T (P + 1) = if T P = 52 then 0 else 9 := by rw [gd_5 (by omega)]; rfl
    rw [this]
    exact ⟨fun h => ⟨h.2.1, h.2.2⟩, fun h => ⟨by omega, h.1, h.2⟩⟩
  have o3 : OKt T (P + 2) ↔ 48 ≤ T (P + 2) ∧ T (P + 2) ≤ 48 + if T P = 52 then 0 else 9 := by
    rw [OKt_d (by omega)]
    have : gd T (P + 2) = if T P = 52 then 0 else 9 := by rw [gd_6 (by omega)]; rfl
    rw [this]
    exact ⟨fun h => ⟨h.2.1, h.2.2⟩, fun h => ⟨by omega, h.1, h.2⟩⟩
  by_cases h1 : P < n ∧ 48 ≤ T P ∧ T P ≤ 52
  · rw [if_pos (by rw [if_pos rfl]; exact h1)]
    rw [z_n19 (f := 998) (dg := 3) (mo := 400) (qh := 0) (m := 0 + 1) (pos := P + 1) hn hT (by omega) (by omega) (by omega) (by omega) (by omega) (by omega) (by omega) (by omega) (by omega)]
    have ei : (if (0 + 1 : Nat) = 0 then ((0 : Nat) : Int) else if 0 + (T P - 48) * ((100 : Nat) : Int) = ((400 : Nat) : Int) then 0 else 9) = if T P = 52 then 0 else 9 := by
      rw [if_neg (by omega)]
      by_cases e : T P = 52
      · rw [if_pos e, if_pos (by omega)]
      · rw [if_neg e, if_neg (by omega)]
    rw [ei]
    by_cases h2 : P + 1 < n ∧ 48 ≤ T (P + 1) ∧ T (P + 1) ≤ 48 + if T P = 52 then 0 else 9
    · rw [if_pos h2]
      have t2 : T (P + 1) ≤ 57 := by
        have := h2.2.2
        split at this <;> omega
      rw [z_n19 (f := 997) (dg := 3) (mo := 400) (qh := 0) (m := 0 + 1 + 1) (pos := P + 1 + 1) hn hT (by omega) (by omega) (by omega) (by omega) (by omega) (by omega) (by omega) (by omega) (by omega)]
      have ei2 : (if (0 + 1 + 1 : Nat) = 0 then ((0 : Nat) : Int) else if 0 + (T P - 48) * ((100 : Nat) : Int) + (T (P + 1) - 48) * ((100 / 10 : Nat) : Int) = ((400 : Nat) : Int) then 0 else 9) = if T P = 52 then 0 else 9 := by
        rw [if_neg (by omega)]
        by_cases e : T P = 52
        · have := h2.2.2
          rw [if_pos e] at this
          rw [if_pos e, if_pos (by omega)]
        · rw [if_neg e, if_neg (by omega)]
      rw [ei2, show P + 1 + 1 = P + 2 by omega]
      by_cases h3 : P + 2 < n ∧ 48 ≤ T (P + 2) ∧ T (P + 2) ≤ 48 + if T P = 52 then 0 else 9
      · rw [if_pos h3]
        have e3 := z_n19e (mt := mt) 996 (iI n) (iI (P + 2 + 1 : Nat)) (iI (400 : Nat)) (iI (100 / 10 / 10 / 10 : Nat)) (iI (0 + (T P - 48) * ((100 : Nat) : Int) + (T (P + 1) - 48) * ((100 / 10 : Nat) : Int) + (T (P + 2) - 48) * ((100 / 10 / 10 : Nat) : Int))) (iI (3 : Nat))
        refine ⟨_, _, e3, Or.inr ⟨by omega, by omega, ?_, ?_, fun j j1 j2 => ?_⟩⟩
        · omega
        · by_cases e : T P = 52
          · have q2 := h2.2.2
            have q3 := h3.2.2
            rw [if_pos e] at q2 q3
            omega
          · have q2 := h2.2.2
            have q3 := h3.2.2
            rw [if_neg e] at q2 q3
            omega
        · rcases (show j = P ∨ j = P + 1 ∨ j = P + 2 by omega) with q | q | q
          · rw [q]; exact ⟨h1.1, o1.mpr h1.2⟩
          · rw [q]; exact ⟨h2.1, o2.mpr h2.2⟩
          · rw [q]; exact ⟨h3.1, o3.mpr h3.2⟩
      · rw [if_neg h3]
        refine ⟨-9, P + 2, rfl, Or.inl ⟨rfl, by omega, by omega, fun j j1 j2 => ?_, fun h => h3 ⟨h.1, o3.mp h.2⟩⟩⟩
        rcases (show j = P ∨ j = P + 1 by omega) with q | q
        · rw [q]; exact ⟨h1.1, o1.mpr h1.2⟩
        · rw [q]; exact ⟨h2.1, o2.mpr h2.2⟩
    · rw [if_neg h2]
      refine ⟨-9, P + 1, rfl, Or.inl ⟨rfl, by omega, by omega, fun j j1 j2 => ?_, fun h => h2 ⟨h.1, o2.mp h.2⟩⟩⟩
      rw [show j = P by omega]
      exact ⟨h1.1, o1.mpr h1.2⟩
  · rw [if_neg (by rw [if_pos rfl]; exact h1)]
    exact ⟨-9, P, rfl, Or.inl ⟨rfl, by omega, by omega, fun j j1 j2 => by omega, fun h => h1 ⟨h.1, o1.mp h.2⟩⟩⟩
end ZTX
