/-! ===== parseSite, errorPosition, load ===== -/
def tX (T : Nat → Int) (j : Nat) : Int := 10 * (T (1 + 7 * j) - 48) + (T (1 + 7 * j + 1) - 48)
def tY (T : Nat → Int) (j : Nat) : Int := 10 * (T (1 + 7 * j + 2) - 48) + (T (1 + 7 * j + 2 + 1) - 48)
def tW (T : Nat → Int) (j : Nat) : Int := 100 * (T (1 + 7 * j + 4) - 48) + 10 * (T (1 + 7 * j + 4 + 1) - 48) + (T (1 + 7 * j + 4 + 2) - 48)
section ZTY
variable {n : Nat} {T : Nat → Int} {xc mt : Nat → Int32}
theorem z_ps43 (k15 : Int32 → (Nat → Int32) → Int32 → Option R_X6_parseSite) (ts pos : Int32) {p : Nat → Int32} {s w : Nat} (hp : p 0 = iI s) (hs : s < 10) (hw : w < 3) {r : Int} (r1 : 0 ≤ r) (r2 : r ≤ 400) : f_X6_parseSite_43 k15 ts mt pos p (iI w) (iI r) = k15 pos (upd p (1 + 3 * s + w) (iI r)) (iI (w + 1 : Nat)) := by
  unfold f_X6_parseSite_43
  have ei : iI ((1 + 3 * s : Nat) : Int) + iI w = iI ((1 + 3 * s + w : Nat) : Int) := by rw [iI_add]; rfl
  rw [if_neg (by show ¬ iI r = iI (-9); rw [iI_eq] <;> omega), show (0 : Int32).toNatClampNeg = 0 from rfl, hp, iI_13, ei, gIx_iI (by omega) (by omega) (by omega), iI_clN (by omega), iI_p1]
theorem z_ps43n (k15 : Int32 → (Nat → Int32) → Int32 → Option R_X6_parseSite) (ts pos : Int32) (p : Nat → Int32) (x1 : Int32) : f_X6_parseSite_43 k15 ts mt pos p x1 (iI (-9)) = some (0, pos, p) := by
  unfold f_X6_parseSite_43
  rw [if_pos (show iI (-9) = -9 from rfl)]
theorem z_ps15a (f : Nat) (ts pos : Int32) {w : Nat} (hw : w < 2) (p : Nat → Int32) {r q : Int32} (e : f_X6_number_0 ts mt pos (2 : Int32) (20 : Int32) = some (r, q)) : f_X6_parseSite_15 ts mt (f + 1) pos p (iI w) = f_X6_parseSite_43 (f_X6_parseSite_15 ts mt f) ts mt q p (iI w) r := by
  have key : f_X6_parseSite_15 ts mt (f + 1) pos p (iI w) = g_X6_parseSite_15 ts mt (f_X6_parseSite_15 ts mt f) pos p (iI w) := rfl
  rw [key]
  unfold g_X6_parseSite_15
  rw [if_neg (show ¬ (3 : Int32) ≤ iI w by rw [q_3, iI_le] <;> omega), if_neg (show ¬ (2 : Int32) ≤ iI w by rw [q_2, iI_le] <;> omega), e, bnd2_some]
theorem z_ps15b (f : Nat) (ts pos : Int32) (p : Nat → Int32) {r q : Int32} (e : f_X6_number_0 ts mt pos (3 : Int32) (400 : Int32) = some (r, q)) : f_X6_parseSite_15 ts mt (f + 1) pos p (iI (2 : Nat)) = f_X6_parseSite_43 (f_X6_parseSite_15 ts mt f) ts mt q p (iI (2 : Nat)) r := by
  have key : ∀ v, f_X6_parseSite_15 ts mt (f + 1) pos p v = g_X6_parseSite_15 ts mt (f_X6_parseSite_15 ts mt f) pos p v := fun _ => rfl
  rw [key]
  unfold g_X6_parseSite_15
  rw [if_neg (show ¬ (3 : Int32) ≤ iI (2 : Nat) by rw [q_3, iI_le] <;> omega), if_pos (show (2 : Int32) ≤ iI (2 : Nat) by rw [q_2, iI_le] <;> omega), e, bnd2_some]
theorem z_ps15c (f : Nat) (ts pos : Int32) (p : Nat → Int32) : f_X6_parseSite_15 ts mt (f + 1) pos p (iI (3 : Nat)) = some (1, pos, upd p 0 (p 0 + 1)) := by
  have key : ∀ v, f_X6_parseSite_15 ts mt (f + 1) pos p v = g_X6_parseSite_15 ts mt (f_X6_parseSite_15 ts mt f) pos p v := fun _ => rfl
  rw [key]
  unfold g_X6_parseSite_15
  rw [if_pos (show (3 : Int32) ≤ iI (3 : Nat) by rw [q_3, iI_le] <;> omega)]
  rfl
theorem z_ps (hn : n ≤ 80) (hT : ∀ k, k < n → mt k = iI (T k) ∧ 0 ≤ T k ∧ T k ≤ 255) {s : Nat} (hs : s < 10) (hP : 1 + 7 * s < n) {p : Nat → Int32} (hM : RM s (tX T) (tY T) (tW T) p) :
    ∃ (ok : Int32) (q : Nat) (p2 : Nat → Int32), f_X6_parseSite_0 (iI n) mt (iI (1 + 7 * s : Nat)) p = some (ok, iI q, p2) ∧ ((ok = 0 ∧ 1 + 7 * s ≤ q ∧ q < 8 + 7 * s ∧ (∀ j, 1 + 7 * s ≤ j → j < q → j < n ∧ OKt T j) ∧ ¬ (q < n ∧ OKt T q)) ∨ (ok = 1 ∧ q = 8 + 7 * s ∧ (∀ j, 1 + 7 * s ≤ j → j < 8 + 7 * s → j < n ∧ OKt T j) ∧ RM (s + 1) (tX T) (tY T) (tW T) p2)) := by
  unfold f_X6_parseSite_0
  rw [show (0 : Int32).toNatClampNeg = 0 from rfl, hM.1, if_neg (show ¬ iI (s : Nat) = 10 by rw [q_10, iI_eq] <;> omega)]
  obtain ⟨r0, q0, e0, h0⟩ := z_num2 (mt := mt) hn hT (P := 1 + 7 * s) (by omega) (by omega) (by omega)
  have u0 : f_X6_parseSite_15 (iI n) mt fuel (iI (1 + 7 * s : Nat)) p 0 = _ := z_ps15a 999 (iI n) (iI (1 + 7 * s : Nat)) (w := 0) (by omega) p e0
  rw [u0]
  rcases h0 with ⟨a1, a2, a3, a4, a5⟩ | ⟨a1, a2, a3, a4, a5⟩
  · rw [a1, z_ps43n]
    exact ⟨0, q0, p, rfl, Or.inl ⟨rfl, a2, by omega, a4, a5⟩⟩
  rw [z_ps43 _ _ _ hM.1 hs (by omega) a3 a4, a1]
  have n0 := (a5 (1 + 7 * s + 1) (by omega) (by omega)).1
  obtain ⟨r1, q1, e1, h1⟩ := z_num2 (mt := mt) hn hT (P := 1 + 7 * s + 2) (by omega) (by omega) (by omega)
  have hp1 : upd p (1 + 3 * s + 0) (iI r0) 0 = iI s := by rw [upd_ne (by omega), hM.1]
  rw [z_ps15a 998 (iI n) (iI (1 + 7 * s + 2 : Nat)) (w := 0 + 1) (by omega) _ e1]
  rcases h1 with ⟨b1, b2, b3, b4, b5⟩ | ⟨b1, b2, b3, b4, b5⟩
  · rw [b1, z_ps43n]
    refine ⟨0, q1, _, rfl, Or.inl ⟨rfl, by omega, by omega, fun j j1 j2 => ?_, b5⟩⟩
    by_cases e : j < 1 + 7 * s + 2
    · exact a5 j j1 e
    · exact b4 j (by omega) j2
  rw [z_ps43 _ _ _ hp1 hs (by omega) b3 b4, b1]
  have n1 := (b5 (1 + 7 * s + 3) (by omega) (by omega)).1
  obtain ⟨r2, q2, e2, h2⟩ := z_num3 (mt := mt) hn hT (P := 1 + 7 * s + 2 + 2) (by omega) (by omega) (by omega)
  have hp2 : upd (upd p (1 + 3 * s + 0) (iI r0)) (1 + 3 * s + (0 + 1)) (iI r1) 0 = iI s := by rw [upd_ne (by omega), hp1]
  have u2 := z_ps15b 997 (iI n) (iI (1 + 7 * s + 2 + 2 : Nat)) (upd (upd p (1 + 3 * s + 0) (iI r0)) (1 + 3 * s + (0 + 1)) (iI r1)) e2
  have u2' : f_X6_parseSite_15 (iI n) mt 998 (iI (1 + 7 * s + 2 + 2 : Nat)) (upd (upd p (1 + 3 * s + 0) (iI r0)) (1 + 3 * s + (0 + 1)) (iI r1)) (iI (0 + 1 + 1 : Nat)) = _ := u2
  rw [u2']
  rcases h2 with ⟨c1, c2, c3, c4, c5⟩ | ⟨c1, c2, c3, c4, c5⟩
  · rw [c1, z_ps43n]
    refine ⟨0, q2, _, rfl, Or.inl ⟨rfl, by omega, by omega, fun j j1 j2 => ?_, c5⟩⟩
    by_cases e : j < 1 + 7 * s + 2
    · exact a5 j j1 e
    · by_cases e' : j < 1 + 7 * s + 2 + 2
      · exact b5 j (by omega) e'
      · exact c4 j (by omega) j2
  rw [z_ps43 _ _ _ hp2 hs (show 2 < 3 by omega) c3 c4, c1]
  have u3 : f_X6_parseSite_15 (iI n) mt 997 (iI (1 + 7 * s + 2 + 2 + 3 : Nat)) (upd (upd (upd p (1 + 3 * s + 0) (iI r0)) (1 + 3 * s + (0 + 1)) (iI r1)) (1 + 3 * s + 2) (iI r2)) (iI (2 + 1 : Nat)) = _ := z_ps15c 996 (iI n) (iI (1 + 7 * s + 2 + 2 + 3 : Nat)) _
  rw [u3]
  refine ⟨1, 1 + 7 * s + 2 + 2 + 3, _, rfl, Or.inr ⟨rfl, by omega, fun j j1 j2 => ?_, ?_⟩⟩
  · by_cases e : j < 1 + 7 * s + 2
    · exact a5 j j1 e
    · by_cases e' : j < 1 + 7 * s + 2 + 2
      · exact b5 j (by omega) e'
      · exact c5 j (by omega) (by omega)
  · have := RM_add hM (tX T s) (tY T s) (tW T s)
    rw [setW_self, setW_self, setW_self] at this
    rw [a2, b2, c2]
    exact this
/-- what the reference has read -/
def RD (T : Nat → Int) (n : Nat) (p : Nat → Int32) : Prop := ∃ s, s ≤ 10 ∧ n = 1 + 7 * s ∧ RM s (tX T) (tY T) (tW T) p ∧ ∀ j, j < n → OKt T j
theorem z_ep51 (hn : n ≤ 80) (hT : ∀ k, k < n → mt k = iI (T k) ∧ 0 ≤ T k ∧ T k ≤ 255) (t : Int32) :
    ∀ (e s f : Nat) (p : Nat → Int32), s + e = 11 → e < f → 1 + 7 * s ≤ n → (∀ j, j < 1 + 7 * s → OKt T j) → RM s (tX T) (tY T) (tW T) p → ∃ (r : Int) (q : Int32) (p2 : Nat → Int32), f_X6_errorPosition_51 (iI n) mt f t (iI (1 + 7 * s : Nat)) p = some (iI r, t, q, p2) ∧ ANS T n r ∧ (r = -9 → RD T n p2) := by
  intro e
  induction e with
  | zero =>
    intro s f p hs hf h1 h2 h3
    have := (OKt_d (by omega)).mp (h2 71 (by omega))
    omega
  | succ e ih =>
    intro s f p hs hf h1 h2 h3
    obtain ⟨f, rfl⟩ : ∃ k, f = k + 1 := ⟨f - 1, by omega⟩
    have key : f_X6_errorPosition_51 (iI n) mt (f + 1) t (iI (1 + 7 * s : Nat)) p = g_X6_errorPosition_51 (iI n) mt (f_X6_errorPosition_51 (iI n) mt f) t (iI (1 + 7 * s : Nat)) p := rfl
    rw [key]
    unfold g_X6_errorPosition_51
    by_cases hq : n ≤ 1 + 7 * s
    · rw [if_pos (show iI (n : Nat) ≤ iI (1 + 7 * s : Nat) by rw [iI_le] <;> omega)]
      exact ⟨-9, _, _, rfl, Or.inr ⟨fun j hj => h2 j (by omega), by rw [if_pos (by omega)]⟩, fun _ => ⟨s, by omega, by omega, h3, fun j hj => h2 j (by omega)⟩⟩
    · rw [if_neg (show ¬ iI (n : Nat) ≤ iI (1 + 7 * s : Nat) by rw [iI_le] <;> omega)]
      by_cases h10 : s = 10
      · subst h10
        unfold f_X6_parseSite_0
        rw [show (0 : Int32).toNatClampNeg = 0 from rfl, h3.1, if_pos (show iI (10 : Nat) = 10 from rfl), bnd3_some, if_pos rfl]
        refine ⟨(1 + 7 * 10 : Nat), _, _, rfl, Or.inl ⟨1 + 7 * 10, by omega, h2, fun h => ?_, rfl⟩, fun h => by omega⟩
        have := (OKt_d (by omega)).mp h
        omega
      · obtain ⟨ok, q, p2, e1, k1⟩ := z_ps hn hT (show s < 10 by omega) (by omega) h3
        rw [e1, bnd3_some]
        rcases k1 with ⟨a1, a2, a3, a4, a5⟩ | ⟨a1, a2, a3, a4⟩
        · rw [a1, if_pos rfl]
          have hall : ∀ j, j < q → OKt T j := by
            intro j hj
            by_cases ej : j < 1 + 7 * s
            · exact h2 j ej
            · exact (a4 j (by omega) hj).2
          refine ⟨q, _, _, rfl, ?_, fun h => by omega⟩
          by_cases en : q < n
          · exact Or.inl ⟨q, en, hall, fun h => a5 ⟨en, h⟩, rfl⟩
          · have eq : q = n := by
              by_cases e2 : q = 1 + 7 * s
              · omega
              · have := (a4 (q - 1) (by omega) (by omega)).1
                omega
            exact Or.inr ⟨fun j hj => hall j (by omega), by rw [if_neg (by omega), eq]⟩
        · rw [a1, if_neg (by decide), a2, show 8 + 7 * s = 1 + 7 * (s + 1) by omega]
          have hlast := (a3 (7 + 7 * s) (by omega) (by omega)).1
          exact ih (s + 1) f p2 (by omega) (by omega) (by omega) (fun j hj => by
            by_cases ej : j < 1 + 7 * s
            · exact h2 j ej
            · exact (a3 j (by omega) (by omega)).2) a4
theorem z_ep7 (ts t q : Int32) :
    ∀ (e k f : Nat) (p : Nat → Int32), k + e = 31 → e < f → (∀ j, j < k → p j = 0) → ∃ p2 : Nat → Int32, p2 0 = 0 ∧ f_X6_errorPosition_7 ts mt f t q p (iI k) = (if ts = 0 then some (0, t, q, p2) else if mt 0 = 80 then f_X6_errorPosition_51 ts mt fuel t 1 p2 else some (0, t, q, p2)) := by
  intro e
  induction e with
  | zero =>
    intro k f p hk hf h
    obtain ⟨f, rfl⟩ : ∃ k, f = k + 1 := ⟨f - 1, by omega⟩
    have key : f_X6_errorPosition_7 ts mt (f + 1) t q p (iI k) = g_X6_errorPosition_7 ts mt (f_X6_errorPosition_7 ts mt f) t q p (iI k) := rfl
    rw [key]
    unfold g_X6_errorPosition_7
    rw [if_pos (show (31 : Int32) ≤ iI k by rw [q_31, iI_le] <;> omega)]
    exact ⟨p, h 0 (by omega), rfl⟩
  | succ e ih =>
    intro k f p hk hf h
    obtain ⟨f, rfl⟩ : ∃ k, f = k + 1 := ⟨f - 1, by omega⟩
    have key : f_X6_errorPosition_7 ts mt (f + 1) t q p (iI k) = g_X6_errorPosition_7 ts mt (f_X6_errorPosition_7 ts mt f) t q p (iI k) := rfl
    rw [key]
    unfold g_X6_errorPosition_7
    rw [if_neg (show ¬ (31 : Int32) ≤ iI k by rw [q_31, iI_le] <;> omega), gIx_iI (by omega) (by omega) (by omega), iI_clN (by omega), iI_p1]
    refine ih (k + 1) f _ (by omega) (by omega) (fun j hj => ?_)
    by_cases e : j = k
    · rw [e, upd_eq]
    · rw [upd_ne e]; exact h j (by omega)
theorem z_ep (hn : n ≤ 80) (hT : ∀ k, k < n → mt k = iI (T k) ∧ 0 ≤ T k ∧ T k ≤ 255) (t q : Int32) (p : Nat → Int32) : ∃ (r : Int) (q2 : Int32) (p2 : Nat → Int32), f_X6_errorPosition_0 (iI n) mt t q p = some (iI r, 0, q2, p2) ∧ ANS T n r ∧ (r = -9 → RD T n p2) := by
  unfold f_X6_errorPosition_0
  obtain ⟨p2, h0, e1⟩ := z_ep7 (mt := mt) (iI n) 0 q 31 0 fuel p (by omega) (by unfold fuel; omega) (fun j hj => by omega)
  have e1' : f_X6_errorPosition_7 (iI n) mt fuel 0 q p 0 = _ := e1
  rw [e1']
  by_cases en : n = 0
  · subst en
    rw [if_pos (show iI (0 : Nat) = 0 from rfl)]
    exact ⟨0, _, _, rfl, Or.inr ⟨fun j hj => by omega, rfl⟩, fun h => by omega⟩
  · rw [if_neg (show ¬ iI (n : Nat) = 0 by rw [q_0, iI_eq] <;> omega)]
    have t0 := hT 0 (by omega)
    by_cases e8 : T 0 = 80
    · rw [if_pos (show mt 0 = 80 by rw [t0.1, e8]; rfl)]
      have := z_ep51 hn hT 0 11 0 fuel p2 (by omega) (by unfold fuel; omega) (by omega) (fun j hj => by
        rw [show j = 0 by omega, OKt_0]; exact e8) ⟨by rw [h0]; rfl, fun i hi => by omega⟩
      exact this
    · rw [if_neg (show ¬ mt 0 = 80 by rw [t0.1, q_80, iI_eq] <;> omega)]
      exact ⟨0, _, _, rfl, Or.inl ⟨0, by omega, fun j hj => by omega, fun h => e8 ((OKt_0 T).mp h), rfl⟩, fun h => by omega⟩
/-- the text as numbers -/
theorem tx_of {ml : Nat} (h : ∀ k, k < ml → xc k = mt k ∧ ∃ z : Int, 0 ≤ z ∧ z ≤ 255 ∧ xc k = iI z) : ∃ T : Nat → Int, (∀ k, k < ml → xc k = iI (T k) ∧ 0 ≤ T k ∧ T k ≤ 255) ∧ ∀ k, k < ml → mt k = iI (T k) ∧ 0 ≤ T k ∧ T k ≤ 255 := by
  have key : ∀ k, k < ml → xc k = iI ((xc k).toInt) ∧ 0 ≤ (xc k).toInt ∧ (xc k).toInt ≤ 255 := by
    intro k hk
    obtain ⟨-, z, z1, z2, z3⟩ := h k hk
    refine ⟨iI_of _, ?_⟩
    rw [z3, iI_toInt (by omega) (by omega)]
    exact ⟨z1, z2⟩
  refine ⟨fun k => (xc k).toInt, key, fun k hk => ?_⟩
  have := key k hk
  rw [← (h k hk).1]
  exact this
theorem o2_IV : op_2 IV := by
  intro xl xc cnt x y w nw rem filled sn sx sy so σ τ ml mt st mrem mh ms mused mob msx msy mss t q p hI
  have hI0 := hI
  obtain ⟨h1, ⟨n, n1, n2, n3, n4⟩, h3⟩ := hI
  subst n2 n3
  obtain ⟨T, hT, hT2⟩ := tx_of n4
  obtain ⟨r, e1, a1⟩ := z_fe n1 hT
  obtain ⟨r', q2, p2, e2, a2, -⟩ := z_ep n1 hT2 0 q p
  rw [ANS_un a2 a1] at e2
  unfold f_X5_errorPosition_0
  rw [e1, bnd_some]
  exact ⟨_, _, _, _, rfl, e2, hI0⟩
/-! load, the class's side -/
theorem z_n5 (hn : n ≤ 80) (hT : ∀ k, k < n → xc k = iI (T k) ∧ 0 ≤ T k ∧ T k ≤ 255) (f : Nat) {P dg m : Nat} {v : Int} (hm : m < P + dg) (hmn : m < n) (hb : P + dg ≤ 90) : f_X3_number_5 (iI n) xc (f + 1) (iI P) (iI dg) (iI v) (iI m) = f_X3_number_5 (iI n) xc f (iI P) (iI dg) (iI (10 * v + T m - 48)) (iI (m + 1 : Nat)) := by
  have key : f_X3_number_5 (iI n) xc (f + 1) (iI P) (iI dg) (iI v) (iI m) = g_X3_number_5 (iI n) xc (f_X3_number_5 (iI n) xc f) (iI P) (iI dg) (iI v) (iI m) := rfl
  rw [key]
  unfold g_X3_number_5
  rw [if_neg (by rw [iI_add, iI_le] <;> omega), z_cat hn hmn, bnd_some, nm_eq, (hT m hmn).1, iI_p1, q_10, q_48, iI_mul, iI_add, iI_sub]
theorem z_n5e (f : Nat) (ts : Int32) {P dg m : Nat} (h : m = P + dg) (hb : m ≤ 90) (v : Int32) : f_X3_number_5 ts xc (f + 1) (iI P) (iI dg) v (iI m) = some v := by
  have key : f_X3_number_5 ts xc (f + 1) (iI P) (iI dg) v (iI m) = g_X3_number_5 ts xc (f_X3_number_5 ts xc f) (iI P) (iI dg) v (iI m) := rfl
  rw [key]
  unfold g_X3_number_5
  rw [if_pos (by rw [iI_add, iI_le] <;> omega)]
theorem z_xn2 (hn : n ≤ 80) (hT : ∀ k, k < n → xc k = iI (T k) ∧ 0 ≤ T k ∧ T k ≤ 255) {P : Nat} (hP : P + 1 < n) : f_X3_number_0 (iI n) xc (iI P) (2 : Int32) = some (iI (10 * (T P - 48) + (T (P + 1) - 48))) := by
  unfold f_X3_number_0
  have e1 : f_X3_number_5 (iI n) xc fuel (iI P) (2 : Int32) (0 : Int32) (iI P) = _ := z_n5 hn hT 999 (P := P) (dg := 2) (m := P) (v := 0) (by omega) (by omega) (by omega)
  rw [e1, z_n5 hn hT 998 (P := P) (dg := 2) (m := P + 1) (by omega) (by omega) (by omega), z_n5e 997 (iI n) (show P + 1 + 1 = P + 2 by omega) (by omega)]
  congr 2
  omega
theorem z_xn3 (hn : n ≤ 80) (hT : ∀ k, k < n → xc k = iI (T k) ∧ 0 ≤ T k ∧ T k ≤ 255) {P : Nat} (hP : P + 2 < n) : f_X3_number_0 (iI n) xc (iI P) (3 : Int32) = some (iI (100 * (T P - 48) + 10 * (T (P + 1) - 48) + (T (P + 2) - 48))) := by
  unfold f_X3_number_0
  have e1 : f_X3_number_5 (iI n) xc fuel (iI P) (3 : Int32) (0 : Int32) (iI P) = _ := z_n5 hn hT 999 (P := P) (dg := 3) (m := P) (v := 0) (by omega) (by omega) (by omega)
  rw [e1, z_n5 hn hT 998 (P := P) (dg := 3) (m := P + 1) (by omega) (by omega) (by omega), z_n5 hn hT 997 (P := P) (dg := 3) (m := P + 1 + 1) (by omega) (by omega) (by omega), z_n5e 996 (iI n) (show P + 1 + 1 + 1 = P + 3 by omega) (by omega)]
  congr 2
  rw [show P + 1 + 1 = P + 2 by omega]
  omega
theorem iI_p4 (k : Nat) : iI k + (4 : Int32) = iI ((k + 4 : Nat) : Int) := by rw [q_4, iI_add]; rfl
theorem iI_p7 (k : Nat) : iI k + (7 : Int32) = iI ((k + 7 : Nat) : Int) := by rw [q_7, iI_add]; rfl
theorem z_ri (hT : ∀ k, k < n → xc k = iI (T k) ∧ 0 ≤ T k ∧ T k ≤ 255) {c : Nat} (hc : c ≤ 10) (hn : n = 1 + 7 * c) :
    ∀ (e s f : Nat) (x y w : Nat → Int32), s + e = c → e < f → RS s (tX T) (tY T) (tW T) (iI s) x y w → ∃ x2 y2 w2 : Nat → Int32, f_X3_readInto_7 (iI n) xc f (iI s) x y w (iI (1 + 7 * s : Nat)) = some (iI c, x2, y2, w2) ∧ RS c (tX T) (tY T) (tW T) (iI c) x2 y2 w2 := by
  intro e
  induction e with
  | zero =>
    intro s f x y w hs hf hR
    obtain ⟨f, rfl⟩ : ∃ k, f = k + 1 := ⟨f - 1, by omega⟩
    have e : s = c := by omega
    subst e
    have key : f_X3_readInto_7 (iI n) xc (f + 1) (iI s) x y w (iI (1 + 7 * s : Nat)) = g_X3_readInto_7 (iI n) xc (f_X3_readInto_7 (iI n) xc f) (iI s) x y w (iI (1 + 7 * s : Nat)) := rfl
    rw [key]
    unfold g_X3_readInto_7
    rw [iI_p7, if_pos (show iI (n : Nat) < iI (1 + 7 * s + 7 : Nat) by rw [iI_lt] <;> omega)]
    exact ⟨x, y, w, rfl, hR⟩
  | succ e ih =>
    intro s f x y w hs hf hR
    obtain ⟨f, rfl⟩ : ∃ k, f = k + 1 := ⟨f - 1, by omega⟩
    have key : f_X3_readInto_7 (iI n) xc (f + 1) (iI s) x y w (iI (1 + 7 * s : Nat)) = g_X3_readInto_7 (iI n) xc (f_X3_readInto_7 (iI n) xc f) (iI s) x y w (iI (1 + 7 * s : Nat)) := rfl
    rw [key]
    unfold g_X3_readInto_7
    rw [iI_p7, iI_p2, iI_p4, if_neg (show ¬ iI (n : Nat) < iI (1 + 7 * s + 7 : Nat) by rw [iI_lt] <;> omega), z_xn2 (by omega) hT (by omega), bnd_some, z_xn2 (by omega) hT (by omega), bnd_some, z_xn3 (by omega) hT (by omega), bnd_some, z_puts _ _ _ (by omega), bnd4_some, show 1 + 7 * s + 7 = 1 + 7 * (s + 1) by omega]
    refine ih (s + 1) f _ _ _ (by omega) (by omega) ?_
    have := RS_set3 hR (i := s) (c' := s + 1) (fun j hj hne => by omega) (tX T s) (tY T s) (tW T s)
    rw [setW_self, setW_self, setW_self] at this
    exact this
theorem z_l33 (ts r c : Int32) (x y w fl : Nat → Int32) : f_X5_load_33 ts xc fuel r c x y w fl 0 = some (c, r, c, x, y, w, upd (upd fl 0 0) 1 0) := by
  have k1 : f_X5_load_33 ts xc fuel r c x y w fl 0 = g_X5_load_33 ts xc (f_X5_load_33 ts xc 999) r c x y w fl 0 := rfl
  have k2 : f_X5_load_33 ts xc 999 r c x y w (upd fl 0 0) 1 = g_X5_load_33 ts xc (f_X5_load_33 ts xc 998) r c x y w (upd fl 0 0) 1 := rfl
  have k3 : f_X5_load_33 ts xc 998 r c x y w (upd (upd fl 0 0) 1 0) 2 = g_X5_load_33 ts xc (f_X5_load_33 ts xc 997) r c x y w (upd (upd fl 0 0) 1 0) 2 := rfl
  rw [k1]
  unfold g_X5_load_33
  rw [if_neg (by decide), q_0, gIx_iI (by omega) (by omega) (by omega)]
  show f_X5_load_33 ts xc 999 r c x y w (upd fl 0 0) 1 = _
  rw [k2]
  unfold g_X5_load_33
  rw [if_neg (by decide), q_1, gIx_iI (by omega) (by omega) (by omega)]
  show f_X5_load_33 ts xc 998 r c x y w (upd (upd fl 0 0) 1 0) 2 = _
  rw [k3]
  unfold g_X5_load_33
  rw [if_pos (by decide)]
  rfl
theorem t_b (h : ∀ j, j < n → OKt T j) {c i : Nat} (hn : n = 1 + 7 * c) (hi : i < c) : (0 ≤ tX T i ∧ tX T i ≤ 20) ∧ (0 ≤ tY T i ∧ tY T i ≤ 20) ∧ 0 ≤ tW T i ∧ tW T i ≤ 400 := by
  have d0 := (OKt_d (by omega)).mp (h (1 + 7 * i) (by omega))
  have d1 := (OKt_d (by omega)).mp (h (1 + 7 * i + 1) (by omega))
  have d2 := (OKt_d (by omega)).mp (h (1 + 7 * i + 2) (by omega))
  have d3 := (OKt_d (by omega)).mp (h (1 + 7 * i + 2 + 1) (by omega))
  have d4 := (OKt_d (by omega)).mp (h (1 + 7 * i + 4) (by omega))
  have d5 := (OKt_d (by omega)).mp (h (1 + 7 * i + 4 + 1) (by omega))
  have d6 := (OKt_d (by omega)).mp (h (1 + 7 * i + 4 + 2) (by omega))
  rw [gd_0 (by omega)] at d0
  rw [gd_1 (by omega), show 1 + 7 * i + 1 - 1 = 1 + 7 * i by omega] at d1
  rw [gd_2 (by omega)] at d2
  rw [gd_3 (by omega), show 1 + 7 * i + 2 + 1 - 1 = 1 + 7 * i + 2 by omega] at d3
  rw [gd_4 (by omega)] at d4
  rw [gd_5 (by omega), show 1 + 7 * i + 4 + 1 - 1 = 1 + 7 * i + 4 by omega] at d5
  rw [gd_6 (by omega), show 1 + 7 * i + 4 + 2 - 2 = 1 + 7 * i + 4 by omega] at d6
  unfold tX tY tW
  refine ⟨?_, ?_, ?_⟩
  · split at d1 <;> omega
  · split at d3 <;> omega
  · by_cases e : T (1 + 7 * i + 4) = 52
    · rw [if_pos e] at d5 d6
      omega
    · rw [if_neg e] at d5 d6
      omega
def clF (X : Nat → Int) (c : Nat) : Nat → Int := fun j => if j < c then X j else 0
theorem clF_lt (X : Nat → Int) {c j : Nat} (h : j < c) : clF X c j = X j := by unfold clF; rw [if_pos h]
theorem clF_ge (X : Nat → Int) {c j : Nat} (h : ¬ j < c) : clF X c j = 0 := by unfold clF; rw [if_neg h]
theorem o3_IV : op_3 IV := by
  intro xl xc cnt x y w nw rem filled sn sx sy so σ τ ml mt st mrem mh ms mused mob msx msy mss t q p hI
  have hI0 := hI
  obtain ⟨h1, ⟨n, n1, n2, n3, n4⟩, ⟨h, m, q1, q2, q3, q4, q5, q6⟩, h4, h5⟩ := hI
  subst n2 n3
  obtain ⟨T, hT, hT2⟩ := tx_of n4
  obtain ⟨r, e1, a1⟩ := z_fe n1 hT
  obtain ⟨r', q', p2, e2, a2, a3⟩ := z_ep n1 hT2 0 q p
  have er := ANS_un a2 a1
  subst er
  have rb := ANS_b a1 n1
  unfold f_X5_load_0 f_X6_load_0
  rw [e1, bnd_some, e2, bnd4_some]
  by_cases e9 : r' = -9
  · obtain ⟨c, c1, c2, c3, c4⟩ := a3 e9
    subst e9
    rw [if_pos (show iI (-9) = -9 from rfl), if_pos (show iI (-9) = -9 from rfl)]
    unfold f_X3_readInto_0
    obtain ⟨x2, y2, w2, e3, hR⟩ := z_ri hT c1 c2 c 0 fuel x y w (by omega) (by unfold fuel; omega) ⟨rfl, fun i hi => by omega⟩
    have e3' : f_X3_readInto_7 (iI n) xc fuel 0 x y w 1 = _ := e3
    rw [e3', bnd4_some, z_l33]
    obtain ⟨s2, e4, k4⟩ := z_asg p2 st
    have hM := RM_cp c3 c1 k4
    rw [e4, bnd_some, show (0 : Int32).toNatClampNeg = 0 from rfl, show (1 : Int32).toNatClampNeg = 1 from rfl, hM.1]
    refine ⟨_, _, _, _, _, _, _, _, _, _, _, _, _, rfl, rfl, ⟨c, clF (tX T) c, clF (tY T) c, clF (tW T) c, ⟨c1, fun j => ?_⟩, ⟨rfl, fun j hj => ?_⟩, ⟨hM.1, fun j hj => ?_⟩⟩, ⟨n, n1, rfl, rfl, n4⟩, ⟨0, m, by omega, q2, q3, rfl, rfl, fun j hj => by omega⟩, fun g hg => ?_, h5⟩
    · by_cases hj : j < c
      · rw [clF_lt _ hj, clF_lt _ hj, clF_lt _ hj]
        exact t_b c4 c2 hj
      · rw [clF_ge _ hj, clF_ge _ hj, clF_ge _ hj]
        omega
    · rw [clF_lt _ hj, clF_lt _ hj, clF_lt _ hj]
      exact hR.2 j hj
    · rw [clF_lt _ hj, clF_lt _ hj, clF_lt _ hj]
      exact hM.2 j hj
    · left
      by_cases eg : g = 1
      · rw [eg, upd_eq, upd_eq]
        exact ⟨rfl, rfl⟩
      · rw [show g = 0 by omega, upd_ne (show (0 : Nat) ≠ 1 by omega), upd_ne (show (0 : Nat) ≠ 1 by omega), upd_eq, upd_eq]
        exact ⟨rfl, rfl⟩
  · rw [if_neg (by show ¬ iI r' = iI (-9); rw [iI_eq] <;> omega), if_neg (by show ¬ iI r' = iI (-9); rw [iI_eq] <;> omega)]
    exact ⟨_, _, _, _, _, _, _, _, _, _, _, _, _, rfl, rfl, hI0⟩
end ZTY
