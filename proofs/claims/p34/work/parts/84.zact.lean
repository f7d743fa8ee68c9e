/-! ===== add, remove, move, setWeight ===== -/
theorem iI_13 (c : Nat) : (1 : Int32) + (3 : Int32) * iI c = iI ((1 + 3 * c : Nat) : Int) := by
  rw [q_1, q_3, iI_mul, iI_add]
  congr 1
theorem iI_23 (c : Nat) : (2 : Int32) + (3 : Int32) * iI c = iI ((2 + 3 * c : Nat) : Int) := by
  rw [q_2, q_3, iI_mul, iI_add]
  congr 1
theorem iI_33 (c : Nat) : (3 : Int32) + (3 : Int32) * iI c = iI ((3 + 3 * c : Nat) : Int) := by
  rw [q_3, iI_mul, iI_add]
  congr 1
theorem iI_p2 (k : Nat) : iI k + (2 : Int32) = iI ((k + 2 : Nat) : Int) := by rw [q_2, iI_add]; rfl
theorem iI_p3 (k : Nat) : iI k + (3 : Int32) = iI ((k + 3 : Nat) : Int) := by rw [q_3, iI_add]; rfl
theorem iI_s1 (k : Nat) : iI ((k + 1 : Nat) : Int) - (1 : Int32) = iI (k : Int) := by rw [q_1, iI_sub]; congr 1; omega
section ZAC
variable {c : Nat} {X Y W : Nat → Int} {cnt : Int32} {x y w : Nat → Int32} {st : Nat → Int32}
theorem setW_eq (X : Nat → Int) (i : Nat) (a : Int) : setW X i a i = a := by unfold setW; rw [if_pos rfl]
theorem setW_ne (X : Nat → Int) {i j : Nat} (a : Int) (h : j ≠ i) : setW X i a j = X j := by unfold setW; rw [if_neg h]
theorem BD_set3 (hB : BD c X Y W) (i : Nat) {c' : Nat} (hc : c' ≤ 10) {a b v : Int} (a1 : 0 ≤ a) (a2 : a ≤ 20) (b1 : 0 ≤ b) (b2 : b ≤ 20) (v1 : 0 ≤ v) (v2 : v ≤ 400) : BD c' (setW X i a) (setW Y i b) (setW W i v) := by
  refine ⟨hc, fun j => ?_⟩
  by_cases e : j = i
  · rw [e, setW_eq, setW_eq, setW_eq]
    exact ⟨⟨a1, a2⟩, ⟨b1, b2⟩, v1, v2⟩
  · rw [setW_ne _ _ e, setW_ne _ _ e, setW_ne _ _ e]
    exact hB.2 j
theorem RS_set3 (hR : RS c X Y W cnt x y w) {i c' : Nat} (hc : ∀ j, j < c' → j ≠ i → j < c) (a b v : Int) : RS c' (setW X i a) (setW Y i b) (setW W i v) (iI c') (upd x i (iI a)) (upd y i (iI b)) (upd w i (iI v)) := by
  refine ⟨rfl, fun j hj => ?_⟩
  by_cases e : j = i
  · rw [e, setW_eq, setW_eq, setW_eq, upd_eq, upd_eq, upd_eq]
    exact ⟨rfl, rfl, rfl⟩
  · rw [setW_ne _ _ e, setW_ne _ _ e, setW_ne _ _ e, upd_ne e, upd_ne e, upd_ne e]
    exact hR.2 j (hc j hj e)
theorem RM_add (hM : RM c X Y W st) (a b v : Int) : RM (c + 1) (setW X c a) (setW Y c b) (setW W c v) (upd (upd (upd (upd st (1 + 3 * c) (iI a)) (1 + 3 * c + 1) (iI b)) (1 + 3 * c + 2) (iI v)) 0 (upd (upd (upd st (1 + 3 * c) (iI a)) (1 + 3 * c + 1) (iI b)) (1 + 3 * c + 2) (iI v) 0 + (1 : Int32))) := by
  refine ⟨?_, fun j hj => ?_⟩
  · rw [upd_eq, upd_ne (by omega), upd_ne (by omega), upd_ne (by omega), hM.1, iI_p1]
  · by_cases e : j = c
    · subst e
      rw [setW_eq, setW_eq, setW_eq]
      refine ⟨?_, ?_, ?_⟩
      · rw [upd_ne (by omega), upd_ne (by omega), upd_ne (by omega), upd_eq]
      · rw [upd_ne (by omega), upd_ne (by omega), show 2 + 3 * j = 1 + 3 * j + 1 by omega, upd_eq]
      · rw [upd_ne (by omega), show 3 + 3 * j = 1 + 3 * j + 2 by omega, upd_eq]
    · rw [setW_ne _ _ e, setW_ne _ _ e, setW_ne _ _ e]
      obtain ⟨k1, k2, k3⟩ := hM.2 j (by omega)
      refine ⟨?_, ?_, ?_⟩
      · rw [upd_ne (by omega), upd_ne (by omega), upd_ne (by omega), upd_ne (by omega), k1]
      · rw [upd_ne (by omega), upd_ne (by omega), upd_ne (by omega), upd_ne (by omega), k2]
      · rw [upd_ne (by omega), upd_ne (by omega), upd_ne (by omega), upd_ne (by omega), k3]
theorem RM_mv (hM : RM c X Y W st) {i : Nat} (hi : i < c) (a b : Int) : RM c (setW X i a) (setW Y i b) W (upd (upd st (1 + 3 * i) (iI a)) (2 + 3 * i) (iI b)) := by
  refine ⟨?_, fun j hj => ?_⟩
  · rw [upd_ne (by omega), upd_ne (by omega), hM.1]
  · obtain ⟨k1, k2, k3⟩ := hM.2 j hj
    by_cases e : j = i
    · subst e
      rw [setW_eq, setW_eq]
      refine ⟨?_, ?_, ?_⟩
      · rw [upd_ne (by omega), upd_eq]
      · rw [upd_eq]
      · rw [upd_ne (by omega), upd_ne (by omega), k3]
    · rw [setW_ne _ _ e, setW_ne _ _ e]
      refine ⟨?_, ?_, ?_⟩
      · rw [upd_ne (by omega), upd_ne (by omega), k1]
      · rw [upd_ne (by omega), upd_ne (by omega), k2]
      · rw [upd_ne (by omega), upd_ne (by omega), k3]
theorem z_misw (z : Int) (h1 : -2147483648 ≤ z) (h2 : z < 2147483648) : f_X6_in_0 (iI z).toInt64 (0 : Int64) (400 : Int64) = some (if 0 ≤ z ∧ z ≤ 400 then 1 else 0) := by
  rw [iI_l h1 h2, ql_0, ql_400, z_in _ _ _ (by omega) (by omega) (by omega) (by omega) (by omega) (by omega)]
theorem z_puts (x y w : Nat → Int32) (hc : c < 10) (p q r : Int32) : f_X4_put_0 (iI c) x y w p q r = some (iI (c + 1 : Nat), upd x c p, upd y c q, upd w c r) := by
  unfold f_X4_put_0
  rw [if_pos (by rw [q_10, iI_lt] <;> omega), gIx_iI (by omega) (by omega) (by omega), nm_eq, iI_clN (by omega), iI_p1]
theorem o9_IV : op_9 IV := by
  intro xl xc cnt x y w nw rem filled sn sx sy so σ τ ml mt st mrem mh ms mused mob msx msy mss t p q r hI
  have hI0 := hI
  obtain ⟨h1, h2, ⟨h, n, q1, q2, q3, q4, q5, q6⟩, h4, h5⟩ := hI
  obtain ⟨g, h', x2, y2, w2, m2, g1, g2, e1, e2, e3, gE, hE, k1⟩ := z_remb h1 q2 q1 q6
  subst q3 q4 q5
  obtain ⟨c, X, Y, W, hB, hR, hM⟩ := h1
  have ec := hR.1
  subst ec
  have hc := hB.1
  obtain ⟨a, a1, a2, rfl⟩ := i_ex p
  obtain ⟨b, b1, b2, rfl⟩ := i_ex q
  obtain ⟨v, v1, v2, rfl⟩ := i_ex r
  unfold f_X5_add_0 f_X6_add_0
  rw [z_insq, z_ispt, z_isw, z_misw v v1 v2, iI_toInt a1 a2, iI_toInt b1 b2, iI_toInt v1 v2, show (0 : Int32).toNatClampNeg = 0 from rfl, hM.1]
  by_cases ha : (0 ≤ a ∧ a ≤ 20) ∧ 0 ≤ b ∧ b ≤ 20
  · by_cases hv : 0 ≤ v ∧ v ≤ 400
    · by_cases h10 : c < 10
      · refine ⟨g, g1, by rw [iI_clN (by omega)]; exact gE, ?_⟩
        rw [if_pos ha, if_pos hv, bnd_some, if_neg (show ¬ (1 : Int32) = 0 by decide), bnd_some, if_neg (show ¬ (1 : Int32) = 0 by decide), if_pos (show iI (c : Nat) < 10 by rw [q_10, iI_lt] <;> omega), e1, bnd6_some, z_puts _ _ _ h10, bnd4_some, bnd_some, if_neg (show ¬ (1 : Int32) = 0 by decide), bnd_some, if_neg (show ¬ (1 : Int32) = 0 by decide), if_neg (show ¬ iI (c : Nat) = 10 by rw [q_10, iI_eq] <;> omega), e2, bnd2_some, nm_eq, iI_13, iI_p1 (1 + 3 * c), iI_p2, gIx_iI (by omega) (by omega) (by omega), gIx_iI (by omega) (by omega) (by omega), gIx_iI (by omega) (by omega) (by omega), iI_clN (by omega), iI_clN (by omega), iI_clN (by omega)]
        have hM' := RM_add hM a b v
        rw [hM'.1]
        exact ⟨_, _, _, _, _, _, _, _, _, _, _, _, _, _, _, rfl, rfl, ⟨c + 1, _, _, _, BD_set3 hB c (by omega) (by omega) (by omega) (by omega) (by omega) (by omega) (by omega), RS_set3 hR (fun j hj hne => by omega) a b v, hM'⟩, h2, ⟨h', g, g2, g1, rfl, rfl, rfl, e3⟩, h4, h5⟩
      · refine ⟨_, Nat.mod_lt _ (by decide), rfl, ?_⟩
        rw [if_pos ha, if_pos hv, bnd_some, if_neg (show ¬ (1 : Int32) = 0 by decide), bnd_some, if_neg (show ¬ (1 : Int32) = 0 by decide), if_neg (show ¬ iI (c : Nat) < 10 by rw [q_10, iI_lt] <;> omega), bnd_some, if_neg (show ¬ (1 : Int32) = 0 by decide), bnd_some, if_neg (show ¬ (1 : Int32) = 0 by decide), if_pos (show iI (c : Nat) = 10 by rw [show c = 10 by omega]; rfl)]
        exact ⟨_, _, _, _, _, _, _, _, _, _, _, _, _, _, _, rfl, rfl, by rw [up_self rfl]; exact hI0⟩
    · refine ⟨_, Nat.mod_lt _ (by decide), rfl, ?_⟩
      rw [if_pos ha, if_neg hv, bnd_some, if_neg (show ¬ (1 : Int32) = 0 by decide), bnd_some, if_pos rfl, bnd_some, if_neg (show ¬ (1 : Int32) = 0 by decide), bnd_some, if_pos rfl]
      exact ⟨_, _, _, _, _, _, _, _, _, _, _, _, _, _, _, rfl, rfl, by rw [up_self rfl]; exact hI0⟩
  · refine ⟨_, Nat.mod_lt _ (by decide), rfl, ?_⟩
    rw [if_neg ha, bnd_some, if_pos rfl, bnd_some, if_pos rfl]
    exact ⟨_, _, _, _, _, _, _, _, _, _, _, _, _, _, _, rfl, rfl, by rw [up_self rfl]; exact hI0⟩
theorem o12_IV : op_12 IV := by
  intro xl xc cnt x y w nw rem filled sn sx sy so σ τ ml mt st mrem mh ms mused mob msx msy mss t p q hI
  have hI0 := hI
  obtain ⟨h1, h2, ⟨h, n, q1, q2, q3, q4, q5, q6⟩, h4, h5⟩ := hI
  obtain ⟨g, h', x2, y2, w2, m2, g1, g2, e1, e2, e3, gE, hE, k1⟩ := z_remb h1 q2 q1 q6
  subst q3 q4 q5
  obtain ⟨c, X, Y, W, hB, hR, hM⟩ := h1
  have ec := hR.1
  subst ec
  have hc := hB.1
  obtain ⟨v, v1, v2, rfl⟩ := i_ex q
  unfold f_X5_setWeight_0 f_X6_setWeight_0
  rw [z_has hc, z_nosite hM hc, z_isw, z_misw v v1 v2, iI_toInt v1 v2]
  by_cases hp : 0 ≤ p.toInt ∧ p.toInt < c
  · have hp0 := hp
    obtain ⟨i, hi, rfl⟩ := p_nat hp
    by_cases hv : 0 ≤ v ∧ v ≤ 400
    · refine ⟨g, g1, by rw [iI_clN (by omega)]; exact gE, ?_⟩
      rw [if_pos hp0, if_pos hp0, if_pos hv, bnd_some, if_neg (show ¬ (1 : Int32) = 0 by decide), bnd_some, if_neg (show ¬ (1 : Int32) = 0 by decide), e1, bnd6_some, gIx_iI (by omega) (by omega) (by omega), nm_eq, iI_clN (by omega), (hR.2 i hi).2.2, bnd_some, if_pos (show (0 : Int32) = 0 from rfl), bnd_some, if_neg (show ¬ (1 : Int32) = 0 by decide), e2, bnd2_some, z_part2 hM hc hi, bnd_some, iI_33, gIx_iI (by omega) (by omega) (by omega), iI_clN (by omega)]
      exact ⟨_, _, _, _, _, _, _, _, _, _, _, _, rfl, rfl, ⟨c, X, Y, setW W i v, BD_set hB i hv.1 hv.2, ⟨rfl, fun j hj => by
        by_cases e : j = i
        · rw [e, setW_eq, upd_eq]; exact ⟨(hR.2 i hi).1, (hR.2 i hi).2.1, rfl⟩
        · rw [setW_ne _ _ e, upd_ne e]; exact hR.2 j hj⟩, RM_set hM hi (v0 := 0) (Or.inr hM)⟩, h2, ⟨h', g, g2, g1, rfl, rfl, rfl, e3⟩, h4, h5⟩
    · refine ⟨_, Nat.mod_lt _ (by decide), rfl, ?_⟩
      rw [if_pos hp0, if_pos hp0, if_neg hv, bnd_some, if_neg (show ¬ (1 : Int32) = 0 by decide), bnd_some, if_pos rfl, bnd_some, if_pos (show (0 : Int32) = 0 from rfl), bnd_some, if_pos rfl]
      exact ⟨_, _, _, _, _, _, _, _, _, _, _, _, rfl, rfl, by rw [up_self rfl]; exact hI0⟩
  · refine ⟨_, Nat.mod_lt _ (by decide), rfl, ?_⟩
    rw [if_neg hp, if_neg hp, bnd_some, if_pos rfl, bnd_some, if_neg (show ¬ (1 : Int32) = 0 by decide)]
    exact ⟨_, _, _, _, _, _, _, _, _, _, _, _, rfl, rfl, by rw [up_self rfl]; exact hI0⟩
theorem o11_IV : op_11 IV := by
  intro xl xc cnt x y w nw rem filled sn sx sy so σ τ ml mt st mrem mh ms mused mob msx msy mss t p q r hI
  have hI0 := hI
  obtain ⟨h1, h2, ⟨h, n, q1, q2, q3, q4, q5, q6⟩, h4, h5⟩ := hI
  obtain ⟨g, h', x2, y2, w2, m2, g1, g2, e1, e2, e3, gE, hE, k1⟩ := z_remb h1 q2 q1 q6
  subst q3 q4 q5
  obtain ⟨c, X, Y, W, hB, hR, hM⟩ := h1
  have ec := hR.1
  subst ec
  have hc := hB.1
  obtain ⟨a, a1, a2, rfl⟩ := i_ex q
  obtain ⟨b, b1, b2, rfl⟩ := i_ex r
  unfold f_X5_move_0 f_X6_move_0
  rw [z_has hc, z_nosite hM hc, z_insq, z_ispt, iI_toInt a1 a2, iI_toInt b1 b2]
  by_cases hp : 0 ≤ p.toInt ∧ p.toInt < c
  · have hp0 := hp
    obtain ⟨i, hi, rfl⟩ := p_nat hp
    by_cases ha : (0 ≤ a ∧ a ≤ 20) ∧ 0 ≤ b ∧ b ≤ 20
    · refine ⟨g, g1, by rw [iI_clN (by omega)]; exact gE, ?_⟩
      rw [if_pos hp0, if_pos hp0, if_pos ha, bnd_some, if_neg (show ¬ (1 : Int32) = 0 by decide), bnd_some, if_neg (show ¬ (1 : Int32) = 0 by decide), e1, bnd6_some, gIx_iI (by omega) (by omega) (by omega), nm_eq, iI_clN (by omega), (hR.2 i hi).1, (hR.2 i hi).2.1, bnd_some, if_pos (show (0 : Int32) = 0 from rfl), bnd_some, if_neg (show ¬ (1 : Int32) = 0 by decide), e2, bnd2_some, z_part0 hM hc hi, bnd_some, z_part1 hM hc hi, bnd_some, nm_eq, iI_13, iI_23, gIx_iI (by omega) (by omega) (by omega), gIx_iI (by omega) (by omega) (by omega), iI_clN (by omega), iI_clN (by omega)]
      exact ⟨_, _, _, _, _, _, _, _, _, _, _, _, _, rfl, rfl, ⟨c, setW X i a, setW Y i b, W, ⟨hc, fun j => by
        by_cases e : j = i
        · rw [e, setW_eq, setW_eq]; exact ⟨ha.1, ha.2, (hB.2 i).2.2⟩
        · rw [setW_ne _ _ e, setW_ne _ _ e]; exact hB.2 j⟩, ⟨rfl, fun j hj => by
        by_cases e : j = i
        · rw [e, setW_eq, setW_eq, upd_eq, upd_eq]; exact ⟨rfl, rfl, (hR.2 i hi).2.2⟩
        · rw [setW_ne _ _ e, setW_ne _ _ e, upd_ne e, upd_ne e]; exact hR.2 j hj⟩, RM_mv hM hi a b⟩, h2, ⟨h', g, g2, g1, rfl, rfl, rfl, e3⟩, h4, h5⟩
    · refine ⟨_, Nat.mod_lt _ (by decide), rfl, ?_⟩
      rw [if_pos hp0, if_pos hp0, if_neg ha, bnd_some, if_neg (show ¬ (1 : Int32) = 0 by decide), bnd_some, if_pos rfl, bnd_some, if_pos (show (0 : Int32) = 0 from rfl), bnd_some, if_pos rfl]
      exact ⟨_, _, _, _, _, _, _, _, _, _, _, _, _, rfl, rfl, by rw [up_self rfl]; exact hI0⟩
  · refine ⟨_, Nat.mod_lt _ (by decide), rfl, ?_⟩
    rw [if_neg hp, if_neg hp, bnd_some, if_pos rfl, bnd_some, if_neg (show ¬ (1 : Int32) = 0 by decide)]
    exact ⟨_, _, _, _, _, _, _, _, _, _, _, _, _, rfl, rfl, by rw [up_self rfl]; exact hI0⟩
/-! dropping a site -/
def dpF (X : Nat → Int) (i : Nat) : Nat → Int := fun j => X (if j < i then j else j + 1)
theorem z_drop13 (hc : c ≤ 10) {i : Nat} (x0 y0 w0 : Nat → Int32) :
    ∀ (e k n : Nat) (x y w : Nat → Int32), k + e = c → i + 1 ≤ k → e < n → (∀ j, j + 1 < k → x j = x0 (if j < i then j else j + 1) ∧ y j = y0 (if j < i then j else j + 1) ∧ w j = w0 (if j < i then j else j + 1)) → (∀ j, k ≤ j → x j = x0 j ∧ y j = y0 j ∧ w j = w0 j) → ∃ x2 y2 w2 : Nat → Int32, f_X4_drop_13 n (iI c) x y w (iI k) = some (iI c - 1, x2, y2, w2) ∧ ∀ j, j + 1 < c → x2 j = x0 (if j < i then j else j + 1) ∧ y2 j = y0 (if j < i then j else j + 1) ∧ w2 j = w0 (if j < i then j else j + 1) := by
  intro e
  induction e with
  | zero =>
    intro k n x y w hk hik hn h1 h2
    obtain ⟨n, rfl⟩ : ∃ k, n = k + 1 := ⟨n - 1, by omega⟩
    have e : k = c := by omega
    subst e
    refine ⟨x, y, w, ?_, h1⟩
    have key : ∀ a1 a2 a3 a4 v, f_X4_drop_13 (n + 1) a1 a2 a3 a4 v = g_X4_drop_13 (f_X4_drop_13 n) a1 a2 a3 a4 v := fun _ _ _ _ _ => rfl
    rw [key]
    unfold g_X4_drop_13
    rw [if_pos (by rw [iI_le] <;> omega), nm_eq]
  | succ e ih =>
    intro k n x y w hk hik hn h1 h2
    obtain ⟨n, rfl⟩ : ∃ k, n = k + 1 := ⟨n - 1, by omega⟩
    have key : ∀ a1 a2 a3 a4 v, f_X4_drop_13 (n + 1) a1 a2 a3 a4 v = g_X4_drop_13 (f_X4_drop_13 n) a1 a2 a3 a4 v := fun _ _ _ _ _ => rfl
    rw [key]
    unfold g_X4_drop_13
    obtain ⟨k, rfl⟩ : ∃ k', k = k' + 1 := ⟨k - 1, by omega⟩
    rw [if_neg (by rw [iI_le] <;> omega), iI_s1, gIx_iI (by omega) (by omega) (by omega), gIx_iI (by omega) (by omega) (by omega), iI_clN (by omega), iI_clN (by omega), iI_p1]
    refine ih (k + 1 + 1) n _ _ _ (by omega) (by omega) (by omega) (fun j hj => ?_) (fun j hj => ?_)
    · by_cases e : j = k
      · rw [e, upd_eq, upd_eq, upd_eq, if_neg (by omega)]
        exact h2 (k + 1) (by omega)
      · rw [upd_ne e, upd_ne e, upd_ne e]
        exact h1 j (by omega)
    · rw [upd_ne (by omega), upd_ne (by omega), upd_ne (by omega)]
      exact h2 j (by omega)
theorem z_drop (hR : RS (c + 1) X Y W cnt x y w) (hc : c < 10) {i : Nat} (hi : i < c + 1) : ∃ x2 y2 w2 : Nat → Int32, f_X4_drop_0 cnt x y w (iI i) = some (iI c, x2, y2, w2) ∧ RS c (dpF X i) (dpF Y i) (dpF W i) (iI c) x2 y2 w2 := by
  have ec := hR.1
  subst ec
  unfold f_X4_drop_0
  rw [z_has (by omega), bnd_some, iI_toInt (by omega) (by omega), if_pos (show (0 : Int) ≤ (i : Int) ∧ (i : Int) < ((c + 1 : Nat) : Int) by omega), if_neg (show ¬ (1 : Int32) = 0 by decide), nm_eq, iI_p1 i]
  obtain ⟨x2, y2, w2, e1, h1⟩ := z_drop13 (show c + 1 ≤ 10 by omega) (i := i) x y w (c - i) (i + 1) fuel x y w (by omega) (by omega) (by unfold fuel; omega) (fun j hj => by rw [if_pos (by omega)]; exact ⟨rfl, rfl, rfl⟩) (fun _ _ => ⟨rfl, rfl, rfl⟩)
  rw [e1, iI_s1]
  refine ⟨x2, y2, w2, rfl, rfl, fun j hj => ?_⟩
  obtain ⟨k1, k2, k3⟩ := h1 j (by omega)
  rw [k1, k2, k3]
  exact hR.2 _ (by split <;> omega)
theorem z_rf6 {i : Nat} (p0 : Nat → Int32) :
    ∀ (e m n : Nat) (p : Nat → Int32), m + e = 28 → 1 + 3 * i ≤ m → e < n → (∀ j, j < m → p j = p0 (if j < 1 + 3 * i then j else j + 3)) → (∀ j, m ≤ j → p j = p0 j) → ∃ p2 : Nat → Int32, f_X6_removeFrom_6 n p (iI m) = some p2 ∧ p2 0 = p0 0 - 1 ∧ ∀ j, 1 ≤ j → j < 28 → p2 j = p0 (if j < 1 + 3 * i then j else j + 3) := by
  intro e
  induction e with
  | zero =>
    intro m n p hm him hn h1 h2
    obtain ⟨n, rfl⟩ : ∃ k, n = k + 1 := ⟨n - 1, by omega⟩
    have e : m = 28 := by omega
    subst e
    refine ⟨upd p 0 (p 0 - 1), ?_, ?_, fun j h3 h4 => ?_⟩
    · have key : ∀ a1 v, f_X6_removeFrom_6 (n + 1) a1 v = g_X6_removeFrom_6 (f_X6_removeFrom_6 n) a1 v := fun _ _ => rfl
      rw [key]
      unfold g_X6_removeFrom_6
      rw [iI_p3, if_pos (by rw [q_31, iI_le] <;> omega)]
      rfl
    · rw [upd_eq, h1 0 (by omega), if_pos (by omega)]
    · rw [upd_ne (by omega)]
      exact h1 j h4
  | succ e ih =>
    intro m n p hm him hn h1 h2
    obtain ⟨n, rfl⟩ : ∃ k, n = k + 1 := ⟨n - 1, by omega⟩
    have key : ∀ a1 v, f_X6_removeFrom_6 (n + 1) a1 v = g_X6_removeFrom_6 (f_X6_removeFrom_6 n) a1 v := fun _ _ => rfl
    rw [key]
    unfold g_X6_removeFrom_6
    rw [iI_p3, if_neg (by rw [q_31, iI_le] <;> omega), gIx_iI (by omega) (by omega) (by omega), gIx_iI (by omega) (by omega) (by omega), iI_clN (by omega), iI_clN (by omega), iI_p1]
    refine ih (m + 1) n _ (by omega) (by omega) (by omega) (fun j hj => ?_) (fun j hj => ?_)
    · by_cases e : j = m
      · rw [e, upd_eq, if_neg (by omega)]
        exact h2 (m + 3) (by omega)
      · rw [upd_ne e]
        exact h1 j (by omega)
    · rw [upd_ne (by omega)]
      exact h2 j (by omega)
theorem z_rf (hM : RM (c + 1) X Y W st) (hc : c < 10) {i : Nat} (hi : i < c + 1) : ∃ p2 : Nat → Int32, f_X6_removeFrom_0 st (iI i) = some p2 ∧ RM c (dpF X i) (dpF Y i) (dpF W i) p2 := by
  unfold f_X6_removeFrom_0
  rw [iI_13, nm_eq]
  obtain ⟨p2, e1, h0, h1⟩ := z_rf6 (i := i) st (28 - (1 + 3 * i)) (1 + 3 * i) fuel st (by omega) (by omega) (by unfold fuel; omega) (fun j hj => by rw [if_pos hj]) (fun _ _ => rfl)
  refine ⟨p2, e1, ?_, fun j hj => ?_⟩
  · rw [h0, hM.1, iI_s1]
  · unfold dpF
    rw [h1 (1 + 3 * j) (by omega) (by omega), h1 (2 + 3 * j) (by omega) (by omega), h1 (3 + 3 * j) (by omega) (by omega)]
    by_cases e : j < i
    · rw [if_pos e, if_pos (by omega), if_pos (by omega), if_pos (by omega)]
      exact hM.2 j (by omega)
    · rw [if_neg e, if_neg (by omega), if_neg (by omega), if_neg (by omega)]
      exact hM.2 (j + 1) (by omega)
theorem BD_dp (hB : BD (c + 1) X Y W) (i : Nat) : BD c (dpF X i) (dpF Y i) (dpF W i) := by
  have := hB.1
  exact ⟨by omega, fun j => hB.2 _⟩
theorem o10_IV : op_10 IV := by
  intro xl xc cnt x y w nw rem filled sn sx sy so σ τ ml mt st mrem mh ms mused mob msx msy mss t p hI
  have hI0 := hI
  obtain ⟨h1, h2, ⟨h, n, q1, q2, q3, q4, q5, q6⟩, h4, h5⟩ := hI
  obtain ⟨g, h', x2, y2, w2, m2, g1, g2, e1, e2, e3, gE, hE, k1⟩ := z_remb h1 q2 q1 q6
  subst q3 q4 q5
  obtain ⟨c, X, Y, W, hB, hR, hM⟩ := h1
  have ec := hR.1
  subst ec
  have hc := hB.1
  unfold f_X5_remove_0 f_X6_remove_0
  rw [z_has hc, z_nosite hM hc]
  by_cases hp : 0 ≤ p.toInt ∧ p.toInt < c
  · have hp0 := hp
    obtain ⟨i, hi, rfl⟩ := p_nat hp
    refine ⟨g, g1, by rw [iI_clN (by omega)]; exact gE, ?_⟩
    obtain ⟨c, rfl⟩ : ∃ k, c = k + 1 := ⟨c - 1, by omega⟩
    obtain ⟨x3, y3, w3, e4, hR'⟩ := z_drop hR (by omega) hi
    obtain ⟨p2, e5, hM'⟩ := z_rf hM (by omega) hi
    rw [if_pos hp0, if_pos hp0, bnd_some, if_neg (show ¬ (1 : Int32) = 0 by decide), e1, bnd6_some, e4, bnd4_some, bnd_some, if_pos (show (0 : Int32) = 0 from rfl), e2, bnd2_some, e5, bnd_some, show (0 : Int32).toNatClampNeg = 0 from rfl, hM'.1]
    exact ⟨_, _, _, _, _, _, _, _, _, _, _, _, _, _, _, rfl, rfl, ⟨c, _, _, _, BD_dp hB i, hR', hM'⟩, h2, ⟨h', g, g2, g1, rfl, rfl, rfl, e3⟩, h4, h5⟩
  · refine ⟨_, Nat.mod_lt _ (by decide), rfl, ?_⟩
    rw [if_neg hp, if_neg hp, bnd_some, if_pos rfl, bnd_some, if_neg (show ¬ (1 : Int32) = 0 by decide)]
    exact ⟨_, _, _, _, _, _, _, _, _, _, _, _, _, _, _, rfl, rfl, by rw [up_self rfl]; exact hI0⟩
end ZAC
