/-! ===== what the calls that change something do ===== -/
theorem th_new {n h : Nat} (hn : n < 14) (hh : h ≤ 14) {σ : Nat → S4} {v : S4} {c : Nat} {X Y W : Nat → Int} (hB : BD c X Y W) (hR : RS c X Y W v.1 v.2.1 v.2.2.1 v.2.2.2) : TOPH (iI ((n + 1) % 14 : Nat)) (iI (min (h + 1) 14 : Nat)) (va_up σ ((n + 1) % 14) v) 0 c X Y W := by
  refine ⟨hB, (n + 1) % 14, min (h + 1) 14, by omega, by omega, by omega, rfl, rfl, ?_⟩
  rw [show ((n + 1) % 14 + 14 - 0) % 14 = (n + 1) % 14 by omega, up_eq]
  exact hR
theorem th_old {n h : Nat} (hn : n < 14) (hh : h ≤ 14) {σ : Nat → S4} {v : S4} {k c : Nat} {X Y W : Nat → Int} (hk : k + 1 < 14) (hT : TOPH (iI (n : Nat)) (iI (h : Nat)) σ k c X Y W) : TOPH (iI ((n + 1) % 14 : Nat)) (iI (min (h + 1) 14 : Nat)) (va_up σ ((n + 1) % 14) v) (k + 1) c X Y W := by
  obtain ⟨hB, n', h', n1, h1, k1, e1, e2, hR⟩ := hT
  have en := iI_inj (by omega) (by omega) e1
  have eh := iI_inj (by omega) (by omega) e2
  subst en eh
  refine ⟨hB, (n + 1) % 14, min (h + 1) 14, by omega, by omega, by omega, rfl, rfl, ?_⟩
  rw [show ((n + 1) % 14 + 14 - (k + 1)) % 14 = (n + 14 - k) % 14 by omega, up_ne (by omega)]
  exact hR
theorem th_undo {n h : Nat} (hn : n < 14) (hh : h + 1 ≤ 14) {σ : Nat → S4} {k c : Nat} {X Y W : Nat → Int} (hT : TOPH (iI (n : Nat)) (iI (h + 1 : Nat)) σ (k + 1) c X Y W) : TOPH (iI (if n = 0 then 13 else n - 1 : Nat)) (iI (h : Nat)) σ k c X Y W := by
  obtain ⟨hB, n', h', n1, h1, k1, e1, e2, hR⟩ := hT
  have en := iI_inj (by omega) (by omega) e1
  have eh := iI_inj (by omega) (by omega) e2
  subst en eh
  have e3 : ((if n = 0 then 13 else n - 1) + 14 - k) % 14 = (n + 14 - (k + 1)) % 14 := by
    by_cases q : n = 0
    · rw [if_pos q]; omega
    · rw [if_neg q]; omega
  refine ⟨hB, if n = 0 then 13 else n - 1, h, by split <;> omega, by omega, by omega, rfl, rfl, ?_⟩
  rw [e3]
  exact hR
theorem NW_T {s : ST} {k c : Nat} {X Y W : Nat → Int} (h : TOP s k c X Y W) : NW s := by
  obtain ⟨-, n, h, n1, h1, -, e1, e2, -⟩ := h
  exact ⟨n, h, n1, h1, e1, e2⟩
theorem set_old {c : Nat} {X Y W : Nat → Int} {cnt : Int32} {x y w : Nat → Int32} (hB : BD c X Y W) (hR : RS c X Y W cnt x y w) {i : Nat} (hi : i < c) (v : Int) : RS c X Y (setW W i v) cnt x y (upd w i (iI v)) := by
  refine ⟨hR.1, fun j hj => ?_⟩
  obtain ⟨r1, r2, r3⟩ := hR.2 j hj
  by_cases e : j = i
  · subst e
    rw [setW_eq, upd_eq]
    exact ⟨r1, r2, rfl⟩
  · rw [setW_ne _ _ e, upd_ne e]
    exact ⟨r1, r2, r3⟩
set_option maxRecDepth 20000 in
theorem e_add {s : ST} {c : Nat} {X Y W : Nat → Int} (h : GS s c X Y W) (hw : NW s) (hc9 : c < 10) {a b v : Int} (a1 : 0 ≤ a) (a2 : a ≤ 20) (b1 : 0 ≤ b) (b2 : b ≤ 20) (v1 : 0 ≤ v) (v2 : v ≤ 400) : ∃ s' : ST, F_X5_add s (iI a) (iI b) (iI v) = some (iI (c : Nat), s') ∧ GS s' (c + 1) (setW X c a) (setW Y c b) (setW W c v) ∧ TOP s' 0 c X Y W ∧ (∀ (k c' : Nat) (X' Y' W' : Nat → Int), k + 1 < 14 → TOP s k c' X' Y' W' → TOP s' (k + 1) c' X' Y' W') ∧ (∀ (m : Nat) (ox oy oo : Nat → Nat), GO s m ox oy oo → GO s' m ox oy oo) := by
  obtain ⟨s0, s1, s2, s3, s4, s5, s6, s7, s8, s9, s10, s11, s12, s13, s14, s15, s16, s17, s18, s19, s20, s21, s22, s23, s24, s25, s26, s27, s28, s29, s30, s31⟩ := s
  obtain ⟨n, hh, n1, h1, e0, e1⟩ := hw
  have e0' : s0 = iI (n : Nat) := e0
  have e1' : s1 = iI (hh : Nat) := e1
  subst e0' e1'
  have hB : BD c X Y W := h.1
  have hR : RS c X Y W s10 s11 s12 s13 := h.2
  have ec := hR.1
  subst ec
  have hc := hB.1
  obtain ⟨x2, y2, w2, er, k1⟩ := z_rem (iI (c : Nat)) s11 s12 s13 n1 h1 (s30 ((n + 1) % 14)).1 (s30 ((n + 1) % 14)).2.1 (s30 ((n + 1) % 14)).2.2.1 (s30 ((n + 1) % 14)).2.2.2
  have f1 : F_X5_add (iI (n : Nat), iI (hh : Nat), s2, s3, s4, s5, s6, s7, s8, s9, iI (c : Nat), s11, s12, s13, s14, s15, s16, s17, s18, s19, s20, s21, s22, s23, s24, s25, s26, s27, s28, s29, s30, s31) (iI a) (iI b) (iI v) = some (iI (c : Nat), (iI ((n + 1) % 14 : Nat), iI (min (hh + 1) 14 : Nat), s2, s3, s4, s5, s6, s7, s8, s9, iI (c + 1 : Nat), upd s11 c (iI a), upd s12 c (iI b), upd s13 c (iI v), s14, s15, s16, s17, s18, s19, s20, s21, s22, s23, s24, s25, s26, s27, s28, s29, (va_up s30 ((n + 1) % 14) (iI (c : Nat), x2, y2, w2)), s31)) := by
    unfold F_X5_add f_X5_add_0
    dsimp only
    rw [iI_clN (by omega)]
    rw [z_insq, z_isw, iI_toInt (by omega) (by omega), iI_toInt (by omega) (by omega), iI_toInt (by omega) (by omega), if_pos (show (0 ≤ a ∧ a ≤ 20) ∧ 0 ≤ b ∧ b ≤ 20 from ⟨⟨a1, a2⟩, b1, b2⟩), if_pos (show 0 ≤ v ∧ v ≤ 400 from ⟨v1, v2⟩), bnd_some, if_neg (show ¬ (1 : Int32) = 0 by decide), bnd_some, if_neg (show ¬ (1 : Int32) = 0 by decide), if_pos (show iI (c : Nat) < 10 by rw [q_10, iI_lt] <;> omega), er, bnd6_some, z_puts _ _ _ hc9, bnd4_some, bnd11_some, iI_s1]
  exact ⟨(iI ((n + 1) % 14 : Nat), iI (min (hh + 1) 14 : Nat), s2, s3, s4, s5, s6, s7, s8, s9, iI (c + 1 : Nat), upd s11 c (iI a), upd s12 c (iI b), upd s13 c (iI v), s14, s15, s16, s17, s18, s19, s20, s21, s22, s23, s24, s25, s26, s27, s28, s29, (va_up s30 ((n + 1) % 14) (iI (c : Nat), x2, y2, w2)), s31), f1, ⟨BD_set3 hB c (by omega) a1 a2 b1 b2 v1 v2, RS_set3 hR (fun j hj hne => by omega) a b v⟩, th_new n1 h1 hB (RS_cp hR hc k1), fun k c' X' Y' W' hk hT => th_old n1 h1 hk hT, fun m ox oy oo g => g⟩
set_option maxRecDepth 20000 in
theorem e_set {s : ST} {c : Nat} {X Y W : Nat → Int} (h : GS s c X Y W) (hw : NW s) {i : Nat} (hi : i < c) {v : Int} (v1 : 0 ≤ v) (v2 : v ≤ 400) : ∃ s' : ST, F_X5_setWeight s (iI (i : Nat)) (iI v) = some (iI (W i), s') ∧ GS s' c X Y (setW W i v) ∧ TOP s' 0 c X Y W ∧ (∀ (k c' : Nat) (X' Y' W' : Nat → Int), k + 1 < 14 → TOP s k c' X' Y' W' → TOP s' (k + 1) c' X' Y' W') ∧ (∀ (m : Nat) (ox oy oo : Nat → Nat), GO s m ox oy oo → GO s' m ox oy oo) := by
  obtain ⟨s0, s1, s2, s3, s4, s5, s6, s7, s8, s9, s10, s11, s12, s13, s14, s15, s16, s17, s18, s19, s20, s21, s22, s23, s24, s25, s26, s27, s28, s29, s30, s31⟩ := s
  obtain ⟨n, hh, n1, h1, e0, e1⟩ := hw
  have e0' : s0 = iI (n : Nat) := e0
  have e1' : s1 = iI (hh : Nat) := e1
  subst e0' e1'
  have hB : BD c X Y W := h.1
  have hR : RS c X Y W s10 s11 s12 s13 := h.2
  have ec := hR.1
  subst ec
  have hc := hB.1
  obtain ⟨x2, y2, w2, er, k1⟩ := z_rem (iI (c : Nat)) s11 s12 s13 n1 h1 (s30 ((n + 1) % 14)).1 (s30 ((n + 1) % 14)).2.1 (s30 ((n + 1) % 14)).2.2.1 (s30 ((n + 1) % 14)).2.2.2
  have f1 : F_X5_setWeight (iI (n : Nat), iI (hh : Nat), s2, s3, s4, s5, s6, s7, s8, s9, iI (c : Nat), s11, s12, s13, s14, s15, s16, s17, s18, s19, s20, s21, s22, s23, s24, s25, s26, s27, s28, s29, s30, s31) (iI (i : Nat)) (iI v) = some (iI (W i), (iI ((n + 1) % 14 : Nat), iI (min (hh + 1) 14 : Nat), s2, s3, s4, s5, s6, s7, s8, s9, iI (c : Nat), s11, s12, upd s13 i (iI v), s14, s15, s16, s17, s18, s19, s20, s21, s22, s23, s24, s25, s26, s27, s28, s29, (va_up s30 ((n + 1) % 14) (iI (c : Nat), x2, y2, w2)), s31)) := by
    unfold F_X5_setWeight f_X5_setWeight_0
    dsimp only
    rw [iI_clN (by omega)]
    rw [z_has hc, bnd_some, if_pos (k_pin hi hc), if_neg (show ¬ (1 : Int32) = 0 by decide), z_isw, iI_toInt (by omega) (by omega), if_pos (show 0 ≤ v ∧ v ≤ 400 from ⟨v1, v2⟩), bnd_some, if_neg (show ¬ (1 : Int32) = 0 by decide), er, bnd6_some, gIx_iI (by omega) (by omega) (by omega), nm_eq, iI_clN (by omega), (hR.2 i hi).2.2, bnd8_some]
  exact ⟨(iI ((n + 1) % 14 : Nat), iI (min (hh + 1) 14 : Nat), s2, s3, s4, s5, s6, s7, s8, s9, iI (c : Nat), s11, s12, upd s13 i (iI v), s14, s15, s16, s17, s18, s19, s20, s21, s22, s23, s24, s25, s26, s27, s28, s29, (va_up s30 ((n + 1) % 14) (iI (c : Nat), x2, y2, w2)), s31), f1, ⟨BD_set hB i v1 v2, set_old hB hR hi v⟩, th_new n1 h1 hB (RS_cp hR hc k1), fun k c' X' Y' W' hk hT => th_old n1 h1 hk hT, fun m ox oy oo g => g⟩
set_option maxRecDepth 20000 in
theorem e_rem {s : ST} {c : Nat} {X Y W : Nat → Int} (h : GS s (c + 1) X Y W) (hw : NW s)  : ∃ s' : ST, F_X5_remove s (iI (c : Nat)) = some (iI (c : Nat), s') ∧ GS s' c (dpF X c) (dpF Y c) (dpF W c) ∧ TOP s' 0 (c + 1) X Y W ∧ (∀ (k c' : Nat) (X' Y' W' : Nat → Int), k + 1 < 14 → TOP s k c' X' Y' W' → TOP s' (k + 1) c' X' Y' W') ∧ (∀ (m : Nat) (ox oy oo : Nat → Nat), GO s m ox oy oo → GO s' m ox oy oo) := by
  obtain ⟨s0, s1, s2, s3, s4, s5, s6, s7, s8, s9, s10, s11, s12, s13, s14, s15, s16, s17, s18, s19, s20, s21, s22, s23, s24, s25, s26, s27, s28, s29, s30, s31⟩ := s
  obtain ⟨n, hh, n1, h1, e0, e1⟩ := hw
  have e0' : s0 = iI (n : Nat) := e0
  have e1' : s1 = iI (hh : Nat) := e1
  subst e0' e1'
  have hB : BD (c + 1) X Y W := h.1
  have hR : RS (c + 1) X Y W s10 s11 s12 s13 := h.2
  have ec := hR.1
  subst ec
  have hc := hB.1
  obtain ⟨x2, y2, w2, er, k1⟩ := z_rem (iI ((c + 1) : Nat)) s11 s12 s13 n1 h1 (s30 ((n + 1) % 14)).1 (s30 ((n + 1) % 14)).2.1 (s30 ((n + 1) % 14)).2.2.1 (s30 ((n + 1) % 14)).2.2.2
  obtain ⟨x3, y3, w3, e4, hR3⟩ := z_drop hR (by omega) (show c < c + 1 by omega)
  have f1 : F_X5_remove (iI (n : Nat), iI (hh : Nat), s2, s3, s4, s5, s6, s7, s8, s9, iI ((c + 1) : Nat), s11, s12, s13, s14, s15, s16, s17, s18, s19, s20, s21, s22, s23, s24, s25, s26, s27, s28, s29, s30, s31) (iI (c : Nat)) = some (iI (c : Nat), (iI ((n + 1) % 14 : Nat), iI (min (hh + 1) 14 : Nat), s2, s3, s4, s5, s6, s7, s8, s9, iI (c : Nat), x3, y3, w3, s14, s15, s16, s17, s18, s19, s20, s21, s22, s23, s24, s25, s26, s27, s28, s29, (va_up s30 ((n + 1) % 14) (iI ((c + 1) : Nat), x2, y2, w2)), s31)) := by
    unfold F_X5_remove f_X5_remove_0
    dsimp only
    rw [iI_clN (by omega)]
    rw [z_has hc, bnd_some, if_pos (k_pin (show c < c + 1 by omega) hc), if_neg (show ¬ (1 : Int32) = 0 by decide), er, bnd6_some, e4, bnd4_some, bnd11_some]
  exact ⟨(iI ((n + 1) % 14 : Nat), iI (min (hh + 1) 14 : Nat), s2, s3, s4, s5, s6, s7, s8, s9, iI (c : Nat), x3, y3, w3, s14, s15, s16, s17, s18, s19, s20, s21, s22, s23, s24, s25, s26, s27, s28, s29, (va_up s30 ((n + 1) % 14) (iI ((c + 1) : Nat), x2, y2, w2)), s31), f1, ⟨BD_dp hB c, hR3⟩, th_new n1 h1 hB (RS_cp hR hc k1), fun k c' X' Y' W' hk hT => th_old n1 h1 hk hT, fun m ox oy oo g => g⟩
set_option maxRecDepth 20000 in
theorem e_undo {s : ST} {c : Nat} {X Y W : Nat → Int} (h : TOP s 0 c X Y W) : ∃ (r : Nat) (s' : ST), F_X5_undo s = some (iI (r : Nat), s') ∧ r ≤ 14 ∧ GS s' c X Y W ∧ (∀ (k c' : Nat) (X' Y' W' : Nat → Int), TOP s (k + 1) c' X' Y' W' → TOP s' k c' X' Y' W') ∧ (∀ (m : Nat) (ox oy oo : Nat → Nat), GO s m ox oy oo → GO s' m ox oy oo) ∧ NW s' := by
  obtain ⟨s0, s1, s2, s3, s4, s5, s6, s7, s8, s9, s10, s11, s12, s13, s14, s15, s16, s17, s18, s19, s20, s21, s22, s23, s24, s25, s26, s27, s28, s29, s30, s31⟩ := s
  obtain ⟨hB, n, hh, n1, h1, k1, e0, e1, hR⟩ := h
  have e0' : s0 = iI (n : Nat) := e0
  have e1' : s1 = iI (hh : Nat) := e1
  subst e0' e1'
  rw [show (n + 14 - 0) % 14 = n by omega] at hR
  obtain ⟨h, rfl⟩ : ∃ k, hh = k + 1 := ⟨hh - 1, by omega⟩
  have em : iI ((h + 1 : Nat) : Int) - (1 : Int32) = iI (h : Nat) := by rw [q_1, iI_sub]; congr 1; omega
  obtain ⟨x2, y2, w2, ec, kc⟩ := z_copy (s30 n).1 (s30 n).2.1 (s30 n).2.2.1 (s30 n).2.2.2 s10 s11 s12 s13
  have f1 : F_X5_undo (iI (n : Nat), iI (h + 1 : Nat), s2, s3, s4, s5, s6, s7, s8, s9, s10, s11, s12, s13, s14, s15, s16, s17, s18, s19, s20, s21, s22, s23, s24, s25, s26, s27, s28, s29, s30, s31) = some (iI (h : Nat), (iI (if n = 0 then 13 else n - 1 : Nat), iI (h : Nat), s2, s3, s4, s5, s6, s7, s8, s9, (s30 n).1, x2, y2, w2, s14, s15, s16, s17, s18, s19, s20, s21, s22, s23, s24, s25, s26, s27, s28, s29, s30, s31)) := by
    unfold F_X5_undo f_X5_undo_0
    dsimp only
    rw [iI_clN (by omega), Nat.mod_eq_of_lt n1, if_neg (show ¬ iI ((h + 1 : Nat) : Int) = 0 by rw [q_0, iI_eq] <;> omega), gIx_iI (by omega) (by omega) (by omega), nI_iI, gEq_rf, ec, bnd4_some]
    unfold f_X5_undo_45
    rw [em, nm_eq, nm_eq]
    by_cases en : n = 0
    · subst en
      rw [if_pos (show iI (0 : Nat) = 0 from rfl), if_pos rfl, bnd7_some]
      rfl
    · obtain ⟨n, rfl⟩ : ∃ k, n = k + 1 := ⟨n - 1, by omega⟩
      have em2 : iI ((n + 1 : Nat) : Int) - (1 : Int32) = iI (n : Nat) := by rw [q_1, iI_sub]; congr 1; omega
      rw [if_neg (by rw [q_0, iI_eq] <;> omega), if_neg (show ¬ n + 1 = 0 by omega), em2, bnd7_some]
      rfl
  exact ⟨h, (iI (if n = 0 then 13 else n - 1 : Nat), iI (h : Nat), s2, s3, s4, s5, s6, s7, s8, s9, (s30 n).1, x2, y2, w2, s14, s15, s16, s17, s18, s19, s20, s21, s22, s23, s24, s25, s26, s27, s28, s29, s30, s31), f1, by omega, ⟨hB, RS_cp hR hB.1 kc⟩, fun k c' X' Y' W' hT => th_undo n1 (by omega) hT, fun m ox oy oo g => g, if n = 0 then 13 else n - 1, h, by split <;> omega, by omega, rfl, rfl⟩
theorem e_clr {s : ST} {m : Nat} {ox oy oo : Nat → Nat} (g : GO s m ox oy oo) : ∃ s' : ST, F_X5_clearObservations s = some (iI (m : Nat), s') ∧ GO s' 0 ox oy oo ∧ (∀ (c : Nat) (X Y W : Nat → Int), GS s c X Y W → GS s' c X Y W) := by
  obtain ⟨s0, s1, s2, s3, s4, s5, s6, s7, s8, s9, s10, s11, s12, s13, s14, s15, s16, s17, s18, s19, s20, s21, s22, s23, s24, s25, s26, s27, s28, s29, s30, s31⟩ := s
  have e2 : s2 = iI (m : Nat) := g.2.1
  subst e2
  exact ⟨(s0, s1, 0, s3, s4, s5, s6, s7, s8, s9, s10, s11, s12, s13, s14, s15, s16, s17, s18, s19, s20, s21, s22, s23, s24, s25, s26, s27, s28, s29, s30, s31), rfl, ⟨⟨by omega, fun k hk => by omega⟩, rfl, fun k hk => by omega⟩, fun c X Y W h => h⟩
theorem e_obs {s : ST} {ox oy oo : Nat → Nat} (g : GO s 0 ox oy oo) {p q i : Nat} (hp : p ≤ 20) (hq : q ≤ 20) (hi : i ≤ 9) : ∃ s' : ST, F_X5_observe s (iI (p : Nat)) (iI (q : Nat)) (iI (i : Nat)) = some (1, s') ∧ GO s' 1 (fun _ => p) (fun _ => q) (fun _ => i) ∧ (∀ (c : Nat) (X Y W : Nat → Int), GS s c X Y W → GS s' c X Y W) := by
  obtain ⟨s0, s1, s2, s3, s4, s5, s6, s7, s8, s9, s10, s11, s12, s13, s14, s15, s16, s17, s18, s19, s20, s21, s22, s23, s24, s25, s26, s27, s28, s29, s30, s31⟩ := s
  have e2 : s2 = iI (0 : Nat) := g.2.1
  subst e2
  have f1 : F_X5_observe ((s0, s1, iI (0 : Nat), s3, s4, s5, s6, s7, s8, s9, s10, s11, s12, s13, s14, s15, s16, s17, s18, s19, s20, s21, s22, s23, s24, s25, s26, s27, s28, s29, s30, s31)) (iI (p : Nat)) (iI (q : Nat)) (iI (i : Nat)) = some (1, (s0, s1, 1, s3, upd s4 0 (iI (p : Nat)), upd s5 0 (iI (q : Nat)), upd s6 0 (iI (i : Nat)), s7, s8, s9, s10, s11, s12, s13, s14, s15, s16, s17, s18, s19, s20, s21, s22, s23, s24, s25, s26, s27, s28, s29, s30, s31)) := by
    unfold F_X5_observe f_X5_observe_0
    dsimp only
    rw [z_insq, iI_toInt (by omega) (by omega), iI_toInt (by omega) (by omega), if_pos (show ((0 : Int) ≤ (p : Nat) ∧ ((p : Nat) : Int) ≤ 20) ∧ (0 : Int) ≤ (q : Nat) ∧ ((q : Nat) : Int) ≤ 20 by omega), bnd_some, if_neg (show ¬ (1 : Int32) = 0 by decide), if_neg (show ¬ iI (i : Nat) < 0 by rw [q_0, iI_lt] <;> omega), if_pos (show iI (i : Nat) < 10 by rw [q_10, iI_lt] <;> omega), if_pos (by decide)]
    rfl
  exact ⟨(s0, s1, 1, s3, upd s4 0 (iI (p : Nat)), upd s5 0 (iI (q : Nat)), upd s6 0 (iI (i : Nat)), s7, s8, s9, s10, s11, s12, s13, s14, s15, s16, s17, s18, s19, s20, s21, s22, s23, s24, s25, s26, s27, s28, s29, s30, s31), f1, ⟨⟨by omega, fun k hk => ⟨hp, hq, hi⟩⟩, rfl, fun k hk => by
    have ek : k = 0 := by omega
    subst ek
    exact ⟨rfl, rfl, rfl⟩⟩, fun c X Y W h => h⟩
