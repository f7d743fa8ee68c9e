/-! ===== sites, distances, owners ===== -/
section ZOW
variable {c : Nat} {X Y W : Nat → Int} {cnt : Int32} {x y w : Nat → Int32} {st : Nat → Int32}
theorem z_mown_loop (hM : RM c X Y W st) (hB : BD c X Y W) {a b : Int} (a1 : 0 ≤ a) (a2 : a ≤ 20) (b1 : 0 ≤ b) (b2 : b ≤ 20) (P : Nat → Int) (hPd : P = fun i => pw X Y W i a b) :
    ∀ (d i n : Nat), i + d = c → d < n → f_X6_ownerOf_6 st n (iI a) (iI b) (iI (oI (own P (fun _ => false) i) (-9))) (iI i) = some (iI (oI (own P (fun _ => false) c) (-9))) := by
  have hc : c ≤ 10 := hB.1
  intro d
  induction d with
  | zero =>
    intro i n hi hn
    obtain ⟨n, rfl⟩ : ∃ k, n = k + 1 := ⟨n - 1, by omega⟩
    have e : i = c := by omega
    subst e
    show g_X6_ownerOf_6 st (f_X6_ownerOf_6 st n) (iI a) (iI b) _ _ = _
    unfold g_X6_ownerOf_6
    rw [show (0 : Int32).toNatClampNeg = 0 from rfl, if_pos (by rw [hM.1, iI_le] <;> omega)]
  | succ d ih =>
    intro i n hi hn
    obtain ⟨n, rfl⟩ : ∃ k, n = k + 1 := ⟨n - 1, by omega⟩
    show g_X6_ownerOf_6 st (f_X6_ownerOf_6 st n) (iI a) (iI b) _ _ = _
    unfold g_X6_ownerOf_6
    rw [show (0 : Int32).toNatClampNeg = 0 from rfl, if_neg (by rw [hM.1, iI_le] <;> omega), iI_p1]
    have ih' := ih (i + 1) n (by omega) (by omega)
    have hPi : pw X Y W i a b = P i := by rw [hPd]
    have bi := pw_b hB i a1 a2 b1 b2
    cases h2 : own P (fun _ => false) i with
    | none =>
      rw [if_pos (by show iI (-9) = -9; rfl)]
      have e2 : own P (fun _ => false) (i + 1) = some i := by rw [own, if_neg (by decide), h2]
      rw [e2] at ih'
      exact ih'
    | some k =>
      have hk := own_lt h2
      have bk := pw_b hB k a1 a2 b1 b2
      have hPk : pw X Y W k a b = P k := by rw [hPd]
      rw [if_neg (by show ¬ iI (k : Int) = iI (-9); rw [iI_eq] <;> omega), z_dist hM hc (by omega), bnd_some]
      show bnd (f_X6_distance_0 st (iI (k : Int)) (iI a) (iI b)) _ = _
      rw [z_dist hM hc (by omega), bnd_some]
      by_cases h3 : P i < P k
      · rw [if_neg (by rw [iI_le] <;> omega)]
        have e2 : own P (fun _ => false) (i + 1) = some i := by rw [own, if_neg (by decide), h2]; simp only [if_pos h3]
        rw [e2] at ih'
        exact ih'
      · rw [if_pos (by rw [iI_le] <;> omega)]
        have e2 : own P (fun _ => false) (i + 1) = some k := by rw [own, if_neg (by decide), h2]; simp only [if_neg h3]
        rw [e2] at ih'
        exact ih'
theorem z_mown (hM : RM c X Y W st) (hB : BD c X Y W) {a b : Int} (a1 : 0 ≤ a) (a2 : a ≤ 20) (b1 : 0 ≤ b) (b2 : b ≤ 20) : f_X6_ownerOf_0 st (iI a) (iI b) = some (iI (oI (ownr X Y W c a b) (-9))) := by
  have hc := hB.1
  unfold f_X6_ownerOf_0
  exact z_mown_loop hM hB a1 a2 b1 b2 _ rfl c 0 fuel (by omega) (by unfold fuel; omega)
theorem o4 {Inv : InvT} (H : HS Inv) : op_4 Inv := by
  intro _ _ _ _ _ _ _ _ _ _ _ _ _ _ _ _ _ st _ _ _ _ _ _ _ _ t hI
  obtain ⟨c, X, Y, W, hB, hR, hM⟩ := H _ _ _ _ _ _ _ _ _ _ _ _ _ _ _ _ _ _ _ _ _ _ _ _ _ _ hI
  unfold f_X5_siteCount_0 f_X6_siteCount_0
  rw [show (0 : Int32).toNatClampNeg = 0 from rfl, hM.1, ← hR.1]
  exact ⟨_, _, rfl, rfl, hI⟩
theorem o5 {Inv : InvT} (H : HS Inv) : op_5 Inv := by
  intro _ _ _ _ _ _ _ _ _ _ _ _ _ _ _ _ _ st _ _ _ _ _ _ _ _ t p q hI
  obtain ⟨c, X, Y, W, hB, hR, hM⟩ := H _ _ _ _ _ _ _ _ _ _ _ _ _ _ _ _ _ _ _ _ _ _ _ _ _ _ hI
  have hc := hB.1
  have ec := hR.1
  subst ec
  unfold f_X5_site_0 f_X6_site_0
  rw [z_has hc, z_nosite hM hc, bnd_some, bnd_some]
  by_cases hp : 0 ≤ p.toInt ∧ p.toInt < c
  · rw [if_pos hp, if_pos hp, if_neg (by decide), if_pos rfl]
    obtain ⟨i, hi, rfl⟩ := p_nat hp
    obtain ⟨z, z1, z2, rfl⟩ := i_ex q
    rw [iI_l z1 z2, ql_0, ql_2, z_in _ _ _ (by omega) (by omega) (by omega) (by omega) (by omega) (by omega), bnd_some]
    by_cases e0 : z = 0
    · subst e0
      rw [if_pos (show iI 0 = 0 from rfl), gIx_iI (by omega) (by omega) (by omega), iI_clN (by omega), (hR.2 i hi).1, if_pos (show (0 : Int) ≤ 0 ∧ (0 : Int) ≤ 2 by omega), if_neg (by decide)]
      have e := z_part0 hM hc hi
      have e' : f_X6_part_0 st (iI i) (iI 0) = _ := e
      rw [e', bnd_some]
      exact ⟨_, _, rfl, rfl, hI⟩
    · rw [if_neg (show ¬ iI z = 0 by rw [q_0, iI_eq] <;> omega)]
      by_cases e1 : z = 1
      · subst e1
        rw [if_pos (show iI 1 = 1 from rfl), gIx_iI (by omega) (by omega) (by omega), iI_clN (by omega), (hR.2 i hi).2.1, if_pos (show (0 : Int) ≤ 1 ∧ (1 : Int) ≤ 2 by omega), if_neg (by decide)]
        have e := z_part1 hM hc hi
        have e' : f_X6_part_0 st (iI i) (iI 1) = _ := e
        rw [e', bnd_some]
        exact ⟨_, _, rfl, rfl, hI⟩
      · rw [if_neg (show ¬ iI z = 1 by rw [q_1, iI_eq] <;> omega)]
        by_cases e2 : z = 2
        · subst e2
          rw [if_pos (show iI 2 = 2 from rfl), gIx_iI (by omega) (by omega) (by omega), iI_clN (by omega), (hR.2 i hi).2.2, if_pos (show (0 : Int) ≤ 2 ∧ (2 : Int) ≤ 2 by omega), if_neg (by decide)]
          have e := z_part2 hM hc hi
          have e' : f_X6_part_0 st (iI i) (iI 2) = _ := e
          rw [e', bnd_some]
          exact ⟨_, _, rfl, rfl, hI⟩
        · rw [if_neg (show ¬ iI z = 2 by rw [q_2, iI_eq] <;> omega), if_neg (show ¬ ((0 : Int) ≤ z ∧ z ≤ 2) by omega), if_pos rfl]
          exact ⟨_, _, rfl, rfl, hI⟩
  · rw [if_neg hp, if_neg hp, if_pos rfl, if_neg (by decide)]
    exact ⟨_, _, rfl, rfl, hI⟩
theorem o6 {Inv : InvT} (H : HS Inv) : op_6 Inv := by
  intro _ _ _ _ _ _ _ _ _ _ _ _ _ _ _ _ _ st _ _ _ _ _ _ _ _ t p q s hI
  obtain ⟨c, X, Y, W, hB, hR, hM⟩ := H _ _ _ _ _ _ _ _ _ _ _ _ _ _ _ _ _ _ _ _ _ _ _ _ _ _ hI
  have hc := hB.1
  have ec := hR.1
  subst ec
  unfold f_X5_powerDistance_0 f_X6_powerDistance_0
  rw [z_has hc, z_nosite hM hc, bnd_some, bnd_some]
  by_cases hp : 0 ≤ p.toInt ∧ p.toInt < c
  · rw [if_pos hp, if_pos hp, if_neg (by decide), if_pos rfl, z_insq, z_ispt, bnd_some, bnd_some]
    obtain ⟨i, hi, rfl⟩ := p_nat hp
    by_cases h : (0 ≤ q.toInt ∧ q.toInt ≤ 20) ∧ 0 ≤ s.toInt ∧ s.toInt ≤ 20
    · rw [if_pos h, if_neg (by decide), if_neg (by decide), iI_of q, iI_of s, z_power hR hc hi, z_dist hM hc hi, bnd_some, bnd_some]
      exact ⟨_, _, rfl, rfl, hI⟩
    · rw [if_neg h, if_pos rfl, if_pos rfl]
      exact ⟨_, _, rfl, rfl, hI⟩
  · rw [if_neg hp, if_neg hp, if_pos rfl, if_neg (by decide)]
    exact ⟨_, _, rfl, rfl, hI⟩
theorem own_bd {a b : Int} {k : Nat} (h : ownr X Y W c a b = some k) : k < c := (own_lt h).1
theorem o7 {Inv : InvT} (H : HS Inv) : op_7 Inv := by
  intro _ _ _ _ _ _ _ _ _ _ _ _ _ _ _ _ _ st _ _ _ _ _ _ _ _ t q s hI
  obtain ⟨c, X, Y, W, hB, hR, hM⟩ := H _ _ _ _ _ _ _ _ _ _ _ _ _ _ _ _ _ _ _ _ _ _ _ _ _ _ hI
  have hc := hB.1
  unfold f_X5_owner_0 f_X6_owner_0
  rw [z_insq, z_ispt, bnd_some, bnd_some]
  by_cases h : (0 ≤ q.toInt ∧ q.toInt ≤ 20) ∧ 0 ≤ s.toInt ∧ s.toInt ≤ 20
  · rw [if_pos h, if_neg (by decide), if_neg (by decide), iI_of q, iI_of s, z_ownAt hR hB h.1.1 h.1.2 h.2.1 h.2.2, z_mown hM hB h.1.1 h.1.2 h.2.1 h.2.2, bnd_some, bnd_some]
    cases e : ownr X Y W c q.toInt s.toInt with
    | none =>
      rw [if_pos (by show iI (-1) = -1; rfl)]
      exact ⟨_, _, rfl, rfl, hI⟩
    | some k =>
      have hk := own_bd e
      rw [if_neg (by show ¬ iI (k : Int) = iI (-1); rw [iI_eq] <;> omega)]
      exact ⟨_, _, rfl, rfl, hI⟩
  · rw [if_neg h, if_pos rfl, if_pos rfl]
    exact ⟨_, _, rfl, rfl, hI⟩
end ZOW
