/-! ===== further answers: coordinates, weights ===== -/
section KA2
variable {c : Nat} {X Y W : Nat → Int} {cnt : Int32} {x y w : Nat → Int32}
theorem CO_un {L : List Ln} {m m' : Nat} {f f' : Nat → Pt} (h : CO L m f) (h' : CO L m' f') : m = m' ∧ ∀ k, k < m → eqv (sortF m f k) (sortF m' f' k) :=
  sort_same (CO_gp h) (CO_gp h') (fun k hk => CO_all h' ((CO_gp h).1 k hk)) (fun k hk => CO_all h ((CO_gp h').1 k hk))
theorem k_cn (hR : RS c X Y W cnt x y w) (hB : BD c X Y W) {i k m : Nat} {f : Nat → Pt} (hi : i < c) (hf : CO (LC X Y W c i) m f) (hm : m ≤ 14) (hk : k < pc3 m) {az : Int} (ha : 0 ≤ az ∧ az ≤ 1) (k0 k1 k2 k3 k4 : Int32) (k5 k6 k7 k8 k9 k10 : Nat → Int32) : ∃ u : _, f_X5_cornerNumerator_0 cnt x y w k0 k1 k2 k3 k4 k5 k6 k7 k8 k9 k10 (iI (i : Nat)) (iI (k : Nat)) (iI az) = some (iI ((lowV (sortF m f k) az : Nat) : Int), u) := by
  have hc := hB.1
  have hm3 : 3 ≤ m := by
    rcases Nat.lt_or_ge m 3 with q | q
    · rw [show pc3 m = 0 from if_neg (by omega)] at hk
      omega
    · exact q
  have epc : pc3 m = m := if_pos hm3
  rw [epc] at hk
  obtain ⟨r, n1, n2, n3, n4, n5, n6, n7, n8, n9, n10, n11, e1, h1⟩ := z_prob hR hB k0 k1 k2 k3 k4 k5 k6 k7 k8 k9 k10 (iI (i : Nat)) (iI (k : Nat)) (iI az)
  unfold f_X5_cornerNumerator_0
  rw [e1, bnd12_some]
  rw [iI_toInt (by omega) (by omega), iI_toInt (by omega) (by omega), iI_toInt (by omega) (by omega)] at h1
  rcases h1 with ⟨-, hp⟩ | ⟨i', m', f', hi', ei, hf', hm', h1⟩
  · exact absurd (show (0 : Int) ≤ (i : Nat) ∧ ((i : Nat) : Int) < c by omega) hp
  · have eii : i = i' := by
      rw [iI_eq (by omega) (by omega) (by omega) (by omega)] at ei
      omega
    subst eii
    obtain ⟨em, es⟩ := CO_un hf hf'
    subst em
    rw [epc] at h1
    rcases h1 with ⟨-, hk2⟩ | ⟨-, ⟨-, ha2⟩ | ⟨er, -, hq⟩⟩
    · exact absurd (show (0 : Int) ≤ (k : Nat) ∧ ((k : Nat) : Int) < (m : Nat) by omega) hk2
    · exact absurd ha ha2
    · have p1 := sortF_pos hf hk
      have p2 := sortF_pos hf' hk
      obtain ⟨V, g0, w1, w2, w3, w4, w5⟩ := z_cnum hq hm' hk ha p2.2
      obtain ⟨l1, l2⟩ := low_eqv p1.1 p2.1 p1.2 p2.2 (es k hk) az
      rw [if_pos er, w1, bnd_some, w2, bnd_some, gNz_ne w3, w4, l1]
      exact ⟨_, rfl⟩
theorem k_cd (hR : RS c X Y W cnt x y w) (hB : BD c X Y W) {i k m : Nat} {f : Nat → Pt} (hi : i < c) (hf : CO (LC X Y W c i) m f) (hm : m ≤ 14) (hk : k < pc3 m) {az : Int} (ha : 0 ≤ az ∧ az ≤ 1) (k0 k1 k2 k3 k4 : Int32) (k5 k6 k7 k8 k9 k10 : Nat → Int32) : ∃ u : _, f_X5_cornerDenominator_0 cnt x y w k0 k1 k2 k3 k4 k5 k6 k7 k8 k9 k10 (iI (i : Nat)) (iI (k : Nat)) (iI az) = some (iI ((lowD (sortF m f k) az : Nat) : Int), u) := by
  have hc := hB.1
  have hm3 : 3 ≤ m := by
    rcases Nat.lt_or_ge m 3 with q | q
    · rw [show pc3 m = 0 from if_neg (by omega)] at hk
      omega
    · exact q
  have epc : pc3 m = m := if_pos hm3
  rw [epc] at hk
  obtain ⟨r, n1, n2, n3, n4, n5, n6, n7, n8, n9, n10, n11, e1, h1⟩ := z_prob hR hB k0 k1 k2 k3 k4 k5 k6 k7 k8 k9 k10 (iI (i : Nat)) (iI (k : Nat)) (iI az)
  unfold f_X5_cornerDenominator_0
  rw [e1, bnd12_some]
  rw [iI_toInt (by omega) (by omega), iI_toInt (by omega) (by omega), iI_toInt (by omega) (by omega)] at h1
  rcases h1 with ⟨-, hp⟩ | ⟨i', m', f', hi', ei, hf', hm', h1⟩
  · exact absurd (show (0 : Int) ≤ (i : Nat) ∧ ((i : Nat) : Int) < c by omega) hp
  · have eii : i = i' := by
      rw [iI_eq (by omega) (by omega) (by omega) (by omega)] at ei
      omega
    subst eii
    obtain ⟨em, es⟩ := CO_un hf hf'
    subst em
    rw [epc] at h1
    rcases h1 with ⟨-, hk2⟩ | ⟨-, ⟨-, ha2⟩ | ⟨er, -, hq⟩⟩
    · exact absurd (show (0 : Int) ≤ (k : Nat) ∧ ((k : Nat) : Int) < (m : Nat) by omega) hk2
    · exact absurd ha ha2
    · have p1 := sortF_pos hf hk
      have p2 := sortF_pos hf' hk
      obtain ⟨V, g0, w1, w2, w3, w4, w5⟩ := z_cnum hq hm' hk ha p2.2
      obtain ⟨l1, l2⟩ := low_eqv p1.1 p2.1 p1.2 p2.2 (es k hk) az
      rw [if_pos er, gIx_iI (by omega) (by omega) (by omega), w2, bnd_some, gNz_ne w3, w5, l2]
      exact ⟨_, rfl⟩
theorem k_wfs (hR : RS c X Y W cnt x y w) (hB : BD c X Y W) {i : Nat} (hi : i < c) {z : Int} (z1 : 0 ≤ z) (z2 : z ≤ 441) (pb : Nat → Int32) : ∃ (v : Nat) (u : _), LW X Y W c i z v ∧ f_X5_weightForSize_0 cnt x y w pb (iI (i : Nat)) (iI z) = some ((if v < 401 then iI (v : Nat) else -9), u) := by
  have hc := hB.1
  have ec := hR.1
  subst ec
  unfold f_X5_weightForSize_0
  rw [z_has hc, bnd_some, if_pos (k_pin hi hc), if_neg (by decide), if_neg (by rw [q_0, iI_lt] <;> omega), if_pos (by rw [q_441, iI_le] <;> omega)]
  unfold f_X5_countPointsByWeight_0
  obtain ⟨arr, e1, hA⟩ := z_cp2 hR hB hi 401 0 fuel pb (by omega) (by unfold fuel; omega) (fun v hv => by omega)
  have e1' : f_X5_countPointsByWeight_2 (iI c) _ _ _ fuel pb (iI i) 0 = _ := e1
  rw [e1', bnd_some]
  obtain ⟨v, hv, e2⟩ := z_wfs37 (cnt := iI c) (x := x) (y := y) (w := w) hB hi hA z1 z2 401 0 fuel (by omega) (by unfold fuel; omega) (fun v' hv' => by omega)
  exact ⟨v, _, hv, e2⟩
theorem k_pw {sn : Int32} {rx ry ro : Nat → Int32} {n : Nat} {ox oy oo : Nat → Nat} (hR : RS c X Y W cnt x y w) (hB : BD c X Y W) (hO : OBS n ox oy oo) (hS : ROB n ox oy oo sn rx ry ro) {i : Nat} (hi : i < c) : ∃ lo hh : Int, (0 ≤ lo ∧ lo ≤ 1201) ∧ (-1 ≤ hh ∧ hh ≤ 400) ∧ (∀ v : Int, lo ≤ v ↔ 0 ≤ v ∧ ∀ j, 0 ≤ j → j < n → oo j = i → wtoN X Y W i (ox j : Nat) (oy j : Nat) c ≤ v) ∧ (∀ v : Int, 0 ≤ v → (v ≤ hh ↔ v ≤ 400 ∧ ∀ j, 0 ≤ j → j < n → oo j ≠ i → othOK X Y W c i ox oy oo v j)) ∧ f_X5_possibleWeights_0 sn cnt ro rx ry x y w (iI (i : Nat)) 0 = some (iI (max (hh - lo + 1) 0)) ∧ f_X5_possibleWeights_0 sn cnt ro rx ry x y w (iI (i : Nat)) 1 = some (iI (if lo ≤ hh then lo else -9)) ∧ f_X5_possibleWeights_0 sn cnt ro rx ry x y w (iI (i : Nat)) 2 = some (iI (if lo ≤ hh then hh else -9)) := by
  have hc := hB.1
  have hs := hO.1
  have ec := hR.1
  subst ec
  obtain ⟨lo, e1, l1, l2⟩ := z_small hR hB hO hS hi n 0 fuel 0 (by omega) (by unfold fuel; omega) (by omega) (by omega)
  obtain ⟨hh, e2, g1, g2⟩ := z_great hR hB hO hS hi n 0 fuel 400 (by omega) (by unfold fuel; omega) (by omega) (by omega)
  have e1' : f_X5_smallestPossibleWeight_0 sn ro rx ry (iI c) x y w (iI i) = some (iI lo) := by
    unfold f_X5_smallestPossibleWeight_0
    exact e1
  have e2' : f_X5_greatestPossibleWeight_0 sn ro rx ry (iI c) x y w (iI i) = some (iI hh) := by
    unfold f_X5_greatestPossibleWeight_0
    exact e2
  refine ⟨lo, hh, l1, g1, l2, g2, ?_, ?_, ?_⟩
  · unfold f_X5_possibleWeights_0
    rw [z_has hc, bnd_some, if_pos (k_pin hi hc), if_neg (by decide), if_neg (by decide), if_pos (by decide), e1', bnd_some, e2', bnd_some, if_pos rfl, nm_eq, q_1, q_0, iI_sub, iI_add, mxI_iI (by omega) (by omega) (by omega) (by omega)]
  · unfold f_X5_possibleWeights_0
    rw [z_has hc, bnd_some, if_pos (k_pin hi hc), if_neg (by decide), if_neg (by decide), if_pos (by decide), e1', bnd_some, e2', bnd_some, if_neg (by decide)]
    by_cases hl : lo ≤ hh
    · rw [if_pos (show iI lo ≤ iI hh by rw [iI_le] <;> omega), if_pos rfl, if_pos hl]
    · rw [if_neg (show ¬ iI lo ≤ iI hh by rw [iI_le] <;> omega), if_neg hl]
      rfl
  · unfold f_X5_possibleWeights_0
    rw [z_has hc, bnd_some, if_pos (k_pin hi hc), if_neg (by decide), if_neg (by decide), if_pos (by decide), e1', bnd_some, e2', bnd_some, if_neg (by decide)]
    by_cases hl : lo ≤ hh
    · rw [if_pos (show iI lo ≤ iI hh by rw [iI_le] <;> omega), if_neg (by decide), if_pos hl]
    · rw [if_neg (show ¬ iI lo ≤ iI hh by rw [iI_le] <;> omega), if_neg hl]
      rfl
end KA2
