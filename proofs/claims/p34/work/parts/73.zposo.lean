section ZPX
variable {c : Nat} {X Y W : Nat → Int} {cnt : Int32} {x y w : Nat → Int32} {st : Nat → Int32}
/-- the invariant holds the same observations on both sides -/
def HO (Inv : InvT) : Prop := ∀ (a1 : Int32) (a2 : Nat → Int32) (a3 : Int32) (a4 a5 a6 : Nat → Int32) (a7 a8 : Int32) (a9 : Nat → Int32) (a10 : Int32) (a11 a12 a13 : Nat → Int32) (a14 a15 : Nat → S4) (a16 : Int32) (a17 a18 : Nat → Int32) (a19 : Int32) (a20 a21 a22 : Nat → Int32) (a23 : Int32) (a24 a25 a26 : Nat → Int32), Inv a1 a2 a3 a4 a5 a6 a7 a8 a9 a10 a11 a12 a13 a14 a15 a16 a17 a18 a19 a20 a21 a22 a23 a24 a25 a26 → ∃ (s : Nat) (ox oy oo : Nat → Nat), OBS s ox oy oo ∧ ROB s ox oy oo a10 a11 a12 a13 ∧ ROB s ox oy oo a23 a24 a25 a26
theorem o26 {Inv : InvT} (H : HS Inv) (H2 : HO Inv) : op_26 Inv := by
  intro _ _ _ _ _ _ _ _ _ _ _ _ _ _ _ _ _ st _ _ _ _ _ _ _ _ t cp p q hI
  obtain ⟨c, X, Y, W, hB, hR, hM⟩ := H _ _ _ _ _ _ _ _ _ _ _ _ _ _ _ _ _ _ _ _ _ _ _ _ _ _ hI
  obtain ⟨s, ox, oy, oo, hO, hS, hS2⟩ := H2 _ _ _ _ _ _ _ _ _ _ _ _ _ _ _ _ _ _ _ _ _ _ _ _ _ _ hI
  have hc := hB.1
  have hs := hO.1
  have ec := hR.1
  subst ec
  unfold f_X5_possibleWeights_0 f_X6_possibleWeights_0
  rw [z_has hc, z_nosite hM hc, bnd_some, bnd_some]
  by_cases hp : 0 ≤ p.toInt ∧ p.toInt < c
  · rw [if_pos hp, if_pos hp, if_neg (by decide), if_pos rfl]
    obtain ⟨i, hi, rfl⟩ := p_nat hp
    obtain ⟨z, z1, z2, rfl⟩ := i_ex q
    rw [iI_l z1 z2, ql_0, ql_2, z_in _ _ _ (by omega) (by omega) (by omega) (by omega) (by omega) (by omega), bnd_some]
    by_cases h1 : z < 0
    · rw [if_pos (by rw [q_0, iI_lt] <;> omega), if_neg (show ¬ ((0 : Int) ≤ z ∧ z ≤ 2) by omega), if_pos rfl]
      exact ⟨_, _, _, rfl, rfl, hI⟩
    · rw [if_neg (by rw [q_0, iI_lt] <;> omega)]
      by_cases h2 : z ≤ 2
      · rw [if_pos (by rw [q_2, iI_le] <;> omega), if_pos (show (0 : Int) ≤ z ∧ z ≤ 2 by omega), if_neg (by decide)]
        unfold f_X5_smallestPossibleWeight_0 f_X5_greatestPossibleWeight_0
        obtain ⟨lo, e1, l1, l2⟩ := z_small hR hB hO hS hi s 0 fuel 0 (by omega) (by unfold fuel; omega) (by omega) (by omega)
        obtain ⟨hh, e2, g1, g2⟩ := z_great hR hB hO hS hi s 0 fuel 400 (by omega) (by unfold fuel; omega) (by omega) (by omega)
        have e1' : f_X5_smallestPossibleWeight_4 _ _ _ _ (iI c) _ _ _ fuel (iI i) 0 0 = _ := e1
        have e2' : f_X5_greatestPossibleWeight_6 _ _ _ _ (iI c) _ _ _ fuel (iI i) 400 0 = _ := e2
        rw [e1', bnd_some, e2', bnd_some]
        obtain ⟨cp', e3, h3⟩ := z_asg st cp
        rw [e3, bnd_some]
        have hM2 := RM_cp hM hc h3
        rw [← setW_self (W := W) i] at hM2
        have hA : ∀ v : Nat, v ≤ 400 → ((∀ j, j < s → obOK X Y (setW W i (v : Int)) c ox oy oo j) ↔ lo ≤ v ∧ v ≤ hh) := by
          intro v hv
          rw [l2 v, g2 v (by omega)]
          constructor
          · intro h
            refine ⟨⟨by omega, fun j _ hj ho => ?_⟩, by omega, fun j _ hj ho => ?_⟩
            · have := h j hj
              unfold obOK at this
              rw [ho] at this
              exact (own_wto hi (by omega)).mp this
            · exact (own_other hi ho (by omega)).mp (h j hj)
          · rintro ⟨⟨-, k1⟩, -, k2⟩ j hj
            by_cases ho : oo j = i
            · unfold obOK
              rw [ho]
              exact (own_wto hi (by omega)).mpr (k1 j (by omega) hj ho)
            · exact (own_other hi ho (by omega)).mpr (k2 j (by omega) hj ho)
        obtain ⟨cp2, e4⟩ := z_pw54 (st := st) hB hO hS2 hi l1.1 l1.2 g1.1 g1.2 hA 0 (iI z) 401 0 fuel (W i) cp' (by omega) (by unfold fuel; omega) hM2
        have c0 : CN lo hh ((0 : Nat) : Int) = 0 := by unfold CN; omega
        have f0 : fiW lo hh ((0 : Nat) : Int) = -9 := by unfold fiW; rw [if_pos c0]
        have t0 : laW lo hh ((0 : Nat) : Int) = -9 := by unfold laW; rw [if_pos c0]
        rw [c0, f0, t0] at e4
        have e4' : f_X6_possibleWeights_54 _ st _ _ _ fuel 0 cp' (iI i) (iI z) 0 (-9) (-9) 0 = _ := e4
        rw [e4']
        have cc : CN lo hh 401 = max (hh - lo + 1) 0 := by unfold CN; omega
        have ma : mxI (iI hh - iI lo + 1) 0 = iI (CN lo hh 401) := by
          rw [q_1, q_0, iI_sub, iI_add, mxI_iI (by omega) (by omega) (by omega) (by omega), cc]
        rw [nm_eq, ma]
        refine ⟨_, _, _, ?_, rfl, hI⟩
        by_cases z0 : z = 0
        · rw [if_pos (show iI z = 0 by rw [z0]; rfl), if_pos (show iI z = 0 by rw [z0]; rfl)]
        · rw [if_neg (show ¬ iI z = 0 by rw [q_0, iI_eq] <;> omega), if_neg (show ¬ iI z = 0 by rw [q_0, iI_eq] <;> omega)]
          by_cases hl : lo ≤ hh
          · have nz : ¬ CN lo hh 401 = 0 := by omega
            rw [if_pos (show iI lo ≤ iI hh by rw [iI_le] <;> omega)]
            have f1 : fiW lo hh 401 = lo := by unfold fiW; rw [if_neg nz]
            have t1 : laW lo hh 401 = hh := by unfold laW; rw [if_neg nz]; omega
            rw [f1, t1]
            by_cases za : iI z = 1
            · rw [if_pos za, if_pos za]
            · rw [if_neg za, if_neg za]
          · have nz : CN lo hh 401 = 0 := by omega
            rw [if_neg (show ¬ iI lo ≤ iI hh by rw [iI_le] <;> omega)]
            have f1 : fiW lo hh 401 = -9 := by unfold fiW; rw [if_pos nz]
            have t1 : laW lo hh 401 = -9 := by unfold laW; rw [if_pos nz]
            rw [f1, t1, ite_self]
            rfl
      · rw [if_neg (by rw [q_2, iI_le] <;> omega), if_neg (show ¬ ((0 : Int) ≤ z ∧ z ≤ 2) by omega), if_pos rfl]
        exact ⟨_, _, _, rfl, rfl, hI⟩
  · rw [if_neg hp, if_neg hp, if_pos rfl, if_neg (by decide)]
    exact ⟨_, _, _, rfl, rfl, hI⟩
end ZPX
