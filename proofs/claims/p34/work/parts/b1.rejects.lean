/-! ===== the calls that must fail ===== -/
def RJ (s : ST) (o : Option (Int32 × ST)) : Prop := ∃ s' : ST, Eq15 s s' ∧ o = some (1, s')
theorem rj {s0 s : ST} {v : Int32} {A : Option (Int32 × ST)} {K K' : ST → Option (Int32 × ST)} (e : A = some (v, s)) (h : RJ s0 (K s)) : RJ s0 (bnd2 A (fun r s' => if r = v then K s' else K' s')) := by
  rw [e, bnd2_some, if_pos rfl]
  exact h
theorem h_no {c : Nat} (hc : c ≤ 10) : f_X4_has_0 (iI (c : Nat)) (iI (c : Nat)) = some 0 := by
  rw [z_has hc, if_neg (by rw [iI_toInt (by omega) (by omega)]; omega)]
theorem h_m1 {c : Nat} (hc : c ≤ 10) : f_X4_has_0 (iI (c : Nat)) (-1 : Int32) = some 0 := by
  rw [z_has hc, if_neg (by intro q; exact absurd q.1 (by decide))]
theorem h_0 {c : Nat} (hc : c ≤ 10) (h0 : 0 < c) : f_X4_has_0 (iI (c : Nat)) (0 : Int32) = some 1 := by
  rw [z_has hc, if_pos ⟨by decide, by rw [show (0 : Int32).toInt = 0 from rfl]; omega⟩]
theorem slot_m1 : f_X5_isSlot_0 (-1 : Int32) = some 0 := by
  have := z_slot (-1) (by omega) (by omega)
  rw [if_neg (by omega), show iI (-1) = (-1 : Int32) from rfl] at this
  exact this
theorem sq_no {p q : Int32} (h : ¬ ((0 ≤ p.toInt ∧ p.toInt ≤ 20) ∧ 0 ≤ q.toInt ∧ q.toInt ≤ 20)) : f_X5_inSquare_0 p q = some 0 := by rw [z_insq, if_neg h]
theorem sq_yes {p q : Int32} (h : (0 ≤ p.toInt ∧ p.toInt ≤ 20) ∧ 0 ≤ q.toInt ∧ q.toInt ≤ 20) : f_X5_inSquare_0 p q = some 1 := by rw [z_insq, if_pos h]
theorem w_no {p : Int32} (h : ¬ (0 ≤ p.toInt ∧ p.toInt ≤ 400)) : f_X5_isWeight_0 p = some 0 := by rw [z_isw, if_neg h]
theorem w_yes {p : Int32} (h : 0 ≤ p.toInt ∧ p.toInt ≤ 400) : f_X5_isWeight_0 p = some 1 := by rw [z_isw, if_pos h]
theorem h_noS {s : ST} {c : Nat} {X Y W : Nat → Int} (h : GS s c X Y W) : f_X4_has_0 (s.2.2.2.2.2.2.2.2.2.2.1) (iI (c : Nat)) = some 0 := by rw [h.2.1]; exact h_no h.1.1
theorem h_m1S {s : ST} {c : Nat} {X Y W : Nat → Int} (h : GS s c X Y W) : f_X4_has_0 (s.2.2.2.2.2.2.2.2.2.2.1) (-1 : Int32) = some 0 := by rw [h.2.1]; exact h_m1 h.1.1
theorem h_0S {s : ST} {c : Nat} {X Y W : Nat → Int} (h : GS s c X Y W) (h0 : 0 < c) : f_X4_has_0 (s.2.2.2.2.2.2.2.2.2.2.1) (0 : Int32) = some 1 := by rw [h.2.1]; exact h_0 h.1.1 h0
theorem bad_app1 {s : ST} {c : Nat} {X Y W : Nat → Int} (h : GS s c X Y W)  : F_X5_append s (256 : Int32) = some (-2, s) := by
  unfold F_X5_append f_X5_append_0 
  rw [if_neg (by decide), if_neg (by decide)]
  rfl
theorem bad_app2 {s : ST} {c : Nat} {X Y W : Nat → Int} (h : GS s c X Y W)  : F_X5_append s (-1 : Int32) = some (-2, s) := by
  unfold F_X5_append f_X5_append_0 
  rw [if_pos (by decide)]
  rfl
theorem bad_site1 {s : ST} {c : Nat} {X Y W : Nat → Int} (h : GS s c X Y W)  : F_X5_site s (iI (c : Nat)) (3 : Int32) = some (-1, s) := by
  unfold F_X5_site f_X5_site_0 
  rw [h_noS h, bnd_some, if_pos rfl]
  rfl
theorem bad_site2 {s : ST} {c : Nat} {X Y W : Nat → Int} (h : GS s c X Y W)  : F_X5_site s (-1 : Int32) (0 : Int32) = some (-1, s) := by
  unfold F_X5_site f_X5_site_0 
  rw [h_m1S h, bnd_some, if_pos rfl]
  rfl
theorem bad_pow1 {s : ST} {c : Nat} {X Y W : Nat → Int} (h : GS s c X Y W)  : F_X5_powerDistance s (iI (c : Nat)) (21 : Int32) (0 : Int32) = some (-1, s) := by
  unfold F_X5_powerDistance f_X5_powerDistance_0 
  rw [h_noS h, bnd_some, if_pos rfl]
  rfl
theorem bad_own1 {s : ST} {c : Nat} {X Y W : Nat → Int} (h : GS s c X Y W)  : F_X5_owner s (21 : Int32) (0 : Int32) = some (-2, s) := by
  unfold F_X5_owner f_X5_owner_0 
  rw [sq_no (by decide), bnd_some, if_pos rfl]
  rfl
theorem bad_own2 {s : ST} {c : Nat} {X Y W : Nat → Int} (h : GS s c X Y W)  : F_X5_owner s (0 : Int32) (-1 : Int32) = some (-2, s) := by
  unfold F_X5_owner f_X5_owner_0 
  rw [sq_no (by decide), bnd_some, if_pos rfl]
  rfl
theorem bad_size1 {s : ST} {c : Nat} {X Y W : Nat → Int} (h : GS s c X Y W)  : F_X5_size s (iI (c : Nat)) = some (-1, s) := by
  unfold F_X5_size f_X5_size_0 
  rw [h_noS h, bnd_some, if_pos rfl]
  rfl
theorem bad_add1 {s : ST} {c : Nat} {X Y W : Nat → Int} (h : GS s c X Y W)  : F_X5_add s (21 : Int32) (0 : Int32) (0 : Int32) = some (-2, s) := by
  unfold F_X5_add f_X5_add_0 
  rw [sq_no (by decide), bnd_some, if_pos rfl]
  rw [bnd11_some, up_self rfl]
theorem bad_add2 {s : ST} {c : Nat} {X Y W : Nat → Int} (h : GS s c X Y W)  : F_X5_add s (0 : Int32) (0 : Int32) (401 : Int32) = some (-2, s) := by
  unfold F_X5_add f_X5_add_0 
  rw [sq_yes (by decide), bnd_some, if_neg (by decide), w_no (by decide), bnd_some, if_pos rfl]
  rw [bnd11_some, up_self rfl]
theorem bad_rem1 {s : ST} {c : Nat} {X Y W : Nat → Int} (h : GS s c X Y W)  : F_X5_remove s (iI (c : Nat)) = some (-1, s) := by
  unfold F_X5_remove f_X5_remove_0 
  rw [h_noS h, bnd_some, if_pos rfl]
  rw [bnd11_some, up_self rfl]
theorem bad_mov1 {s : ST} {c : Nat} {X Y W : Nat → Int} (h : GS s c X Y W)  : F_X5_move s (iI (c : Nat)) (21 : Int32) (0 : Int32) = some (-1, s) := by
  unfold F_X5_move f_X5_move_0 
  rw [h_noS h, bnd_some, if_pos rfl]
  rw [bnd9_some, up_self rfl]
theorem bad_set1 {s : ST} {c : Nat} {X Y W : Nat → Int} (h : GS s c X Y W)  : F_X5_setWeight s (-1 : Int32) (401 : Int32) = some (-1, s) := by
  unfold F_X5_setWeight f_X5_setWeight_0 
  rw [h_m1S h, bnd_some, if_pos rfl]
  rw [bnd8_some, up_self rfl]
theorem bad_cc1 {s : ST} {c : Nat} {X Y W : Nat → Int} (h : GS s c X Y W)  : F_X5_cornerCount s (iI (c : Nat)) = some (-1, s) := by
  unfold F_X5_cornerCount f_X5_cornerCount_0 
  rw [h_noS h, bnd_some, if_pos rfl]
  rfl
theorem bad_cn1 {s : ST} {c : Nat} {X Y W : Nat → Int} (h : GS s c X Y W)  : F_X5_cornerNumerator s (iI (c : Nat)) (0 : Int32) (2 : Int32) = some (-1, s) := by
  unfold F_X5_cornerNumerator f_X5_cornerNumerator_0 f_X5_problemWithCorner_0
  rw [h_noS h, bnd_some, if_pos rfl, bnd12_some, if_neg (by decide)]
  rfl
theorem bad_nb1 {s : ST} {c : Nat} {X Y W : Nat → Int} (h : GS s c X Y W)  : F_X5_neighbours s (iI (c : Nat)) = some (-1, s) := by
  unfold F_X5_neighbours f_X5_neighbours_0 
  rw [h_noS h, bnd_some, if_pos rfl]
  rfl
theorem bad_tri1 {s : ST} {c : Nat} {X Y W : Nat → Int} (h : GS s c X Y W)  : F_X5_isTriangle s (iI (c : Nat)) (0 : Int32) (0 : Int32) = some (-1, s) := by
  unfold F_X5_isTriangle f_X5_isTriangle_0 
  rw [h_noS h, bnd_some, if_pos rfl]
  rfl
theorem bad_cf1 {s : ST} {c : Nat} {X Y W : Nat → Int} (h : GS s c X Y W)  : F_X5_conflicts s (0 : Int32) (21 : Int32) (0 : Int32) = some (-2, s) := by
  unfold F_X5_conflicts f_X5_conflicts_0 
  rw [sq_no (by decide), bnd_some, if_pos rfl]
  rfl
theorem bad_as1 {s : ST} {c : Nat} {X Y W : Nat → Int} (h : GS s c X Y W)  : F_X5_alongSegment s (0 : Int32) (0 : Int32) (0 : Int32) (21 : Int32) = some (-2, s) := by
  unfold F_X5_alongSegment f_X5_alongSegment_0 
  rw [sq_yes (by decide), bnd_some, if_neg (by decide), sq_no (by decide), bnd_some, if_pos rfl]
  rfl
theorem bad_wfs1 {s : ST} {c : Nat} {X Y W : Nat → Int} (h : GS s c X Y W)  : F_X5_weightForSize s (iI (c : Nat)) (442 : Int32) = some (-1, s) := by
  unfold F_X5_weightForSize f_X5_weightForSize_0 
  rw [h_noS h, bnd_some, if_pos rfl]
  rfl
theorem bad_obs1 {s : ST} {c : Nat} {X Y W : Nat → Int} (h : GS s c X Y W)  : F_X5_observe s (0 : Int32) (0 : Int32) (10 : Int32) = some (-2, s) := by
  unfold F_X5_observe f_X5_observe_0 
  rw [sq_yes (by decide), bnd_some, if_neg (by decide), if_neg (by decide), if_neg (by decide)]
  rfl
theorem bad_obs2 {s : ST} {c : Nat} {X Y W : Nat → Int} (h : GS s c X Y W)  : F_X5_observe s (-1 : Int32) (0 : Int32) (0 : Int32) = some (-2, s) := by
  unfold F_X5_observe f_X5_observe_0 
  rw [sq_no (by decide), bnd_some, if_pos rfl]
  rfl
theorem bad_pw1 {s : ST} {c : Nat} {X Y W : Nat → Int} (h : GS s c X Y W)  : F_X5_possibleWeights s (iI (c : Nat)) (3 : Int32) = some (-1, s) := by
  unfold F_X5_possibleWeights f_X5_possibleWeights_0 
  rw [h_noS h, bnd_some, if_pos rfl]
  rfl
theorem bad_run1 {s : ST} {c : Nat} {X Y W : Nat → Int} (h : GS s c X Y W)  : F_X5_runScript s (0 : Int32) (0 : Int64) = some (-2, s) := by
  unfold F_X5_runScript f_X5_runScript_0 
  rw [if_pos (by decide)]
  rfl
theorem bad_run2 {s : ST} {c : Nat} {X Y W : Nat → Int} (h : GS s c X Y W)  : F_X5_runScript s (4 : Int32) (0 : Int64) = some (-2, s) := by
  unfold F_X5_runScript f_X5_runScript_0 
  rw [if_neg (by decide), if_pos (by decide)]
  rfl
theorem bad_run3 {s : ST} {c : Nat} {X Y W : Nat → Int} (h : GS s c X Y W)  : F_X5_runScript s (1 : Int32) (100000 : Int64) = some (-2, s) := by
  unfold F_X5_runScript f_X5_runScript_0 
  rw [if_neg (by decide), if_neg (by decide), if_pos (by decide), show f_X5_groupsAbove_0 (100000 : Int64) (1 : Int32) = some (lI ((100000 / 100000 ^ 1 : Nat) : Int)) from z_ga (k := 1) (s := 100000) (by omega) (by omega), bnd_some, if_neg (by decide)]
  rfl
theorem bad_run4 {s : ST} {c : Nat} {X Y W : Nat → Int} (h : GS s c X Y W)  : F_X5_runScript s (1 : Int32) (-1 : Int64) = some (-2, s) := by
  unfold F_X5_runScript f_X5_runScript_0 
  rw [if_neg (by decide), if_neg (by decide), if_neg (by decide)]
  rfl
theorem bad_smp1 {s : ST} {c : Nat} {X Y W : Nat → Int} (h : GS s c X Y W)  : F_X5_sample s (1 : Int64) (iI (c : Nat)) (0 : Int32) = some (-1, s) := by
  unfold F_X5_sample f_X5_sample_0 
  rw [h_noS h, bnd_some, if_pos rfl]
  rfl
theorem bad_sav1 {s : ST} {c : Nat} {X Y W : Nat → Int} (h : GS s c X Y W)  : F_X5_save s (2 : Int32) = some (-1, s) := by
  unfold F_X5_save f_X5_save_0 
  rw [show f_X5_isSlot_0 (2 : Int32) = some 0 from z_slot 2 (by omega) (by omega), bnd_some, if_pos rfl]
  rw [bnd6_some, up_self rfl]
theorem bad_res1 {s : ST} {c : Nat} {X Y W : Nat → Int} (h : GS s c X Y W)  : F_X5_restore s (-1 : Int32) = some (-1, s) := by
  unfold F_X5_restore f_X5_restore_0 
  rw [slot_m1, bnd_some, if_pos rfl]
  rfl
theorem bad_add3 {s : ST} {c : Nat} {X Y W : Nat → Int} (h : GS s c X Y W) (h10 : c = 10) : F_X5_add s (0 : Int32) (0 : Int32) (0 : Int32) = some (-4, s) := by
  unfold F_X5_add f_X5_add_0 
  rw [sq_yes (by decide), bnd_some, if_neg (by decide), w_yes (by decide), bnd_some, if_neg (by decide), if_neg (show ¬ (s.2.2.2.2.2.2.2.2.2.2.1) < 10 by rw [h.2.1, q_10, iI_lt] <;> omega)]
  rw [bnd11_some, up_self rfl]
theorem bad_site3 {s : ST} {c : Nat} {X Y W : Nat → Int} (h : GS s c X Y W) (h0 : 0 < c) : F_X5_site s (0 : Int32) (3 : Int32) = some (-2, s) := by
  unfold F_X5_site f_X5_site_0 
  rw [h_0S h h0, bnd_some, if_neg (by decide), if_neg (by decide), if_neg (by decide), if_neg (by decide)]
  rfl
theorem bad_pow3 {s : ST} {c : Nat} {X Y W : Nat → Int} (h : GS s c X Y W) (h0 : 0 < c) : F_X5_powerDistance s (0 : Int32) (0 : Int32) (21 : Int32) = some (-2, s) := by
  unfold F_X5_powerDistance f_X5_powerDistance_0 
  rw [h_0S h h0, bnd_some, if_neg (by decide), sq_no (by decide), bnd_some, if_pos rfl]
  rfl
theorem bad_mov3 {s : ST} {c : Nat} {X Y W : Nat → Int} (h : GS s c X Y W) (h0 : 0 < c) : F_X5_move s (0 : Int32) (-1 : Int32) (0 : Int32) = some (-2, s) := by
  unfold F_X5_move f_X5_move_0 
  rw [h_0S h h0, bnd_some, if_neg (by decide), sq_no (by decide), bnd_some, if_pos rfl]
  rw [bnd9_some, up_self rfl]
theorem bad_set3 {s : ST} {c : Nat} {X Y W : Nat → Int} (h : GS s c X Y W) (h0 : 0 < c) : F_X5_setWeight s (0 : Int32) (-1 : Int32) = some (-2, s) := by
  unfold F_X5_setWeight f_X5_setWeight_0 
  rw [h_0S h h0, bnd_some, if_neg (by decide), w_no (by decide), bnd_some, if_pos rfl]
  rw [bnd8_some, up_self rfl]
theorem bad_wfs3 {s : ST} {c : Nat} {X Y W : Nat → Int} (h : GS s c X Y W) (h0 : 0 < c) : F_X5_weightForSize s (0 : Int32) (442 : Int32) = some (-2, s) := by
  unfold F_X5_weightForSize f_X5_weightForSize_0 
  rw [h_0S h h0, bnd_some, if_neg (by decide), if_neg (by decide), if_neg (by decide)]
  rfl
theorem bad_pw3 {s : ST} {c : Nat} {X Y W : Nat → Int} (h : GS s c X Y W) (h0 : 0 < c) : F_X5_possibleWeights s (0 : Int32) (3 : Int32) = some (-2, s) := by
  unfold F_X5_possibleWeights f_X5_possibleWeights_0 
  rw [h_0S h h0, bnd_some, if_neg (by decide), if_neg (by decide), if_neg (by decide)]
  rfl
theorem bad_smp3 {s : ST} {c : Nat} {X Y W : Nat → Int} (h : GS s c X Y W) (h0 : 0 < c) : F_X5_sample s (1 : Int64) (0 : Int32) (201 : Int32) = some (-2, s) := by
  unfold F_X5_sample f_X5_sample_0 
  rw [h_0S h h0, bnd_some, if_neg (by decide), if_neg (by decide), if_neg (by decide)]
  rfl
set_option maxRecDepth 20000 in
theorem bad_cn3 {s : ST} {c m : Nat} {X Y W : Nat → Int} {f : Nat → Pt} (h : GS s c X Y W) (h0 : 0 < c) (hf : CO (LC X Y W c 0) m f) (hm : m ≤ 14)  : ∃ s' : ST, Eq15 s s' ∧ F_X5_cornerNumerator s (0 : Int32) (iI (pc3 m : Nat)) (0 : Int32) = some (-1, s') := by
  have hc := h.1.1
  obtain ⟨r, u0, u1, u2, u3, u4, u5, u6, u7, u8, u9, u10, e1, h1⟩ := z_prob h.2 h.1 (s.2.2.2.2.2.2.2.2.2.2.2.2.2.2.2.2.2.2.2.2.2.1) (s.2.2.2.2.2.2.2.2.2.2.2.2.2.2.1) (s.2.2.2.2.2.2.2.2.2.2.2.2.2.2.2.1) (s.2.2.2.2.2.2.2.2.2.2.2.2.2.2.2.2.1) (s.2.2.2.2.2.2.2.2.2.2.2.2.2.2.2.2.2.1) (s.2.2.2.2.2.2.2.2.2.2.2.2.2.2.2.2.2.2.1) (s.2.2.2.2.2.2.2.2.2.2.2.2.2.2.2.2.2.2.2.1) (s.2.2.2.2.2.2.2.2.2.2.2.2.2.2.2.2.2.2.2.2.1) (s.2.2.2.2.2.2.2.2.2.2.2.2.2.2.2.2.2.2.2.2.2.2.2.2.1) (s.2.2.2.2.2.2.2.2.2.2.2.2.2.2.2.2.2.2.2.2.2.2.1) (s.2.2.2.2.2.2.2.2.2.2.2.2.2.2.2.2.2.2.2.2.2.2.2.1) (iI ((0 : Nat) : Int)) (iI (pc3 m : Nat)) (0 : Int32)
  have hr : r = -1 := by
    rcases h1 with ⟨-, hp⟩ | ⟨i, m', f', hi, ei, hf', hm', h1⟩
    · exact absurd (k_pin h0 hc) hp
    · have eii : 0 = i := iI_inj (by omega) (by omega) ei
      subst eii
      obtain ⟨em, -⟩ := CO_un hf hf'
      subst em
      have hq : pc3 m ≤ 14 := by unfold pc3; split <;> omega
      rw [iI_toInt (by omega) (by omega)] at h1
      rcases h1 with ⟨h2, h3⟩ | ⟨h2, h3⟩
      · exact h2
      · exact absurd h2.2 (by omega)
  refine ⟨(s.1, s.2.1, s.2.2.1, s.2.2.2.1, s.2.2.2.2.1, s.2.2.2.2.2.1, s.2.2.2.2.2.2.1, s.2.2.2.2.2.2.2.1, s.2.2.2.2.2.2.2.2.1, s.2.2.2.2.2.2.2.2.2.1, s.2.2.2.2.2.2.2.2.2.2.1, s.2.2.2.2.2.2.2.2.2.2.2.1, s.2.2.2.2.2.2.2.2.2.2.2.2.1, s.2.2.2.2.2.2.2.2.2.2.2.2.2.1, u1, u2, u3, u4, u5, u6, u7, u0, u9, u10, u8, s.2.2.2.2.2.2.2.2.2.2.2.2.2.2.2.2.2.2.2.2.2.2.2.2.2.1, s.2.2.2.2.2.2.2.2.2.2.2.2.2.2.2.2.2.2.2.2.2.2.2.2.2.2.1, s.2.2.2.2.2.2.2.2.2.2.2.2.2.2.2.2.2.2.2.2.2.2.2.2.2.2.2.1, s.2.2.2.2.2.2.2.2.2.2.2.2.2.2.2.2.2.2.2.2.2.2.2.2.2.2.2.2.1, s.2.2.2.2.2.2.2.2.2.2.2.2.2.2.2.2.2.2.2.2.2.2.2.2.2.2.2.2.2.1, s.2.2.2.2.2.2.2.2.2.2.2.2.2.2.2.2.2.2.2.2.2.2.2.2.2.2.2.2.2.2.1, s.2.2.2.2.2.2.2.2.2.2.2.2.2.2.2.2.2.2.2.2.2.2.2.2.2.2.2.2.2.2.2), E_rf s, ?_⟩
  unfold F_X5_cornerNumerator f_X5_cornerNumerator_0
  have e1' : f_X5_problemWithCorner_0 (s.2.2.2.2.2.2.2.2.2.2.1) (s.2.2.2.2.2.2.2.2.2.2.2.1) (s.2.2.2.2.2.2.2.2.2.2.2.2.1) (s.2.2.2.2.2.2.2.2.2.2.2.2.2.1) (s.2.2.2.2.2.2.2.2.2.2.2.2.2.2.2.2.2.2.2.2.2.1) (s.2.2.2.2.2.2.2.2.2.2.2.2.2.2.1) (s.2.2.2.2.2.2.2.2.2.2.2.2.2.2.2.1) (s.2.2.2.2.2.2.2.2.2.2.2.2.2.2.2.2.1) (s.2.2.2.2.2.2.2.2.2.2.2.2.2.2.2.2.2.1) (s.2.2.2.2.2.2.2.2.2.2.2.2.2.2.2.2.2.2.1) (s.2.2.2.2.2.2.2.2.2.2.2.2.2.2.2.2.2.2.2.1) (s.2.2.2.2.2.2.2.2.2.2.2.2.2.2.2.2.2.2.2.2.1) (s.2.2.2.2.2.2.2.2.2.2.2.2.2.2.2.2.2.2.2.2.2.2.2.2.1) (s.2.2.2.2.2.2.2.2.2.2.2.2.2.2.2.2.2.2.2.2.2.2.1) (s.2.2.2.2.2.2.2.2.2.2.2.2.2.2.2.2.2.2.2.2.2.2.2.1) (0 : Int32) (iI (pc3 m : Nat)) (0 : Int32) = _ := e1
  rw [e1', bnd12_some, hr, if_neg (by decide)]
  rfl
set_option maxRecDepth 20000 in
theorem bad_cd3 {s : ST} {c m : Nat} {X Y W : Nat → Int} {f : Nat → Pt} (h : GS s c X Y W) (h0 : 0 < c) (hf : CO (LC X Y W c 0) m f) (hm : m ≤ 14) (h3m : 0 < pc3 m) : ∃ s' : ST, Eq15 s s' ∧ F_X5_cornerDenominator s (0 : Int32) (0 : Int32) (2 : Int32) = some (-2, s') := by
  have hc := h.1.1
  obtain ⟨r, u0, u1, u2, u3, u4, u5, u6, u7, u8, u9, u10, e1, h1⟩ := z_prob h.2 h.1 (s.2.2.2.2.2.2.2.2.2.2.2.2.2.2.2.2.2.2.2.2.2.1) (s.2.2.2.2.2.2.2.2.2.2.2.2.2.2.1) (s.2.2.2.2.2.2.2.2.2.2.2.2.2.2.2.1) (s.2.2.2.2.2.2.2.2.2.2.2.2.2.2.2.2.1) (s.2.2.2.2.2.2.2.2.2.2.2.2.2.2.2.2.2.1) (s.2.2.2.2.2.2.2.2.2.2.2.2.2.2.2.2.2.2.1) (s.2.2.2.2.2.2.2.2.2.2.2.2.2.2.2.2.2.2.2.1) (s.2.2.2.2.2.2.2.2.2.2.2.2.2.2.2.2.2.2.2.2.1) (s.2.2.2.2.2.2.2.2.2.2.2.2.2.2.2.2.2.2.2.2.2.2.2.2.1) (s.2.2.2.2.2.2.2.2.2.2.2.2.2.2.2.2.2.2.2.2.2.2.1) (s.2.2.2.2.2.2.2.2.2.2.2.2.2.2.2.2.2.2.2.2.2.2.2.1) (iI ((0 : Nat) : Int)) (iI ((0 : Nat) : Int)) (2 : Int32)
  have hr : r = -2 := by
    rcases h1 with ⟨-, hp⟩ | ⟨i, m', f', hi, ei, hf', hm', h1⟩
    · exact absurd (k_pin h0 hc) hp
    · have eii : 0 = i := iI_inj (by omega) (by omega) ei
      subst eii
      obtain ⟨em, -⟩ := CO_un hf hf'
      subst em
      have hq : pc3 m ≤ 14 := by unfold pc3; split <;> omega
      rw [iI_toInt (by omega) (by omega)] at h1
      rcases h1 with ⟨h2, h3⟩ | ⟨h2, h3⟩
      · exact absurd (show (0 : Int) ≤ (0 : Nat) ∧ (((0 : Nat) : Int)) < (pc3 m : Nat) from ⟨by omega, by omega⟩) h3
      · rcases h3 with ⟨h4, -⟩ | ⟨-, h4, -⟩
        · exact h4
        · exact absurd h4 (by decide)
  refine ⟨(s.1, s.2.1, s.2.2.1, s.2.2.2.1, s.2.2.2.2.1, s.2.2.2.2.2.1, s.2.2.2.2.2.2.1, s.2.2.2.2.2.2.2.1, s.2.2.2.2.2.2.2.2.1, s.2.2.2.2.2.2.2.2.2.1, s.2.2.2.2.2.2.2.2.2.2.1, s.2.2.2.2.2.2.2.2.2.2.2.1, s.2.2.2.2.2.2.2.2.2.2.2.2.1, s.2.2.2.2.2.2.2.2.2.2.2.2.2.1, u1, u2, u3, u4, u5, u6, u7, u0, u9, u10, u8, s.2.2.2.2.2.2.2.2.2.2.2.2.2.2.2.2.2.2.2.2.2.2.2.2.2.1, s.2.2.2.2.2.2.2.2.2.2.2.2.2.2.2.2.2.2.2.2.2.2.2.2.2.2.1, s.2.2.2.2.2.2.2.2.2.2.2.2.2.2.2.2.2.2.2.2.2.2.2.2.2.2.2.1, s.2.2.2.2.2.2.2.2.2.2.2.2.2.2.2.2.2.2.2.2.2.2.2.2.2.2.2.2.1, s.2.2.2.2.2.2.2.2.2.2.2.2.2.2.2.2.2.2.2.2.2.2.2.2.2.2.2.2.2.1, s.2.2.2.2.2.2.2.2.2.2.2.2.2.2.2.2.2.2.2.2.2.2.2.2.2.2.2.2.2.2.1, s.2.2.2.2.2.2.2.2.2.2.2.2.2.2.2.2.2.2.2.2.2.2.2.2.2.2.2.2.2.2.2), E_rf s, ?_⟩
  unfold F_X5_cornerDenominator f_X5_cornerDenominator_0
  have e1' : f_X5_problemWithCorner_0 (s.2.2.2.2.2.2.2.2.2.2.1) (s.2.2.2.2.2.2.2.2.2.2.2.1) (s.2.2.2.2.2.2.2.2.2.2.2.2.1) (s.2.2.2.2.2.2.2.2.2.2.2.2.2.1) (s.2.2.2.2.2.2.2.2.2.2.2.2.2.2.2.2.2.2.2.2.2.1) (s.2.2.2.2.2.2.2.2.2.2.2.2.2.2.1) (s.2.2.2.2.2.2.2.2.2.2.2.2.2.2.2.1) (s.2.2.2.2.2.2.2.2.2.2.2.2.2.2.2.2.1) (s.2.2.2.2.2.2.2.2.2.2.2.2.2.2.2.2.2.1) (s.2.2.2.2.2.2.2.2.2.2.2.2.2.2.2.2.2.2.1) (s.2.2.2.2.2.2.2.2.2.2.2.2.2.2.2.2.2.2.2.1) (s.2.2.2.2.2.2.2.2.2.2.2.2.2.2.2.2.2.2.2.2.1) (s.2.2.2.2.2.2.2.2.2.2.2.2.2.2.2.2.2.2.2.2.2.2.2.2.1) (s.2.2.2.2.2.2.2.2.2.2.2.2.2.2.2.2.2.2.2.2.2.2.1) (s.2.2.2.2.2.2.2.2.2.2.2.2.2.2.2.2.2.2.2.2.2.2.2.1) (0 : Int32) (0 : Int32) (2 : Int32) = _ := e1
  rw [e1', bnd12_some, hr, if_neg (by decide)]
  rfl
/-- the failing calls answer as they must, and change nothing but scratch -/
theorem l_rejects {s : ST} {c : Nat} {X Y W : Nat → Int} (h : GS s c X Y W) : ∃ s' : ST, Eq15 s s' ∧ f_L_rejects_0 s = some (1, s') := by
  have hc := h.1.1
  have tail : ∃ s' : ST, Eq15 s s' ∧ f_L_rejects_365 s (iI (c : Nat)) 1 = some (1, s') := by
    unfold f_L_rejects_365
    rw [if_neg (by decide)]
    by_cases h0 : c = 0
    · rw [if_pos (show iI (c : Nat) = 0 by rw [h0]; rfl)]
      exact ⟨s, E_rf s, rfl⟩
    · have h0' : 0 < c := by omega
      rw [if_neg (show ¬ iI (c : Nat) = 0 by rw [q_0, iI_eq] <;> omega)]
      refine rj (bad_site3 h h0') (rj (bad_pow3 h h0') (rj (bad_mov3 h h0') (rj (bad_set3 h h0') (rj (bad_wfs3 h h0') (rj (bad_pw3 h h0') (rj (bad_smp3 h h0') ?_))))))
      show ∃ s' : ST, Eq15 s s' ∧ _ = some (1, s')
      obtain ⟨m, f, s1, k1, hC, hm, e1⟩ := q_cc h h0'
      have e1' : F_X5_cornerCount s (0 : Int32) = some (iI (pc3 m : Nat), s1) := e1
      rw [e1', bnd2_some]
      have g1 := GS_E k1 h
      obtain ⟨s2, k2, e2⟩ := bad_cn3 g1 h0' hC hm
      rw [e2, bnd2_some, if_pos rfl]
      have g2 := GS_E k2 g1
      obtain ⟨m', f', s3, k3, hC', hm', e3⟩ := q_cc g2 h0'
      have e3' : F_X5_cornerCount s2 (0 : Int32) = some (iI (pc3 m' : Nat), s3) := e3
      rw [e3', bnd2_some]
      have k13 := E_tr k1 (E_tr k2 k3)
      by_cases hp : pc3 m' = 0
      · rw [if_pos (show iI (pc3 m' : Nat) = 0 by rw [hp]; rfl)]
        exact ⟨s3, k13, rfl⟩
      · have hq : pc3 m' ≤ 14 := by unfold pc3; split <;> omega
        rw [if_neg (show ¬ iI (pc3 m' : Nat) = 0 by rw [q_0, iI_eq] <;> omega)]
        obtain ⟨s4, k4, e4⟩ := bad_cd3 (GS_E k3 g2) h0' hC' hm' (by omega)
        rw [e4, bnd2_some, if_pos rfl]
        exact ⟨s4, E_tr k13 k4, rfl⟩
  unfold f_L_rejects_0
  rw [q_siteCount h, bnd2_some]
  show RJ s _
  refine rj (bad_app1 h) (rj (bad_app2 h) (rj (bad_site1 h) (rj (bad_site2 h) (rj (bad_pow1 h) (rj (bad_own1 h) (rj (bad_own2 h) (rj (bad_size1 h) (rj (bad_add1 h) (rj (bad_add2 h) (rj (bad_rem1 h) (rj (bad_mov1 h) (rj (bad_set1 h) (rj (bad_cc1 h) (rj (bad_cn1 h) (rj (bad_nb1 h) (rj (bad_tri1 h) (rj (bad_cf1 h) (rj (bad_as1 h) (rj (bad_wfs1 h) (rj (bad_obs1 h) (rj (bad_obs2 h) (rj (bad_pw1 h) (rj (bad_run1 h) (rj (bad_run2 h) (rj (bad_run3 h) (rj (bad_run4 h) (rj (bad_smp1 h) (rj (bad_sav1 h) (rj (bad_res1 h) ?_)))))))))))))))))))))))))))))
  show ∃ s' : ST, Eq15 s s' ∧ _ = some (1, s')
  by_cases h10 : c < 10
  · rw [if_pos (show iI (c : Nat) < 10 by rw [q_10, iI_lt] <;> omega)]
    exact tail
  · rw [if_neg (show ¬ iI (c : Nat) < 10 by rw [q_10, iI_lt] <;> omega), bad_add3 h (by omega), bnd2_some, if_pos rfl]
    exact tail
