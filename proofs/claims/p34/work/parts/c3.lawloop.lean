def LK (p : Program) (l : Launch) (e : Env) (s : State) (m : MethodId) (below : List Frame) (meth : Method) (c : Code) (b : Nat) (D : va_G) (cI cJ cZ cQ : ClassId) (a1 a2 : AB) (pc k : Nat) : Prop := ∀ sp sq : ST, J sp sq → ∀ (H : Heap) (locs : List Loc), va_P D vwCl (wB cI cJ cZ cQ a1 sp ++ wB cI cJ cZ cQ a2 sq) H → va_D (fun q : Nat => s.heap.size ≤ q) (wB cI cJ cZ cQ a1 sp ++ wB cI cJ cZ cQ a2 sq) → va_S (fun q : Nat => s.heap.size ≤ q) s.heap H locs → ∀ ls : Array Slot, lv_has ls 8 [(0, .ref b), (1, .ref (a1.1 0)), (2, .ref (a2.1 0)), (3, .int 1), (4, .int (iI (k : Nat)))] → W p l e room_1 s m #[Value.ref b] below meth c H locs 182 2490 (lw_Z below #[Value.ref b] s) (F0 m pc ls [])
theorem l_wj {sp sq : ST} (h : J sp sq) {x : Nat} (hx : x < 2147483648) : ∃ sp' sq' : ST, f_L_weights_0 sp (iI (x : Nat)) = some (1, sp') ∧ f_L_weights_0 sq (iI (x : Nat)) = some (1, sq') ∧ J sp' sq' := by
  obtain ⟨⟨c, X, Y, W, gp, gq⟩, ⟨n, ox, oy, oo, go⟩, nw⟩ := J_has h
  obtain ⟨-, ⟨n', ox', oy', oo', go'⟩, nw'⟩ := J_has (J_sy h)
  rcases Nat.eq_zero_or_pos c with h0 | h0
  · have z : ∀ s, GS s c X Y W → f_L_weights_0 s (iI (x : Nat)) = some (1, s) := by
      intro s g
      unfold f_L_weights_0
      rw [q_siteCount g, bnd2_some, if_pos (show iI (c : Nat) = 0 by rw [h0]; rfl)]
    exact ⟨sp, sq, z sp gp, z sq gq, h⟩
  · obtain ⟨o, v, s1, ho, hv, e1, t1⟩ := l_weights gp nw go hx h0
    obtain ⟨o', v', s2, ho', hv', e2, t2⟩ := l_weights gq nw' go' hx h0
    have eo : o' = o := Option.some.inj (ho'.symm.trans ho)
    have ev : v' = v := LW_un hv' hv
    subst eo ev
    exact ⟨s1, s2, e1, e2, J_TRC h t1 t2⟩
set_option maxHeartbeats 4000000 in
set_option maxRecDepth 100000 in
theorem lk_step {p : Program} {l : Launch} {e : Env} {s : State} {m : MethodId} {below : List Frame} {meth : Method} {c : Code} {b : Nat} {D : va_G} {cI cJ cZ cQ : ClassId} {a1 a2 : AB} {L k : Nat} {xs : Nat → Int32} (hL : L < 1000) (C0 : lwc p s m meth c b L xs D cI cJ cZ cQ) (hk : k < 8) (ih : LK p l e s m below meth c b D cI cJ cZ cQ a1 a2 24 (k + 1)) : LK p l e s m below meth c b D cI cJ cZ cQ a1 a2 24 k := by
  intro sp sq hj H locs hP hD hS ls hl
  obtain ⟨⟨hx, hb, hr, hml, hown0, hts, hX, hbl, hlocks, hgv⟩, hK, hN⟩ := id C0
  have hown : s.vm.findClass RL = some m.cls := hown0
  have htl : ∀ w ∈ wsL_law, w.before #[Value.ref b] s = true := fun w h => hts w (wsL_law_in w h)
  have hA : ∀ q : Nat, s.heap.size ≤ q → (fun q : Nat => s.heap.size ≤ q) q := fun _ h => h
  obtain ⟨x, hx1, ex⟩ := cellV_ex xs L (2 * k)
  obtain ⟨y, hy1, ey⟩ := cellV_ex xs L (2 * k + 1)
  refine lv_iload hx hb dL_law_24 (lv_at hl 4 rfl) ?_
  refine lv_bipush (v := (8 : Int32)) hx hb dL_law_26 (by decide) ?_
  refine lv_icmp_ge (tgt := 187) hx hb dL_law_28 (by decide) (fun c1 => absurd c1 (by rw [show (8 : Int32) = iI 8 from rfl, iI_le] <;> omega)) (fun c1 => ?_)
  refine lv_iload_n hx hb dL_law_31 rfl (lv_at hl 3 rfl) ?_
  refine lv_if_eq (tgt := 187) hx hb dL_law_32 (by decide) (fun c2 => absurd c2 (by decide)) (fun c2 => ?_)
  refine lv_aload_n hx hb dL_law_35 rfl (lv_at hl 0 rfl) ?_
  refine lv_iconst (v := (2 : Int32)) hx hb dL_law_36 (by decide) ?_
  refine lv_iload hx hb dL_law_37 (lv_at hl 4 rfl) ?_
  refine lv_imul hx hb dL_law_39 ?_
  rw [show (2 : Int32) * iI (k : Nat) = iI ((2 * k : Nat) : Int) by rw [q_2, iI_mul]; rfl]
  refine callCell hL C0 hP hD hS hl (k := 2 * k) (by omega) dL_law_40 ⟨Nat.le_of_ble_eq_true rfl, Nat.le_of_ble_eq_true rfl⟩ (fun H locs hP hD hS => ?_)
  rw [ex]
  refine lv_istore (lv' := [(5, .int (iI (x : Nat))), (0, .ref b), (1, .ref (a1.1 0)), (2, .ref (a2.1 0)), (3, .int 1), (4, .int (iI (k : Nat)))]) hx hb dL_law_43 hl (by decide) rfl (fun ls hl => ?_)
  refine lv_aload_n hx hb dL_law_45 rfl (lv_at hl 1 rfl) ?_
  refine lv_iconst (v := (2 : Int32)) hx hb dL_law_46 (by decide) ?_
  refine lv_iload hx hb dL_law_47 (lv_at hl 5 rfl) ?_
  refine lv_imul hx hb dL_law_49 ?_
  refine lv_iconst (v := (1 : Int32)) hx hb dL_law_50 (by decide) ?_
  refine lv_iadd hx hb dL_law_51 ?_
  rw [show (2 : Int32) * iI (k : Nat) + 1 = iI ((2 * k + 1 : Nat) : Int) by rw [q_2, q_1, iI_mul, iI_add]; rfl]
  refine callCell hL C0 hP hD hS hl (k := 2 * k + 1) (by omega) dL_law_52 ⟨Nat.le_of_ble_eq_true rfl, Nat.le_of_ble_eq_true rfl⟩ (fun H locs hP hD hS => ?_)
  rw [ey]
  refine lv_istore (lv' := [(6, .int (iI (y : Nat))), (5, .int (iI (x : Nat))), (0, .ref b), (1, .ref (a1.1 0)), (2, .ref (a2.1 0)), (3, .int 1), (4, .int (iI (k : Nat)))]) hx hb dL_law_55 hl (by decide) rfl (fun ls hl => ?_)
  obtain ⟨r0, sp1, sq1, fa1, fa2, hj1⟩ := ja hj (iI (x : Nat)) (iI (y : Nat))
  refine lv_aload_n hx hb dL_law_57 rfl (lv_at hl 3 rfl) ?_
  refine lv_iload hx hb dL_law_58 (lv_at hl 1 rfl) ?_
  refine lv_iload hx hb dL_law_60 (lv_at hl 0 rfl) ?_
  refine callSI (r := r0) (As := [.ref (a1.1 0), .int (iI (x : Nat)), .int (iI (y : Nat))]) (rest := []) (wr := wB cI cJ cZ cQ a2 sq) (WB := (wB cI cJ cZ cQ a1 sp1 ++ wB cI cJ cZ cQ a2 sq)) hx hb hml hown htl hK hN (c_L_act l D cI cJ cZ cQ a1 sp (iI (x : Nat)) (iI (y : Nat)) fa1) (va_cwS 3 htl gL_law_L_act rfl rfl rfl e_L_act ⟨Nat.le_of_ble_eq_true rfl, Nat.le_of_ble_eq_true rfl⟩) hP hD hS hA (List.Perm.refl _) (List.Perm.refl _) rfl hl (Nat.le_of_ble_eq_true rfl) dL_law_62 ⟨Nat.le_of_ble_eq_true rfl, Nat.le_of_ble_eq_true rfl⟩ rfl (fun H locs hP hD hS => ?_)
  refine lv_istore (lv' := [(7, .int r0), (6, .int (iI (y : Nat))), (5, .int (iI (x : Nat))), (0, .ref b), (1, .ref (a1.1 0)), (2, .ref (a2.1 0)), (3, .int 1), (4, .int (iI (k : Nat)))]) hx hb dL_law_65 hl (by decide) rfl (fun ls hl => ?_)
  refine lv_aload_n hx hb dL_law_67 rfl (lv_at hl 5 rfl) ?_
  refine lv_iload hx hb dL_law_68 (lv_at hl 2 rfl) ?_
  refine lv_iload hx hb dL_law_70 (lv_at hl 1 rfl) ?_
  refine callSI (r := r0) (As := [.ref (a2.1 0), .int (iI (x : Nat)), .int (iI (y : Nat))]) (rest := []) (wr := wB cI cJ cZ cQ a1 sp1) (WB := (wB cI cJ cZ cQ a1 sp1 ++ wB cI cJ cZ cQ a2 sq1)) hx hb hml hown htl hK hN (c_L_act l D cI cJ cZ cQ a2 sq (iI (x : Nat)) (iI (y : Nat)) fa2) (va_cwS 3 htl gL_law_L_act rfl rfl rfl e_L_act ⟨Nat.le_of_ble_eq_true rfl, Nat.le_of_ble_eq_true rfl⟩) hP hD hS hA List.perm_append_comm List.perm_append_comm rfl hl (Nat.le_of_ble_eq_true rfl) dL_law_72 ⟨Nat.le_of_ble_eq_true rfl, Nat.le_of_ble_eq_true rfl⟩ rfl (fun H locs hP hD hS => ?_)
  refine lv_iload hx hb dL_law_75 (lv_at hl 0 rfl) ?_
  refine lv_icmp_ne (tgt := 179) hx hb dL_law_77 (by decide) (fun c3 => absurd rfl c3) (fun c3 => ?_)
  obtain ⟨⟨c1, X1, Y1, W1, gp1, gq1⟩, ⟨n1, ox1, oy1, oo1, go1⟩, nw1⟩ := J_has hj1
  obtain ⟨sq2, k2, f2⟩ := l_rejects gq1
  refine lv_aload_n hx hb dL_law_80 rfl (lv_at hl 5 rfl) ?_
  refine callSI (r := 1) (As := [.ref (a2.1 0)]) (rest := []) (wr := wB cI cJ cZ cQ a1 sp1) (WB := (wB cI cJ cZ cQ a1 sp1 ++ wB cI cJ cZ cQ a2 sq2)) hx hb hml hown htl hK hN (c_L_rejects l D cI cJ cZ cQ a2 sq1  f2) (va_cwS 1 htl gL_law_L_rejects rfl rfl rfl e_L_rejects ⟨Nat.le_of_ble_eq_true rfl, Nat.le_of_ble_eq_true rfl⟩) hP hD hS hA List.perm_append_comm List.perm_append_comm rfl hl (Nat.le_of_ble_eq_true rfl) dL_law_81 ⟨Nat.le_of_ble_eq_true rfl, Nat.le_of_ble_eq_true rfl⟩ rfl (fun H locs hP hD hS => ?_)
  refine lv_if_eq (tgt := 179) hx hb dL_law_84 (by decide) (fun c4 => absurd c4 (by decide)) (fun c4 => ?_)
  have hj2 : J sp1 sq2 := J_E hj1 k2
  obtain ⟨sp3, sq3, f3, hj3⟩ := l_alike hj2 (iI (y : Nat))
  refine lv_aload_n hx hb dL_law_87 rfl (lv_at hl 4 rfl) ?_
  refine lv_aload_n hx hb dL_law_88 rfl (lv_at hl 5 rfl) ?_
  refine lv_iload hx hb dL_law_89 (lv_at hl 1 rfl) ?_
  refine callSI (r := 1) (As := [.ref (a1.1 0), .ref (a2.1 0), .int (iI (y : Nat))]) (rest := []) (wr := []) (WB := (wB cI cJ cZ cQ a1 sp3 ++ wB cI cJ cZ cQ a2 sq3)) hx hb hml hown htl hK hN (c_L_alike l D cI cJ cZ cQ a1 a2 sp1 sq2 (iI (y : Nat)) f3) (va_cwS 3 htl gL_law_L_alike rfl rfl rfl e_L_alike ⟨Nat.le_of_ble_eq_true rfl, Nat.le_of_ble_eq_true rfl⟩) hP hD hS hA pmN pmN.symm rfl hl (Nat.le_of_ble_eq_true rfl) dL_law_91 ⟨Nat.le_of_ble_eq_true rfl, Nat.le_of_ble_eq_true rfl⟩ rfl (fun H locs hP hD hS => ?_)
  refine lv_if_eq (tgt := 179) hx hb dL_law_94 (by decide) (fun c4 => absurd c4 (by decide)) (fun c4 => ?_)
  obtain ⟨⟨c3, X3, Y3, W3, gp3, gq3⟩, ⟨n3, ox3, oy3, oo3, go3⟩, nw3⟩ := J_has hj3
  obtain ⟨sp4, k4, f4⟩ := l_owners hy1 gp3
  refine lv_aload_n hx hb dL_law_97 rfl (lv_at hl 4 rfl) ?_
  refine lv_iload hx hb dL_law_98 (lv_at hl 1 rfl) ?_
  refine callSI (r := 1) (As := [.ref (a1.1 0), .int (iI (y : Nat))]) (rest := []) (wr := wB cI cJ cZ cQ a2 sq3) (WB := (wB cI cJ cZ cQ a1 sp4 ++ wB cI cJ cZ cQ a2 sq3)) hx hb hml hown htl hK hN (c_L_owners l D cI cJ cZ cQ a1 sp3 (iI (y : Nat)) f4) (va_cwS 2 htl gL_law_L_owners rfl rfl rfl e_L_owners ⟨Nat.le_of_ble_eq_true rfl, Nat.le_of_ble_eq_true rfl⟩) hP hD hS hA (List.Perm.refl _) (List.Perm.refl _) rfl hl (Nat.le_of_ble_eq_true rfl) dL_law_100 ⟨Nat.le_of_ble_eq_true rfl, Nat.le_of_ble_eq_true rfl⟩ rfl (fun H locs hP hD hS => ?_)
  refine lv_if_eq (tgt := 179) hx hb dL_law_103 (by decide) (fun c4 => absurd c4 (by decide)) (fun c4 => ?_)
  obtain ⟨sq4, k4q, f4q⟩ := l_owners hy1 gq3
  refine lv_aload_n hx hb dL_law_106 rfl (lv_at hl 5 rfl) ?_
  refine lv_iload hx hb dL_law_107 (lv_at hl 1 rfl) ?_
  refine callSI (r := 1) (As := [.ref (a2.1 0), .int (iI (y : Nat))]) (rest := []) (wr := wB cI cJ cZ cQ a1 sp4) (WB := (wB cI cJ cZ cQ a1 sp4 ++ wB cI cJ cZ cQ a2 sq4)) hx hb hml hown htl hK hN (c_L_owners l D cI cJ cZ cQ a2 sq3 (iI (y : Nat)) f4q) (va_cwS 2 htl gL_law_L_owners rfl rfl rfl e_L_owners ⟨Nat.le_of_ble_eq_true rfl, Nat.le_of_ble_eq_true rfl⟩) hP hD hS hA List.perm_append_comm List.perm_append_comm rfl hl (Nat.le_of_ble_eq_true rfl) dL_law_109 ⟨Nat.le_of_ble_eq_true rfl, Nat.le_of_ble_eq_true rfl⟩ rfl (fun H locs hP hD hS => ?_)
  refine lv_if_eq (tgt := 179) hx hb dL_law_112 (by decide) (fun c4 => absurd c4 (by decide)) (fun c4 => ?_)
  have gp4 := GS_E k4 gp3
  have gq4 := GS_E k4q gq3
  obtain ⟨sp5, k5, f5⟩ := l_cells gp4
  refine lv_aload_n hx hb dL_law_115 rfl (lv_at hl 4 rfl) ?_
  refine callSI (r := 1) (As := [.ref (a1.1 0)]) (rest := []) (wr := wB cI cJ cZ cQ a2 sq4) (WB := (wB cI cJ cZ cQ a1 sp5 ++ wB cI cJ cZ cQ a2 sq4)) hx hb hml hown htl hK hN (c_L_cells l D cI cJ cZ cQ a1 sp4  f5) (va_cwS 1 htl gL_law_L_cells rfl rfl rfl e_L_cells ⟨Nat.le_of_ble_eq_true rfl, Nat.le_of_ble_eq_true rfl⟩) hP hD hS hA (List.Perm.refl _) (List.Perm.refl _) rfl hl (Nat.le_of_ble_eq_true rfl) dL_law_116 ⟨Nat.le_of_ble_eq_true rfl, Nat.le_of_ble_eq_true rfl⟩ rfl (fun H locs hP hD hS => ?_)
  refine lv_if_eq (tgt := 179) hx hb dL_law_119 (by decide) (fun c4 => absurd c4 (by decide)) (fun c4 => ?_)
  obtain ⟨sq5, k5q, f5q⟩ := l_cells gq4
  refine lv_aload_n hx hb dL_law_122 rfl (lv_at hl 5 rfl) ?_
  refine callSI (r := 1) (As := [.ref (a2.1 0)]) (rest := []) (wr := wB cI cJ cZ cQ a1 sp5) (WB := (wB cI cJ cZ cQ a1 sp5 ++ wB cI cJ cZ cQ a2 sq5)) hx hb hml hown htl hK hN (c_L_cells l D cI cJ cZ cQ a2 sq4  f5q) (va_cwS 1 htl gL_law_L_cells rfl rfl rfl e_L_cells ⟨Nat.le_of_ble_eq_true rfl, Nat.le_of_ble_eq_true rfl⟩) hP hD hS hA List.perm_append_comm List.perm_append_comm rfl hl (Nat.le_of_ble_eq_true rfl) dL_law_123 ⟨Nat.le_of_ble_eq_true rfl, Nat.le_of_ble_eq_true rfl⟩ rfl (fun H locs hP hD hS => ?_)
  refine lv_if_eq (tgt := 179) hx hb dL_law_126 (by decide) (fun c4 => absurd c4 (by decide)) (fun c4 => ?_)
  have gp5 := GS_E k5 gp4
  have gq5 := GS_E k5q gq4
  have hj5 : J sp5 sq5 := J_EE hj3 (E_tr k4 k5) (E_tr k4q k5q)
  have nwp5 := (J_has hj5).2.2
  have nwq5 := (J_has (J_sy hj5)).2.2
  obtain ⟨sp6, f6, t6⟩ := l_triangles gp5 nwp5 hy1
  refine lv_aload_n hx hb dL_law_129 rfl (lv_at hl 4 rfl) ?_
  refine lv_iload hx hb dL_law_130 (lv_at hl 1 rfl) ?_
  refine callSI (r := 1) (As := [.ref (a1.1 0), .int (iI (y : Nat))]) (rest := []) (wr := wB cI cJ cZ cQ a2 sq5) (WB := (wB cI cJ cZ cQ a1 sp6 ++ wB cI cJ cZ cQ a2 sq5)) hx hb hml hown htl hK hN (c_L_triangles l D cI cJ cZ cQ a1 sp5 (iI (y : Nat)) f6) (va_cwS 2 htl gL_law_L_triangles rfl rfl rfl e_L_triangles ⟨Nat.le_of_ble_eq_true rfl, Nat.le_of_ble_eq_true rfl⟩) hP hD hS hA (List.Perm.refl _) (List.Perm.refl _) rfl hl (Nat.le_of_ble_eq_true rfl) dL_law_132 ⟨Nat.le_of_ble_eq_true rfl, Nat.le_of_ble_eq_true rfl⟩ rfl (fun H locs hP hD hS => ?_)
  refine lv_if_eq (tgt := 179) hx hb dL_law_135 (by decide) (fun c4 => absurd c4 (by decide)) (fun c4 => ?_)
  obtain ⟨sq6, f6q, t6q⟩ := l_triangles gq5 nwq5 hy1
  refine lv_aload_n hx hb dL_law_138 rfl (lv_at hl 5 rfl) ?_
  refine lv_iload hx hb dL_law_139 (lv_at hl 1 rfl) ?_
  refine callSI (r := 1) (As := [.ref (a2.1 0), .int (iI (y : Nat))]) (rest := []) (wr := wB cI cJ cZ cQ a1 sp6) (WB := (wB cI cJ cZ cQ a1 sp6 ++ wB cI cJ cZ cQ a2 sq6)) hx hb hml hown htl hK hN (c_L_triangles l D cI cJ cZ cQ a2 sq5 (iI (y : Nat)) f6q) (va_cwS 2 htl gL_law_L_triangles rfl rfl rfl e_L_triangles ⟨Nat.le_of_ble_eq_true rfl, Nat.le_of_ble_eq_true rfl⟩) hP hD hS hA List.perm_append_comm List.perm_append_comm rfl hl (Nat.le_of_ble_eq_true rfl) dL_law_141 ⟨Nat.le_of_ble_eq_true rfl, Nat.le_of_ble_eq_true rfl⟩ rfl (fun H locs hP hD hS => ?_)
  refine lv_if_eq (tgt := 179) hx hb dL_law_144 (by decide) (fun c4 => absurd c4 (by decide)) (fun c4 => ?_)
  have hj6 : J sp6 sq6 := by
    rcases t6 with ⟨u1, u2⟩ | ⟨u1, u2⟩
    · rcases t6q with ⟨v1, v2⟩ | ⟨v1, v2⟩
      · exact J_EE hj5 u2 v2
      · omega
    · rcases t6q with ⟨v1, v2⟩ | ⟨v1, v2⟩
      · omega
      · exact J_TT hj5 u2 v2
  obtain ⟨sp7, sq7, f7, f7q, hj7⟩ := l_wj hj6 hy1
  refine lv_aload_n hx hb dL_law_147 rfl (lv_at hl 4 rfl) ?_
  refine lv_iload hx hb dL_law_148 (lv_at hl 1 rfl) ?_
  refine callSI (r := 1) (As := [.ref (a1.1 0), .int (iI (y : Nat))]) (rest := []) (wr := wB cI cJ cZ cQ a2 sq6) (WB := (wB cI cJ cZ cQ a1 sp7 ++ wB cI cJ cZ cQ a2 sq6)) hx hb hml hown htl hK hN (c_L_weights l D cI cJ cZ cQ a1 sp6 (iI (y : Nat)) f7) (va_cwS 2 htl gL_law_L_weights rfl rfl rfl e_L_weights ⟨Nat.le_of_ble_eq_true rfl, Nat.le_of_ble_eq_true rfl⟩) hP hD hS hA (List.Perm.refl _) (List.Perm.refl _) rfl hl (Nat.le_of_ble_eq_true rfl) dL_law_150 ⟨Nat.le_of_ble_eq_true rfl, Nat.le_of_ble_eq_true rfl⟩ rfl (fun H locs hP hD hS => ?_)
  refine lv_if_eq (tgt := 179) hx hb dL_law_153 (by decide) (fun c4 => absurd c4 (by decide)) (fun c4 => ?_)
  refine lv_aload_n hx hb dL_law_156 rfl (lv_at hl 5 rfl) ?_
  refine lv_iload hx hb dL_law_157 (lv_at hl 1 rfl) ?_
  refine callSI (r := 1) (As := [.ref (a2.1 0), .int (iI (y : Nat))]) (rest := []) (wr := wB cI cJ cZ cQ a1 sp7) (WB := (wB cI cJ cZ cQ a1 sp7 ++ wB cI cJ cZ cQ a2 sq7)) hx hb hml hown htl hK hN (c_L_weights l D cI cJ cZ cQ a2 sq6 (iI (y : Nat)) f7q) (va_cwS 2 htl gL_law_L_weights rfl rfl rfl e_L_weights ⟨Nat.le_of_ble_eq_true rfl, Nat.le_of_ble_eq_true rfl⟩) hP hD hS hA List.perm_append_comm List.perm_append_comm rfl hl (Nat.le_of_ble_eq_true rfl) dL_law_159 ⟨Nat.le_of_ble_eq_true rfl, Nat.le_of_ble_eq_true rfl⟩ rfl (fun H locs hP hD hS => ?_)
  refine lv_if_eq (tgt := 179) hx hb dL_law_162 (by decide) (fun c4 => absurd c4 (by decide)) (fun c4 => ?_)
  obtain ⟨sp8, sq8, f8, hj8⟩ := l_alike hj7 (iI (x : Nat))
  refine lv_aload_n hx hb dL_law_165 rfl (lv_at hl 4 rfl) ?_
  refine lv_aload_n hx hb dL_law_166 rfl (lv_at hl 5 rfl) ?_
  refine lv_iload hx hb dL_law_167 (lv_at hl 2 rfl) ?_
  refine callSI (r := 1) (As := [.ref (a1.1 0), .ref (a2.1 0), .int (iI (x : Nat))]) (rest := []) (wr := []) (WB := (wB cI cJ cZ cQ a1 sp8 ++ wB cI cJ cZ cQ a2 sq8)) hx hb hml hown htl hK hN (c_L_alike l D cI cJ cZ cQ a1 a2 sp7 sq7 (iI (x : Nat)) f8) (va_cwS 3 htl gL_law_L_alike rfl rfl rfl e_L_alike ⟨Nat.le_of_ble_eq_true rfl, Nat.le_of_ble_eq_true rfl⟩) hP hD hS hA pmN pmN.symm rfl hl (Nat.le_of_ble_eq_true rfl) dL_law_169 ⟨Nat.le_of_ble_eq_true rfl, Nat.le_of_ble_eq_true rfl⟩ rfl (fun H locs hP hD hS => ?_)
  refine lv_if_eq (tgt := 179) hx hb dL_law_172 (by decide) (fun c4 => absurd c4 (by decide)) (fun c4 => ?_)
  refine lv_iconst (v := (1 : Int32)) hx hb dL_law_175 (by decide) ?_
  refine lv_goto (tgt := 180) hx hb dL_law_176 (by decide) ?_
  refine lv_istore_n (lv' := [(3, .int 1), (7, .int r0), (6, .int (iI (y : Nat))), (5, .int (iI (x : Nat))), (0, .ref b), (1, .ref (a1.1 0)), (2, .ref (a2.1 0)), (4, .int (iI (k : Nat)))]) hx hb dL_law_180 rfl hl (by decide) rfl (fun ls hl => ?_)
  refine lv_iinc (v := iI (k + 1 : Nat)) (lv' := [(4, .int (iI (k + 1 : Nat))), (3, .int 1), (7, .int r0), (6, .int (iI (y : Nat))), (5, .int (iI (x : Nat))), (0, .ref b), (1, .ref (a1.1 0)), (2, .ref (a2.1 0))]) hx hb dL_law_181 hl (k := 7) rfl (iI_p1 k) (by decide) rfl (fun ls hl => ?_)
  refine lv_goto (tgt := 24) hx hb dL_law_184 (by decide) ?_
  exact ih sp8 sq8 hj8 H locs hP hD hS ls (lv_sub hl [5, 6, 7, 1, 0] rfl)
theorem lk_all {p : Program} {l : Launch} {e : Env} {s : State} {m : MethodId} {below : List Frame} {meth : Method} {c : Code} {b : Nat} {D : va_G} {cI cJ cZ cQ : ClassId} {a1 a2 : AB} {L : Nat} {xs : Nat → Int32} (hL : L < 1000) (C0 : lwc p s m meth c b L xs D cI cJ cZ cQ) : ∀ (d k : Nat), k + d = 8 → LK p l e s m below meth c b D cI cJ cZ cQ a1 a2 24 k := by
  intro d
  induction d with
  | zero =>
    intro k hk sp sq hj H locs hP hD hS ls hl
    obtain ⟨⟨hx, hb, hr, hml, hown0, hts, hX, hbl, hlocks, hgv⟩, hK, hN⟩ := id C0
    refine lv_iload hx hb dL_law_24 (lv_at hl 4 rfl) ?_
    refine lv_bipush (v := (8 : Int32)) hx hb dL_law_26 (by decide) ?_
    refine lv_icmp_ge (tgt := 187) hx hb dL_law_28 (by decide) (fun c1 => ?_) (fun c1 => absurd (show (8 : Int32) ≤ iI (k : Nat) by rw [show (8 : Int32) = iI 8 from rfl, iI_le] <;> omega) c1)
    refine lv_iload_n hx hb dL_law_187 rfl (lv_at hl 3 rfl) ?_
    refine va_forget (fun q hq => hS.2.2 q hq) ?_
    refine W.widen (k := 600000) (n := 7302249) (Nat.le_of_ble_eq_true rfl) (Nat.le_of_ble_eq_true rfl) ?_
    exact lw_ret hx hb hr hlocks dL_law_188
  | succ d ih =>
    intro k hk
    exact lk_step hL C0 (by omega) (ih (k + 1) (by omega))
