def st0 : ST := ((0 : Int32), (0 : Int32), (0 : Int32), (fun _ => 0), (fun _ => 0), (fun _ => 0), (fun _ => 0), (fun _ => 0), (0 : Int32), (fun _ => 0), (0 : Int32), (fun _ => 0), (fun _ => 0), (fun _ => 0), (0 : Int32), (0 : Int32), (0 : Int32), (1 : Int32), (fun _ => 0), (fun _ => 0), (fun _ => 0), (0 : Int32), (fun _ => 0), (fun _ => 0), (fun _ => 0), (-1 : Int32), (0 : Int32), (fun _ => 0), (fun _ => 0), (fun _ => 0), (fun _ => z4), (fun _ => z4))
theorem J0 : J st0 st0 := ⟨(0, fun _ => 0, fun _ => 0, 0, fun _ => 0, fun _ => 0, fun _ => 0, 0, fun _ => 0, fun _ => 0, fun _ => 0), inv0_IV, inv0_IV⟩
set_option maxRecDepth 20000 in
theorem pm_init (cI cJ cZ cQ : ClassId) (u_x u_x_text u_x_text_characters u_x_sites u_x_sites_x u_x_sites_y u_x_sites_w u_x_planes u_x_planes_a u_x_planes_b u_x_planes_c u_x_cell u_x_cell_x u_x_cell_y u_x_cell_d u_x_trial u_x_trial_sites u_x_trial_sites_x u_x_trial_sites_y u_x_trial_sites_w u_x_history u_x_slots u_x_slotFilled u_x_seenX u_x_seenY u_x_seenOwner u_x_pointsByWeight : Nat) (u_h14 u_h2 : Nat → A4) : ([(u_x_trial_sites, .inr (4, [.ref u_x_trial_sites_x, .ref u_x_trial_sites_y, .ref u_x_trial_sites_w, .int (0 : Int32)])), (u_x_trial_sites_x, .inl (cI, (10, .inl (fun _ => 0)))), (u_x_trial_sites_y, .inl (cI, (10, .inl (fun _ => 0)))), (u_x_trial_sites_w, .inl (cI, (10, .inl (fun _ => 0)))), (u_x_trial, .inr (2, [.ref u_x_cell, .ref u_x_trial_sites, .int (-1 : Int32)])), (u_x_cell, .inr (0, [.ref u_x_planes, .ref u_x_cell_x, .ref u_x_cell_y, .ref u_x_cell_d, .int (0 : Int32)])), (u_x_cell_x, .inl (cI, (14, .inl (fun _ => 0)))), (u_x_cell_y, .inl (cI, (14, .inl (fun _ => 0)))), (u_x_cell_d, .inl (cI, (14, .inl (fun _ => 0)))), (u_x_planes, .inr (1, [.ref u_x_planes_a, .ref u_x_planes_b, .ref u_x_planes_c, .int (0 : Int32), .int (0 : Int32), .int (0 : Int32), .int (1 : Int32)])), (u_x_planes_a, .inl (cI, (14, .inl (fun _ => 0)))), (u_x_planes_b, .inl (cI, (14, .inl (fun _ => 0)))), (u_x_planes_c, .inl (cI, (14, .inl (fun _ => 0)))), (u_x_sites, .inr (4, [.ref u_x_sites_x, .ref u_x_sites_y, .ref u_x_sites_w, .int (0 : Int32)])), (u_x_sites_x, .inl (cI, (10, .inl (fun _ => 0)))), (u_x_sites_y, .inl (cI, (10, .inl (fun _ => 0)))), (u_x_sites_w, .inl (cI, (10, .inl (fun _ => 0)))), (u_x_text, .inr (3, [.ref u_x_text_characters, .int (0 : Int32)])), (u_x_text_characters, .inl (cI, (80, .inl (fun _ => 0)))), (u_x, .inr (5, [.ref u_x_text, .ref u_x_sites, .ref u_x_planes, .ref u_x_cell, .ref u_x_trial, .ref u_x_history, .int (0 : Int32), .int (0 : Int32), .ref u_x_slots, .ref u_x_slotFilled, .ref u_x_seenX, .ref u_x_seenY, .ref u_x_seenOwner, .int (0 : Int32), .ref u_x_pointsByWeight])), (u_x_history, .inl (cQ, 14, .inr (.inr (.inr (.inr (refF u_h14 14)))))), (u_x_slots, .inl (cQ, 2, .inr (.inr (.inr (.inr (refF u_h2 2)))))), (u_x_slotFilled, .inl (cZ, (2, .inl (fun _ => 0)))), (u_x_seenX, .inl (cI, (6, .inl (fun _ => 0)))), (u_x_seenY, .inl (cI, (6, .inl (fun _ => 0)))), (u_x_seenOwner, .inl (cI, (6, .inl (fun _ => 0)))), (u_x_pointsByWeight, .inl (cI, (401, .inl (fun _ => 0))))] ++ (([] ++ rowW cI u_h14 (fun _ => z4) 14) ++ rowW cI u_h2 (fun _ => z4) 2)).Perm (wB cI cJ cZ cQ ((fun k => match k with | 0 => u_x | 1 => u_x_history | 2 => u_x_slots | 3 => u_x_slotFilled | 4 => u_x_seenX | 5 => u_x_seenY | 6 => u_x_seenOwner | 7 => u_x_pointsByWeight | 8 => u_x_text | 9 => u_x_text_characters | 10 => u_x_sites | 11 => u_x_sites_x | 12 => u_x_sites_y | 13 => u_x_sites_w | 14 => u_x_planes | 15 => u_x_planes_a | 16 => u_x_planes_b | 17 => u_x_planes_c | 18 => u_x_cell | 19 => u_x_cell_x | 20 => u_x_cell_y | 21 => u_x_cell_d | 22 => u_x_trial | 23 => u_x_trial_sites | 24 => u_x_trial_sites_x | 25 => u_x_trial_sites_y | 26 => u_x_trial_sites_w | _ => 0), u_h14, u_h2) st0) := perm_idx 27 rfl [19, 20, 21, 22, 23, 24, 25, 26, 17, 18, 13, 14, 15, 16, 9, 10, 11, 12, 5, 6, 7, 8, 4, 0, 1, 2, 3] [] (by decide) rfl rfl
set_option maxHeartbeats 4000000 in
set_option maxRecDepth 100000 in
/-- YOUR PART: from the entry, for every script of at most 260 ints, the law comes to its end with true -/
theorem whole_start {p : Program} {e : Env} {s : State} {m : MethodId} {below : List Frame} {meth : Method} {c : Code} (l : Launch) (hflags : l.flags = flags0) {b L : Nat} {xs : Nat → Int32} (hL : L ≤ 260) (C0 : lw_At p s m meth c b L xs) : W p l e room_1 s m #[Value.ref b] below meth c s.heap [] 0 0 (lw_Z below #[Value.ref b] s) (entryFrame m ([Value.ref b] : List Value).toArray 8) := by
  obtain ⟨hx, hb, hr, hml, hown0, hts, hX, hbl, hlocks, hgv⟩ := id C0
  have hown : s.vm.findClass RL = some m.cls := hown0
  have htl : ∀ w ∈ wsL_law, w.before #[Value.ref b] s = true := fun w h => hts w (wsL_law_in w h)
  have hA : ∀ q : Nat, s.heap.size ≤ q → (fun q : Nat => s.heap.size ≤ q) q := fun _ h => h
  obtain ⟨c0, i0, hKn0⟩ := u_known (C := RX0) (T := TX0) (N := 5) (n := 5) htl inlX0 (htl (.instantiable RX0 5) (List.mem_of_getElem? (i := 22) rfl))
  obtain ⟨c1, i1, hKn1⟩ := u_known (C := RX1) (T := TX1) (N := 7) (n := 7) htl inlX1 (htl (.instantiable RX1 7) (List.mem_of_getElem? (i := 18) rfl))
  obtain ⟨c2, i2, hKn2⟩ := u_known (C := RX2) (T := TX2) (N := 3) (n := 3) htl inlX2 (htl (.instantiable RX2 3) (List.mem_of_getElem? (i := 26) rfl))
  obtain ⟨c3, i3, hKn3⟩ := u_known (C := RX3) (T := TX3) (N := 2) (n := 2) htl inlX3 (htl (.instantiable RX3 2) (List.mem_of_getElem? (i := 10) rfl))
  obtain ⟨c4, i4, hKn4⟩ := u_known (C := RX4) (T := TX4) (N := 4) (n := 4) htl inlX4 (htl (.instantiable RX4 4) (List.mem_of_getElem? (i := 14) rfl))
  obtain ⟨c5, i5, hKn5⟩ := u_known (C := RX5) (T := TX5) (N := 15) (n := 15) htl inlX5 (htl (.instantiable RX5 15) (List.mem_of_getElem? (i := 1) rfl))
  obtain ⟨cI, kI, pI, fI1, fI2, fI3⟩ := Cond.arrayClass_spec (htl (.arrayClass .int) (List.mem_of_getElem? (i := 35) rfl))
  obtain ⟨cZ, kZ, pZ, fZ1, fZ2, fZ3⟩ := Cond.arrayClass_spec (htl (.arrayClass .boolean) (List.mem_of_getElem? (i := 33) rfl))
  obtain ⟨cJ, ecJ⟩ : ∃ z, z = cI := ⟨_, rfl⟩
  have hAO : (Cond.arrayOver (.object "PowerDiagram$Sites")).before #[Value.ref b] s = true := hts _ mem_ao
  obtain ⟨pQ, cQ, kQ, fQ1, fQ2, fQ3, fQ4, fQ5⟩ := Cond.arrayOver_spec hAO
  obtain ⟨dC, dI, hKc⟩ : ∃ (dC : Nat → ClassId) (dI : Nat → Nat → Nat), ∀ (k : Nat) (q : vw_C), vwCl[k]? = some q → u_Kn s q.1 q.2.1 q.2.2 (dC k) (dI k) := by
    refine ⟨fun k => match k with | 0 => c0 | 1 => c1 | 2 => c2 | 3 => c3 | 4 => c4 | _ => c5, fun k => match k with | 0 => i0 | 1 => i1 | 2 => i2 | 3 => i3 | 4 => i4 | _ => i5, ?_⟩
    intro k q hq
    match k, hq with
    | 0, hq => cases hq; exact hKn0
    | 1, hq => cases hq; exact hKn1
    | 2, hq => cases hq; exact hKn2
    | 3, hq => cases hq; exact hKn3
    | 4, hq => cases hq; exact hKn4
    | 5, hq => cases hq; exact hKn5
    | k + 6, hq => simp [vwCl] at hq
  have hK : va_K (dC, dI) vwCl (tys4 cI cJ cZ cQ) s := by
    subst ecJ
    refine ⟨hKc, fun k q hq => ?_⟩
    match k, hq with
    | 0, hq => cases hq; exact ⟨fun n z => ⟨fun k h => (by cases h), kI, fI2, pI, fI3⟩, fI1⟩
    | 1, hq => cases hq; exact ⟨fun n z => ⟨fun k h => (by cases h), kI, fI2, pI, fI3⟩, fI1⟩
    | 2, hq => cases hq; exact ⟨fun n z => ⟨fun k h => (by cases h), kZ, fZ2, pZ, fZ3⟩, fZ1⟩
    | 3, hq => cases hq; exact ⟨fun n z => ⟨fun k h => (by cases h), kQ, fQ3, pQ, fQ4⟩, kQ, pQ, fQ3, fQ4, fQ1, fQ5⟩
    | k + 4, hq => simp [tys4] at hq
  have hN : nest s := ⟨va_Nw.of rfl (hts (.methodLinkNest RX2 58 yX5_isWeight "PowerDiagram") mem_n1), va_Nw.of rfl (hts (.methodLinkNest RX2 65 yX5_inSquare "PowerDiagram") mem_n2), va_AO.of hAO⟩
  have hS : va_S (fun q : Nat => s.heap.size ≤ q) s.heap s.heap [] := va_S.rf
  have hP : va_P (dC, dI) vwCl [] s.heap := fun k q h => by simp at h
  have hD : va_D (fun q : Nat => s.heap.size ≤ q) [] := ⟨fun i j p q h => by simp at h, fun k q h => by simp at h⟩
  have hl := lv_entry ([.ref b]) (n := 8) (Nat.le_of_ble_eq_true rfl)
  rw [lg_entry_eq]
  replace hl : lv_has _ 8 [(0, .ref b)] := hl
  refine va_new (ci := 5) (fs := [.null, .null, .null, .null, .null, .null, .int 0, .int 0, .null, .null, .null, .null, .null, .int 0, .null]) (C := RX5) (T := TX5) (N := 15) (ws := []) hx hb htl inlX5 tyX5 tyX5_ok hown (htl (.classLink RL 10 RX5) (List.mem_of_getElem? (i := 0) rfl)) (htl (.instantiable RX5 15) (List.mem_of_getElem? (i := 1) rfl)) (htl (.initialized RX5) (List.mem_of_getElem? (i := 2) rfl)) hK hP hD hS hA rfl (fun j hj => match j, hj with | 0, _ => rfl | 1, _ => rfl | 2, _ => rfl | 3, _ => rfl | 4, _ => rfl | 5, _ => rfl | 6, _ => rfl | 7, _ => rfl | 8, _ => rfl | 9, _ => rfl | 10, _ => rfl | 11, _ => rfl | 12, _ => rfl | 13, _ => rfl | 14, _ => rfl | (j + 15), h => absurd h (by omega)) (Nat.le_of_ble_eq_true rfl) (Nat.le_of_ble_eq_true rfl) dL_law_0 (fun v_x H hP hD hS => ?_)
  refine lv_dup hx hb dL_law_3 rfl ?_
  refine callC (As := []) (rest := [.ref v_x]) (WW := [(v_x, .inr (5, [.null, .null, .null, .null, .null, .null, .int 0, .int 0, .null, .null, .null, .null, .null, .int 0, .null]))]) (wr := []) hx hb hml hown htl hK hN (c_X5_init l (dC, dI) cI cJ cZ cQ v_x) (cwI 0 htl gL_law_X5_init rfl rfl rfl (htl (.initialized RX5) (List.mem_of_getElem? (i := 2) rfl)) (htl (.methodLink RL 143 yX5_init) (List.mem_of_getElem? (i := 3) rfl)) (htl (.instanceMethod yX5_init) (List.mem_of_getElem? (i := 4) rfl)) rfl (by decide +kernel) ⟨Nat.le_of_ble_eq_true rfl, Nat.le_of_ble_eq_true rfl⟩) hP hD hS hA (List.Perm.refl _) rfl hl (Nat.le_of_ble_eq_true rfl) dL_law_4 ⟨Nat.le_of_ble_eq_true rfl, Nat.le_of_ble_eq_true rfl⟩ rfl (fun u H locs hP hD hS => ?_)
  obtain ⟨v_x_text, v_x_text_characters, v_x_sites, v_x_sites_x, v_x_sites_y, v_x_sites_w, v_x_planes, v_x_planes_a, v_x_planes_b, v_x_planes_c, v_x_cell, v_x_cell_x, v_x_cell_y, v_x_cell_d, v_x_trial, v_x_trial_sites, v_x_trial_sites_x, v_x_trial_sites_y, v_x_trial_sites_w, v_x_history, v_h14, v_x_slots, v_h2, v_x_slotFilled, v_x_seenX, v_x_seenY, v_x_seenOwner, v_x_pointsByWeight⟩ := u
  rw [List.append_nil] at hP hD
  have hpm := pm_init cI cJ cZ cQ v_x v_x_text v_x_text_characters v_x_sites v_x_sites_x v_x_sites_y v_x_sites_w v_x_planes v_x_planes_a v_x_planes_b v_x_planes_c v_x_cell v_x_cell_x v_x_cell_y v_x_cell_d v_x_trial v_x_trial_sites v_x_trial_sites_x v_x_trial_sites_y v_x_trial_sites_w v_x_history v_x_slots v_x_slotFilled v_x_seenX v_x_seenY v_x_seenOwner v_x_pointsByWeight v_h14 v_h2
  replace hP := va_P_perm hpm hP
  replace hD := va_D_perm hpm hD
  generalize ea1 : (((fun k => match k with | 0 => v_x | 1 => v_x_history | 2 => v_x_slots | 3 => v_x_slotFilled | 4 => v_x_seenX | 5 => v_x_seenY | 6 => v_x_seenOwner | 7 => v_x_pointsByWeight | 8 => v_x_text | 9 => v_x_text_characters | 10 => v_x_sites | 11 => v_x_sites_x | 12 => v_x_sites_y | 13 => v_x_sites_w | 14 => v_x_planes | 15 => v_x_planes_a | 16 => v_x_planes_b | 17 => v_x_planes_c | 18 => v_x_cell | 19 => v_x_cell_x | 20 => v_x_cell_y | 21 => v_x_cell_d | 22 => v_x_trial | 23 => v_x_trial_sites | 24 => v_x_trial_sites_x | 25 => v_x_trial_sites_y | 26 => v_x_trial_sites_w | _ => 0), v_h14, v_h2) : AB) = a1 at hP hD
  have ex1 : v_x = a1.1 0 := by rw [← ea1]
  refine lv_astore_n (lv' := [(1, .ref v_x), (0, .ref b)]) hx hb dL_law_7 rfl hl (by decide) rfl (fun ls hl => ?_)
  refine va_new (ci := 5) (fs := [.null, .null, .null, .null, .null, .null, .int 0, .int 0, .null, .null, .null, .null, .null, .int 0, .null]) (C := RX5) (T := TX5) (N := 15) (ws := (wB cI cJ cZ cQ a1 st0)) hx hb htl inlX5 tyX5 tyX5_ok hown (htl (.classLink RL 10 RX5) (List.mem_of_getElem? (i := 0) rfl)) (htl (.instantiable RX5 15) (List.mem_of_getElem? (i := 1) rfl)) (htl (.initialized RX5) (List.mem_of_getElem? (i := 2) rfl)) hK hP hD hS hA rfl (fun j hj => match j, hj with | 0, _ => rfl | 1, _ => rfl | 2, _ => rfl | 3, _ => rfl | 4, _ => rfl | 5, _ => rfl | 6, _ => rfl | 7, _ => rfl | 8, _ => rfl | 9, _ => rfl | 10, _ => rfl | 11, _ => rfl | 12, _ => rfl | 13, _ => rfl | 14, _ => rfl | (j + 15), h => absurd h (by omega)) (Nat.le_of_ble_eq_true rfl) (Nat.le_of_ble_eq_true rfl) dL_law_8 (fun w_x H hP hD hS => ?_)
  refine lv_dup hx hb dL_law_11 rfl ?_
  refine callC (As := []) (rest := [.ref w_x]) (WW := (wB cI cJ cZ cQ a1 st0 ++ [(w_x, .inr (5, [.null, .null, .null, .null, .null, .null, .int 0, .int 0, .null, .null, .null, .null, .null, .int 0, .null]))])) (wr := (wB cI cJ cZ cQ a1 st0)) hx hb hml hown htl hK hN (c_X5_init l (dC, dI) cI cJ cZ cQ w_x) (cwI 0 htl gL_law_X5_init rfl rfl rfl (htl (.initialized RX5) (List.mem_of_getElem? (i := 2) rfl)) (htl (.methodLink RL 143 yX5_init) (List.mem_of_getElem? (i := 3) rfl)) (htl (.instanceMethod yX5_init) (List.mem_of_getElem? (i := 4) rfl)) rfl (by decide +kernel) ⟨Nat.le_of_ble_eq_true rfl, Nat.le_of_ble_eq_true rfl⟩) hP hD hS hA List.perm_append_comm rfl hl (Nat.le_of_ble_eq_true rfl) dL_law_12 ⟨Nat.le_of_ble_eq_true rfl, Nat.le_of_ble_eq_true rfl⟩ rfl (fun u H locs hP hD hS => ?_)
  obtain ⟨w_x_text, w_x_text_characters, w_x_sites, w_x_sites_x, w_x_sites_y, w_x_sites_w, w_x_planes, w_x_planes_a, w_x_planes_b, w_x_planes_c, w_x_cell, w_x_cell_x, w_x_cell_y, w_x_cell_d, w_x_trial, w_x_trial_sites, w_x_trial_sites_x, w_x_trial_sites_y, w_x_trial_sites_w, w_x_history, w_h14, w_x_slots, w_h2, w_x_slotFilled, w_x_seenX, w_x_seenY, w_x_seenOwner, w_x_pointsByWeight⟩ := u
  have hpm2 := ((pm_init cI cJ cZ cQ w_x w_x_text w_x_text_characters w_x_sites w_x_sites_x w_x_sites_y w_x_sites_w w_x_planes w_x_planes_a w_x_planes_b w_x_planes_c w_x_cell w_x_cell_x w_x_cell_y w_x_cell_d w_x_trial w_x_trial_sites w_x_trial_sites_x w_x_trial_sites_y w_x_trial_sites_w w_x_history w_x_slots w_x_slotFilled w_x_seenX w_x_seenY w_x_seenOwner w_x_pointsByWeight w_h14 w_h2).append_right (wB cI cJ cZ cQ a1 st0)).trans List.perm_append_comm
  replace hP := va_P_perm hpm2 hP
  replace hD := va_D_perm hpm2 hD
  generalize ea2 : (((fun k => match k with | 0 => w_x | 1 => w_x_history | 2 => w_x_slots | 3 => w_x_slotFilled | 4 => w_x_seenX | 5 => w_x_seenY | 6 => w_x_seenOwner | 7 => w_x_pointsByWeight | 8 => w_x_text | 9 => w_x_text_characters | 10 => w_x_sites | 11 => w_x_sites_x | 12 => w_x_sites_y | 13 => w_x_sites_w | 14 => w_x_planes | 15 => w_x_planes_a | 16 => w_x_planes_b | 17 => w_x_planes_c | 18 => w_x_cell | 19 => w_x_cell_x | 20 => w_x_cell_y | 21 => w_x_cell_d | 22 => w_x_trial | 23 => w_x_trial_sites | 24 => w_x_trial_sites_x | 25 => w_x_trial_sites_y | 26 => w_x_trial_sites_w | _ => 0), w_h14, w_h2) : AB) = a2 at hP hD
  have ex2 : w_x = a2.1 0 := by rw [← ea2]
  refine lv_astore_n (lv' := [(2, .ref w_x), (1, .ref v_x), (0, .ref b)]) hx hb dL_law_15 rfl hl (by decide) rfl (fun ls hl => ?_)
  rw [ex1, ex2] at hl
  clear hpm hpm2
  obtain ⟨⟨cc, X, Y, W, gp, gq⟩, -, -⟩ := J_has J0
  obtain ⟨sq1, k1, f1⟩ := l_rejects gq
  refine lv_aload_n hx hb dL_law_16 rfl (lv_at hl 0 rfl) ?_
  refine callSI (As := [.ref (a2.1 0)]) (rest := []) (wr := wB cI cJ cZ cQ a1 st0) (WB := (wB cI cJ cZ cQ a1 st0 ++ wB cI cJ cZ cQ a2 sq1)) hx hb hml hown htl hK hN (c_L_rejects l (dC, dI) cI cJ cZ cQ a2 st0 f1) (va_cwS 1 htl gL_law_L_rejects rfl rfl rfl e_L_rejects ⟨Nat.le_of_ble_eq_true rfl, Nat.le_of_ble_eq_true rfl⟩) hP hD hS hA List.perm_append_comm List.perm_append_comm rfl hl (Nat.le_of_ble_eq_true rfl) dL_law_17 ⟨Nat.le_of_ble_eq_true rfl, Nat.le_of_ble_eq_true rfl⟩ rfl (fun H locs hP hD hS => ?_)
  refine lv_istore_n (lv' := [(3, .int 1), (2, .ref (a2.1 0)), (1, .ref (a1.1 0)), (0, .ref b)]) hx hb dL_law_20 rfl hl (by decide) rfl (fun ls hl => ?_)
  refine lv_iconst (v := (0 : Int32)) hx hb dL_law_21 (by decide) ?_
  refine lv_istore (lv' := [(4, .int (iI (0 : Nat))), (3, .int 1), (2, .ref (a2.1 0)), (1, .ref (a1.1 0)), (0, .ref b)]) hx hb dL_law_22 hl (by decide) rfl (fun ls hl => ?_)
  exact W.widen (k := 182) (n := 2490) (Nat.le_of_ble_eq_true rfl) (Nat.le_of_ble_eq_true rfl) (lk_all (by omega) ⟨C0, hK, hN⟩ 8 0 (by omega) st0 sq1 (J_E J0 k1) H locs hP hD hS ls (lv_sub hl [4, 3, 2, 1, 0] rfl))
