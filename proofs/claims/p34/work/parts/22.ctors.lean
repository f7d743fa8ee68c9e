theorem perm_idxN {E W0 wr : va_W} (n : Nat) (hn : E.length = n) (isC isR : List Nat) (hp : (isC ++ isR).Perm (List.range n)) (hC : isC.map (fun i => E[i]?) = W0.map some) (hR : isR.map (fun i => E[i]?) = wr.map some) : E.Perm (W0 ++ wr) := by
  have := perm_idx (T := []) n hn isC isR hp hC hR
  rwa [List.append_nil, List.append_nil] at this
theorem iw_X4_init_4 : ∀ w ∈ wsX40, w ∈ wsX4_init := fun _ h => List.mem_cons_of_mem _ (List.mem_append_right _ h)
def w1_X4_init (cI cJ cZ cQ : ClassId) (a_t : Nat) (u : Nat × Nat × Nat) : va_W := [(a_t, .inr (4, [.ref u.1, .ref u.2.1, .ref u.2.2, .int (0 : Int32)])), (u.1, .inl (cI, (10, .inl (fun _ => 0)))), (u.2.1, .inl (cI, (10, .inl (fun _ => 0)))), (u.2.2, .inl (cI, (10, .inl (fun _ => 0))))]
abbrev rm_X4_init : Room := { frames := 1, cells := 3, slots := 30, locals := 12 }
set_option maxHeartbeats 4000000 in
set_option maxRecDepth 100000 in
theorem c_X4_init (l : Launch) (D : va_G) (cI cJ cZ cQ : ClassId) (a_t : Nat) : MetN l D (tys4 cI cJ cZ cQ) yX4_init wsX4_init rm_X4_init [.ref a_t] [(a_t, .inr (4, [.null, .null, .null, .int 0]))] (w1_X4_init cI cJ cZ cQ a_t) 3 30 := by
  intro sz
  refine metWN (own := RX4) (cc := cX4_init) (nL := 1) (ret := none) (Qc := fun A => va_Qv (fun _ : Nat × Nat × Nat => True) (fun u => cB D (tys4 cI cJ cZ cQ) ((w1_X4_init cI cJ cZ cQ a_t) u) A ()) A) (by decide) rfl rfl (Nat.le_of_ble_eq_true rfl) (fun p e s m args below meth c A hC hin hP hD hS ls hl => ?_) sz
  obtain ⟨hx, hb, hr, hml, hown, hts, hlocks, hA, hK, hN⟩ := id hC
  replace hl : lv_has ls 1 [(0, .ref a_t)] := hl
  refine lv_aload_n hx hb dX4_init_0 rfl (lv_at hl 0 rfl) ?_
  refine W.objInit hx hb hown (hts (.methodLink RX4 3 objectInit) (List.mem_of_getElem? (i := 1) rfl)) (hts (.instanceMethod objectInit) (List.mem_of_getElem? (i := 2) rfl)) (hts _ (List.mem_of_getElem? (i := 3) rfl)) rfl (by rw [hml]; exact hl.1) rfl dX4_init_1 (Nat.le_of_ble_eq_true rfl) (Nat.le_of_ble_eq_true rfl) ?_
  refine W.eq (g2 := F0 m 4 ls []) rfl ?_
  refine lv_aload_n hx hb dX4_init_4 rfl (lv_at hl 0 rfl) ?_
  refine lv_bipush (v := (10 : Int32)) hx hb dX4_init_5 (by decide) ?_
  refine newA (atype := .int) (WW := [(a_t, .inr (4, [.null, .null, .null, .int 0]))]) (a0 := (10, .inl (fun _ => 0))) (ty := .int) hx hb (hts (.arrayClass .int) (List.mem_of_getElem? (i := 4) rfl)) rfl (fun c1 c2 h1 h2 => Option.some.inj (h1.symm.trans h2)) hK 0 rfl hP hD hS hA (fun _ => rfl) (by decide) (N' := 10) (by decide) (Nat.le_of_ble_eq_true rfl) (Nat.le_of_ble_eq_true rfl) (Nat.le_of_ble_eq_true rfl) dX4_init_7 (fun q1 H hP hD hS => ?_)
  have hP : va_P D vwCl [(a_t, .inr (4, [.null, .null, .null, .int 0])), (q1, .inl (cI, (10, .inl (fun _ => 0))))] H := hP
  have hD : va_D A [(a_t, .inr (4, [.null, .null, .null, .int 0])), (q1, .inl (cI, (10, .inl (fun _ => 0))))] := hD
  refine va_putF (D := D) (ci := 4) (v := .ref q1) (ty := .array .int) (C := RX4) (T := TX4) (N := 4) (ws := [(a_t, .inr (4, [.null, .null, .null, .int 0])), (q1, .inl (cI, (10, .inl (fun _ => 0))))]) hx hb hts iw_X4_init_4 tyX4 tyX4_ok nmX4 hown hK hP hD hS 0 rfl rfl 0 (by decide) (hts (.fieldLink RX4 9 "PowerDiagram$Sites" "x" "[I") (List.mem_of_getElem? (i := 5) rfl)) (fun _ h9 => h9) rfl hin rfl (by decide +kernel) rfl rfl (Nat.le_of_ble_eq_true rfl) dX4_init_9 (fun H locs hP hD hS => ?_)
  have hP : va_P D vwCl [(a_t, .inr (4, [.ref q1, .null, .null, .int 0])), (q1, .inl (cI, (10, .inl (fun _ => 0))))] H := hP
  have hD : va_D A [(a_t, .inr (4, [.ref q1, .null, .null, .int 0])), (q1, .inl (cI, (10, .inl (fun _ => 0))))] := hD
  refine lv_aload_n hx hb dX4_init_12 rfl (lv_at hl 0 rfl) ?_
  refine lv_bipush (v := (10 : Int32)) hx hb dX4_init_13 (by decide) ?_
  refine newA (atype := .int) (WW := [(a_t, .inr (4, [.ref q1, .null, .null, .int 0])), (q1, .inl (cI, (10, .inl (fun _ => 0))))]) (a0 := (10, .inl (fun _ => 0))) (ty := .int) hx hb (hts (.arrayClass .int) (List.mem_of_getElem? (i := 4) rfl)) rfl (fun c1 c2 h1 h2 => Option.some.inj (h1.symm.trans h2)) hK 0 rfl hP hD hS hA (fun _ => rfl) (by decide) (N' := 10) (by decide) (Nat.le_of_ble_eq_true rfl) (Nat.le_of_ble_eq_true rfl) (Nat.le_of_ble_eq_true rfl) dX4_init_15 (fun q2 H hP hD hS => ?_)
  have hP : va_P D vwCl [(a_t, .inr (4, [.ref q1, .null, .null, .int 0])), (q1, .inl (cI, (10, .inl (fun _ => 0)))), (q2, .inl (cI, (10, .inl (fun _ => 0))))] H := hP
  have hD : va_D A [(a_t, .inr (4, [.ref q1, .null, .null, .int 0])), (q1, .inl (cI, (10, .inl (fun _ => 0)))), (q2, .inl (cI, (10, .inl (fun _ => 0))))] := hD
  refine va_putF (D := D) (ci := 4) (v := .ref q2) (ty := .array .int) (C := RX4) (T := TX4) (N := 4) (ws := [(a_t, .inr (4, [.ref q1, .null, .null, .int 0])), (q1, .inl (cI, (10, .inl (fun _ => 0)))), (q2, .inl (cI, (10, .inl (fun _ => 0))))]) hx hb hts iw_X4_init_4 tyX4 tyX4_ok nmX4 hown hK hP hD hS 0 rfl rfl 1 (by decide) (hts (.fieldLink RX4 15 "PowerDiagram$Sites" "y" "[I") (List.mem_of_getElem? (i := 6) rfl)) (fun _ h9 => h9) rfl hin rfl (by decide +kernel) rfl rfl (Nat.le_of_ble_eq_true rfl) dX4_init_17 (fun H locs hP hD hS => ?_)
  have hP : va_P D vwCl [(a_t, .inr (4, [.ref q1, .ref q2, .null, .int 0])), (q1, .inl (cI, (10, .inl (fun _ => 0)))), (q2, .inl (cI, (10, .inl (fun _ => 0))))] H := hP
  have hD : va_D A [(a_t, .inr (4, [.ref q1, .ref q2, .null, .int 0])), (q1, .inl (cI, (10, .inl (fun _ => 0)))), (q2, .inl (cI, (10, .inl (fun _ => 0))))] := hD
  refine lv_aload_n hx hb dX4_init_20 rfl (lv_at hl 0 rfl) ?_
  refine lv_bipush (v := (10 : Int32)) hx hb dX4_init_21 (by decide) ?_
  refine newA (atype := .int) (WW := [(a_t, .inr (4, [.ref q1, .ref q2, .null, .int 0])), (q1, .inl (cI, (10, .inl (fun _ => 0)))), (q2, .inl (cI, (10, .inl (fun _ => 0))))]) (a0 := (10, .inl (fun _ => 0))) (ty := .int) hx hb (hts (.arrayClass .int) (List.mem_of_getElem? (i := 4) rfl)) rfl (fun c1 c2 h1 h2 => Option.some.inj (h1.symm.trans h2)) hK 0 rfl hP hD hS hA (fun _ => rfl) (by decide) (N' := 10) (by decide) (Nat.le_of_ble_eq_true rfl) (Nat.le_of_ble_eq_true rfl) (Nat.le_of_ble_eq_true rfl) dX4_init_23 (fun q3 H hP hD hS => ?_)
  have hP : va_P D vwCl [(a_t, .inr (4, [.ref q1, .ref q2, .null, .int 0])), (q1, .inl (cI, (10, .inl (fun _ => 0)))), (q2, .inl (cI, (10, .inl (fun _ => 0)))), (q3, .inl (cI, (10, .inl (fun _ => 0))))] H := hP
  have hD : va_D A [(a_t, .inr (4, [.ref q1, .ref q2, .null, .int 0])), (q1, .inl (cI, (10, .inl (fun _ => 0)))), (q2, .inl (cI, (10, .inl (fun _ => 0)))), (q3, .inl (cI, (10, .inl (fun _ => 0))))] := hD
  refine va_putF (D := D) (ci := 4) (v := .ref q3) (ty := .array .int) (C := RX4) (T := TX4) (N := 4) (ws := [(a_t, .inr (4, [.ref q1, .ref q2, .null, .int 0])), (q1, .inl (cI, (10, .inl (fun _ => 0)))), (q2, .inl (cI, (10, .inl (fun _ => 0)))), (q3, .inl (cI, (10, .inl (fun _ => 0))))]) hx hb hts iw_X4_init_4 tyX4 tyX4_ok nmX4 hown hK hP hD hS 0 rfl rfl 2 (by decide) (hts (.fieldLink RX4 18 "PowerDiagram$Sites" "w" "[I") (List.mem_of_getElem? (i := 7) rfl)) (fun _ h9 => h9) rfl hin rfl (by decide +kernel) rfl rfl (Nat.le_of_ble_eq_true rfl) dX4_init_25 (fun H locs hP hD hS => ?_)
  have hP : va_P D vwCl [(a_t, .inr (4, [.ref q1, .ref q2, .ref q3, .int 0])), (q1, .inl (cI, (10, .inl (fun _ => 0)))), (q2, .inl (cI, (10, .inl (fun _ => 0)))), (q3, .inl (cI, (10, .inl (fun _ => 0))))] H := hP
  have hD : va_D A [(a_t, .inr (4, [.ref q1, .ref q2, .ref q3, .int 0])), (q1, .inl (cI, (10, .inl (fun _ => 0)))), (q2, .inl (cI, (10, .inl (fun _ => 0)))), (q3, .inl (cI, (10, .inl (fun _ => 0))))] := hD
  refine lv_aload_n hx hb dX4_init_28 rfl (lv_at hl 0 rfl) ?_
  refine lv_iconst (v := (0 : Int32)) hx hb dX4_init_29 (by decide) ?_
  refine va_put (D := D) (ci := 4) (v := .int (0 : Int32)) (ty := .int) (C := RX4) (T := TX4) (N := 4) (ws := [(a_t, .inr (4, [.ref q1, .ref q2, .ref q3, .int 0])), (q1, .inl (cI, (10, .inl (fun _ => 0)))), (q2, .inl (cI, (10, .inl (fun _ => 0)))), (q3, .inl (cI, (10, .inl (fun _ => 0))))]) hx hb hts iw_X4_init_4 tyX4 tyX4_ok nmX4 hown hK hP hD hS 0 rfl rfl 3 (by decide) (hts (.fieldLink RX4 21 "PowerDiagram$Sites" "count" "I") (List.mem_of_getElem? (i := 8) rfl)) (fun _ h9 => h9) rfl (by decide +kernel) rfl rfl (Nat.le_of_ble_eq_true rfl) dX4_init_30 (fun H locs hP hD hS => ?_)
  have hP : va_P D vwCl [(a_t, .inr (4, [.ref q1, .ref q2, .ref q3, .int (0 : Int32)])), (q1, .inl (cI, (10, .inl (fun _ => 0)))), (q2, .inl (cI, (10, .inl (fun _ => 0)))), (q3, .inl (cI, (10, .inl (fun _ => 0))))] H := hP
  have hD : va_D A [(a_t, .inr (4, [.ref q1, .ref q2, .ref q3, .int (0 : Int32)])), (q1, .inl (cI, (10, .inl (fun _ => 0)))), (q2, .inl (cI, (10, .inl (fun _ => 0)))), (q3, .inl (cI, (10, .inl (fun _ => 0))))] := hD
  exact endN hC (q1, q2, q3) hP hD hS dX4_init_33
theorem iw_X1_init_1 : ∀ w ∈ wsX10, w ∈ wsX1_init := fun _ h => List.mem_cons_of_mem _ (List.mem_append_right _ h)
def w1_X1_init (cI cJ cZ cQ : ClassId) (a_t : Nat) (u : Nat × Nat × Nat) : va_W := [(a_t, .inr (1, [.ref u.1, .ref u.2.1, .ref u.2.2, .int (0 : Int32), .int (0 : Int32), .int (0 : Int32), .int (1 : Int32)])), (u.1, .inl (cI, (14, .inl (fun _ => 0)))), (u.2.1, .inl (cI, (14, .inl (fun _ => 0)))), (u.2.2, .inl (cI, (14, .inl (fun _ => 0))))]
abbrev rm_X1_init : Room := { frames := 1, cells := 3, slots := 42, locals := 12 }
set_option maxHeartbeats 4000000 in
set_option maxRecDepth 100000 in
theorem c_X1_init (l : Launch) (D : va_G) (cI cJ cZ cQ : ClassId) (a_t : Nat) : MetN l D (tys4 cI cJ cZ cQ) yX1_init wsX1_init rm_X1_init [.ref a_t] [(a_t, .inr (1, [.null, .null, .null, .int 0, .int 0, .int 0, .int 0]))] (w1_X1_init cI cJ cZ cQ a_t) 3 42 := by
  intro sz
  refine metWN (own := RX1) (cc := cX1_init) (nL := 1) (ret := none) (Qc := fun A => va_Qv (fun _ : Nat × Nat × Nat => True) (fun u => cB D (tys4 cI cJ cZ cQ) ((w1_X1_init cI cJ cZ cQ a_t) u) A ()) A) (by decide) rfl rfl (Nat.le_of_ble_eq_true rfl) (fun p e s m args below meth c A hC hin hP hD hS ls hl => ?_) sz
  obtain ⟨hx, hb, hr, hml, hown, hts, hlocks, hA, hK, hN⟩ := id hC
  replace hl : lv_has ls 1 [(0, .ref a_t)] := hl
  refine lv_aload_n hx hb dX1_init_0 rfl (lv_at hl 0 rfl) ?_
  refine W.objInit hx hb hown (hts (.methodLink RX1 3 objectInit) (List.mem_of_getElem? (i := 1) rfl)) (hts (.instanceMethod objectInit) (List.mem_of_getElem? (i := 2) rfl)) (hts _ (List.mem_of_getElem? (i := 3) rfl)) rfl (by rw [hml]; exact hl.1) rfl dX1_init_1 (Nat.le_of_ble_eq_true rfl) (Nat.le_of_ble_eq_true rfl) ?_
  refine W.eq (g2 := F0 m 4 ls []) rfl ?_
  refine lv_aload_n hx hb dX1_init_4 rfl (lv_at hl 0 rfl) ?_
  refine lv_bipush (v := (14 : Int32)) hx hb dX1_init_5 (by decide) ?_
  refine newA (atype := .int) (WW := [(a_t, .inr (1, [.null, .null, .null, .int 0, .int 0, .int 0, .int 0]))]) (a0 := (14, .inl (fun _ => 0))) (ty := .int) hx hb (hts (.arrayClass .int) (List.mem_of_getElem? (i := 4) rfl)) rfl (fun c1 c2 h1 h2 => Option.some.inj (h1.symm.trans h2)) hK 0 rfl hP hD hS hA (fun _ => rfl) (by decide) (N' := 14) (by decide) (Nat.le_of_ble_eq_true rfl) (Nat.le_of_ble_eq_true rfl) (Nat.le_of_ble_eq_true rfl) dX1_init_7 (fun q1 H hP hD hS => ?_)
  have hP : va_P D vwCl [(a_t, .inr (1, [.null, .null, .null, .int 0, .int 0, .int 0, .int 0])), (q1, .inl (cI, (14, .inl (fun _ => 0))))] H := hP
  have hD : va_D A [(a_t, .inr (1, [.null, .null, .null, .int 0, .int 0, .int 0, .int 0])), (q1, .inl (cI, (14, .inl (fun _ => 0))))] := hD
  refine va_putF (D := D) (ci := 1) (v := .ref q1) (ty := .array .int) (C := RX1) (T := TX1) (N := 7) (ws := [(a_t, .inr (1, [.null, .null, .null, .int 0, .int 0, .int 0, .int 0])), (q1, .inl (cI, (14, .inl (fun _ => 0))))]) hx hb hts iw_X1_init_1 tyX1 tyX1_ok nmX1 hown hK hP hD hS 0 rfl rfl 0 (by decide) (hts (.fieldLink RX1 11 "PowerDiagram$HalfPlanes" "a" "[I") (List.mem_of_getElem? (i := 5) rfl)) (fun _ h9 => h9) rfl hin rfl (by decide +kernel) rfl rfl (Nat.le_of_ble_eq_true rfl) dX1_init_9 (fun H locs hP hD hS => ?_)
  have hP : va_P D vwCl [(a_t, .inr (1, [.ref q1, .null, .null, .int 0, .int 0, .int 0, .int 0])), (q1, .inl (cI, (14, .inl (fun _ => 0))))] H := hP
  have hD : va_D A [(a_t, .inr (1, [.ref q1, .null, .null, .int 0, .int 0, .int 0, .int 0])), (q1, .inl (cI, (14, .inl (fun _ => 0))))] := hD
  refine lv_aload_n hx hb dX1_init_12 rfl (lv_at hl 0 rfl) ?_
  refine lv_bipush (v := (14 : Int32)) hx hb dX1_init_13 (by decide) ?_
  refine newA (atype := .int) (WW := [(a_t, .inr (1, [.ref q1, .null, .null, .int 0, .int 0, .int 0, .int 0])), (q1, .inl (cI, (14, .inl (fun _ => 0))))]) (a0 := (14, .inl (fun _ => 0))) (ty := .int) hx hb (hts (.arrayClass .int) (List.mem_of_getElem? (i := 4) rfl)) rfl (fun c1 c2 h1 h2 => Option.some.inj (h1.symm.trans h2)) hK 0 rfl hP hD hS hA (fun _ => rfl) (by decide) (N' := 14) (by decide) (Nat.le_of_ble_eq_true rfl) (Nat.le_of_ble_eq_true rfl) (Nat.le_of_ble_eq_true rfl) dX1_init_15 (fun q2 H hP hD hS => ?_)
  have hP : va_P D vwCl [(a_t, .inr (1, [.ref q1, .null, .null, .int 0, .int 0, .int 0, .int 0])), (q1, .inl (cI, (14, .inl (fun _ => 0)))), (q2, .inl (cI, (14, .inl (fun _ => 0))))] H := hP
  have hD : va_D A [(a_t, .inr (1, [.ref q1, .null, .null, .int 0, .int 0, .int 0, .int 0])), (q1, .inl (cI, (14, .inl (fun _ => 0)))), (q2, .inl (cI, (14, .inl (fun _ => 0))))] := hD
  refine va_putF (D := D) (ci := 1) (v := .ref q2) (ty := .array .int) (C := RX1) (T := TX1) (N := 7) (ws := [(a_t, .inr (1, [.ref q1, .null, .null, .int 0, .int 0, .int 0, .int 0])), (q1, .inl (cI, (14, .inl (fun _ => 0)))), (q2, .inl (cI, (14, .inl (fun _ => 0))))]) hx hb hts iw_X1_init_1 tyX1 tyX1_ok nmX1 hown hK hP hD hS 0 rfl rfl 1 (by decide) (hts (.fieldLink RX1 15 "PowerDiagram$HalfPlanes" "b" "[I") (List.mem_of_getElem? (i := 6) rfl)) (fun _ h9 => h9) rfl hin rfl (by decide +kernel) rfl rfl (Nat.le_of_ble_eq_true rfl) dX1_init_17 (fun H locs hP hD hS => ?_)
  have hP : va_P D vwCl [(a_t, .inr (1, [.ref q1, .ref q2, .null, .int 0, .int 0, .int 0, .int 0])), (q1, .inl (cI, (14, .inl (fun _ => 0)))), (q2, .inl (cI, (14, .inl (fun _ => 0))))] H := hP
  have hD : va_D A [(a_t, .inr (1, [.ref q1, .ref q2, .null, .int 0, .int 0, .int 0, .int 0])), (q1, .inl (cI, (14, .inl (fun _ => 0)))), (q2, .inl (cI, (14, .inl (fun _ => 0))))] := hD
  refine lv_aload_n hx hb dX1_init_20 rfl (lv_at hl 0 rfl) ?_
  refine lv_bipush (v := (14 : Int32)) hx hb dX1_init_21 (by decide) ?_
  refine newA (atype := .int) (WW := [(a_t, .inr (1, [.ref q1, .ref q2, .null, .int 0, .int 0, .int 0, .int 0])), (q1, .inl (cI, (14, .inl (fun _ => 0)))), (q2, .inl (cI, (14, .inl (fun _ => 0))))]) (a0 := (14, .inl (fun _ => 0))) (ty := .int) hx hb (hts (.arrayClass .int) (List.mem_of_getElem? (i := 4) rfl)) rfl (fun c1 c2 h1 h2 => Option.some.inj (h1.symm.trans h2)) hK 0 rfl hP hD hS hA (fun _ => rfl) (by decide) (N' := 14) (by decide) (Nat.le_of_ble_eq_true rfl) (Nat.le_of_ble_eq_true rfl) (Nat.le_of_ble_eq_true rfl) dX1_init_23 (fun q3 H hP hD hS => ?_)
  have hP : va_P D vwCl [(a_t, .inr (1, [.ref q1, .ref q2, .null, .int 0, .int 0, .int 0, .int 0])), (q1, .inl (cI, (14, .inl (fun _ => 0)))), (q2, .inl (cI, (14, .inl (fun _ => 0)))), (q3, .inl (cI, (14, .inl (fun _ => 0))))] H := hP
  have hD : va_D A [(a_t, .inr (1, [.ref q1, .ref q2, .null, .int 0, .int 0, .int 0, .int 0])), (q1, .inl (cI, (14, .inl (fun _ => 0)))), (q2, .inl (cI, (14, .inl (fun _ => 0)))), (q3, .inl (cI, (14, .inl (fun _ => 0))))] := hD
  refine va_putF (D := D) (ci := 1) (v := .ref q3) (ty := .array .int) (C := RX1) (T := TX1) (N := 7) (ws := [(a_t, .inr (1, [.ref q1, .ref q2, .null, .int 0, .int 0, .int 0, .int 0])), (q1, .inl (cI, (14, .inl (fun _ => 0)))), (q2, .inl (cI, (14, .inl (fun _ => 0)))), (q3, .inl (cI, (14, .inl (fun _ => 0))))]) hx hb hts iw_X1_init_1 tyX1 tyX1_ok nmX1 hown hK hP hD hS 0 rfl rfl 2 (by decide) (hts (.fieldLink RX1 18 "PowerDiagram$HalfPlanes" "c" "[I") (List.mem_of_getElem? (i := 7) rfl)) (fun _ h9 => h9) rfl hin rfl (by decide +kernel) rfl rfl (Nat.le_of_ble_eq_true rfl) dX1_init_25 (fun H locs hP hD hS => ?_)
  have hP : va_P D vwCl [(a_t, .inr (1, [.ref q1, .ref q2, .ref q3, .int 0, .int 0, .int 0, .int 0])), (q1, .inl (cI, (14, .inl (fun _ => 0)))), (q2, .inl (cI, (14, .inl (fun _ => 0)))), (q3, .inl (cI, (14, .inl (fun _ => 0))))] H := hP
  have hD : va_D A [(a_t, .inr (1, [.ref q1, .ref q2, .ref q3, .int 0, .int 0, .int 0, .int 0])), (q1, .inl (cI, (14, .inl (fun _ => 0)))), (q2, .inl (cI, (14, .inl (fun _ => 0)))), (q3, .inl (cI, (14, .inl (fun _ => 0))))] := hD
  refine lv_aload_n hx hb dX1_init_28 rfl (lv_at hl 0 rfl) ?_
  refine lv_iconst (v := (0 : Int32)) hx hb dX1_init_29 (by decide) ?_
  refine va_put (D := D) (ci := 1) (v := .int (0 : Int32)) (ty := .int) (C := RX1) (T := TX1) (N := 7) (ws := [(a_t, .inr (1, [.ref q1, .ref q2, .ref q3, .int 0, .int 0, .int 0, .int 0])), (q1, .inl (cI, (14, .inl (fun _ => 0)))), (q2, .inl (cI, (14, .inl (fun _ => 0)))), (q3, .inl (cI, (14, .inl (fun _ => 0))))]) hx hb hts iw_X1_init_1 tyX1 tyX1_ok nmX1 hown hK hP hD hS 0 rfl rfl 3 (by decide) (hts (.fieldLink RX1 21 "PowerDiagram$HalfPlanes" "count" "I") (List.mem_of_getElem? (i := 8) rfl)) (fun _ h9 => h9) rfl (by decide +kernel) rfl rfl (Nat.le_of_ble_eq_true rfl) dX1_init_30 (fun H locs hP hD hS => ?_)
  have hP : va_P D vwCl [(a_t, .inr (1, [.ref q1, .ref q2, .ref q3, .int (0 : Int32), .int 0, .int 0, .int 0])), (q1, .inl (cI, (14, .inl (fun _ => 0)))), (q2, .inl (cI, (14, .inl (fun _ => 0)))), (q3, .inl (cI, (14, .inl (fun _ => 0))))] H := hP
  have hD : va_D A [(a_t, .inr (1, [.ref q1, .ref q2, .ref q3, .int (0 : Int32), .int 0, .int 0, .int 0])), (q1, .inl (cI, (14, .inl (fun _ => 0)))), (q2, .inl (cI, (14, .inl (fun _ => 0)))), (q3, .inl (cI, (14, .inl (fun _ => 0))))] := hD
  refine lv_aload_n hx hb dX1_init_33 rfl (lv_at hl 0 rfl) ?_
  refine lv_iconst (v := (0 : Int32)) hx hb dX1_init_34 (by decide) ?_
  refine va_put (D := D) (ci := 1) (v := .int (0 : Int32)) (ty := .int) (C := RX1) (T := TX1) (N := 7) (ws := [(a_t, .inr (1, [.ref q1, .ref q2, .ref q3, .int (0 : Int32), .int 0, .int 0, .int 0])), (q1, .inl (cI, (14, .inl (fun _ => 0)))), (q2, .inl (cI, (14, .inl (fun _ => 0)))), (q3, .inl (cI, (14, .inl (fun _ => 0))))]) hx hb hts iw_X1_init_1 tyX1 tyX1_ok nmX1 hown hK hP hD hS 0 rfl rfl 4 (by decide) (hts (.fieldLink RX1 25 "PowerDiagram$HalfPlanes" "meetX" "I") (List.mem_of_getElem? (i := 9) rfl)) (fun _ h9 => h9) rfl (by decide +kernel) rfl rfl (Nat.le_of_ble_eq_true rfl) dX1_init_35 (fun H locs hP hD hS => ?_)
  have hP : va_P D vwCl [(a_t, .inr (1, [.ref q1, .ref q2, .ref q3, .int (0 : Int32), .int (0 : Int32), .int 0, .int 0])), (q1, .inl (cI, (14, .inl (fun _ => 0)))), (q2, .inl (cI, (14, .inl (fun _ => 0)))), (q3, .inl (cI, (14, .inl (fun _ => 0))))] H := hP
  have hD : va_D A [(a_t, .inr (1, [.ref q1, .ref q2, .ref q3, .int (0 : Int32), .int (0 : Int32), .int 0, .int 0])), (q1, .inl (cI, (14, .inl (fun _ => 0)))), (q2, .inl (cI, (14, .inl (fun _ => 0)))), (q3, .inl (cI, (14, .inl (fun _ => 0))))] := hD
  refine lv_aload_n hx hb dX1_init_38 rfl (lv_at hl 0 rfl) ?_
  refine lv_iconst (v := (0 : Int32)) hx hb dX1_init_39 (by decide) ?_
  refine va_put (D := D) (ci := 1) (v := .int (0 : Int32)) (ty := .int) (C := RX1) (T := TX1) (N := 7) (ws := [(a_t, .inr (1, [.ref q1, .ref q2, .ref q3, .int (0 : Int32), .int (0 : Int32), .int 0, .int 0])), (q1, .inl (cI, (14, .inl (fun _ => 0)))), (q2, .inl (cI, (14, .inl (fun _ => 0)))), (q3, .inl (cI, (14, .inl (fun _ => 0))))]) hx hb hts iw_X1_init_1 tyX1 tyX1_ok nmX1 hown hK hP hD hS 0 rfl rfl 5 (by decide) (hts (.fieldLink RX1 28 "PowerDiagram$HalfPlanes" "meetY" "I") (List.mem_of_getElem? (i := 10) rfl)) (fun _ h9 => h9) rfl (by decide +kernel) rfl rfl (Nat.le_of_ble_eq_true rfl) dX1_init_40 (fun H locs hP hD hS => ?_)
  have hP : va_P D vwCl [(a_t, .inr (1, [.ref q1, .ref q2, .ref q3, .int (0 : Int32), .int (0 : Int32), .int (0 : Int32), .int 0])), (q1, .inl (cI, (14, .inl (fun _ => 0)))), (q2, .inl (cI, (14, .inl (fun _ => 0)))), (q3, .inl (cI, (14, .inl (fun _ => 0))))] H := hP
  have hD : va_D A [(a_t, .inr (1, [.ref q1, .ref q2, .ref q3, .int (0 : Int32), .int (0 : Int32), .int (0 : Int32), .int 0])), (q1, .inl (cI, (14, .inl (fun _ => 0)))), (q2, .inl (cI, (14, .inl (fun _ => 0)))), (q3, .inl (cI, (14, .inl (fun _ => 0))))] := hD
  refine lv_aload_n hx hb dX1_init_43 rfl (lv_at hl 0 rfl) ?_
  refine lv_iconst (v := (1 : Int32)) hx hb dX1_init_44 (by decide) ?_
  refine va_put (D := D) (ci := 1) (v := .int (1 : Int32)) (ty := .int) (C := RX1) (T := TX1) (N := 7) (ws := [(a_t, .inr (1, [.ref q1, .ref q2, .ref q3, .int (0 : Int32), .int (0 : Int32), .int (0 : Int32), .int 0])), (q1, .inl (cI, (14, .inl (fun _ => 0)))), (q2, .inl (cI, (14, .inl (fun _ => 0)))), (q3, .inl (cI, (14, .inl (fun _ => 0))))]) hx hb hts iw_X1_init_1 tyX1 tyX1_ok nmX1 hown hK hP hD hS 0 rfl rfl 6 (by decide) (hts (.fieldLink RX1 31 "PowerDiagram$HalfPlanes" "meetD" "I") (List.mem_of_getElem? (i := 11) rfl)) (fun _ h9 => h9) rfl (by decide +kernel) rfl rfl (Nat.le_of_ble_eq_true rfl) dX1_init_45 (fun H locs hP hD hS => ?_)
  have hP : va_P D vwCl [(a_t, .inr (1, [.ref q1, .ref q2, .ref q3, .int (0 : Int32), .int (0 : Int32), .int (0 : Int32), .int (1 : Int32)])), (q1, .inl (cI, (14, .inl (fun _ => 0)))), (q2, .inl (cI, (14, .inl (fun _ => 0)))), (q3, .inl (cI, (14, .inl (fun _ => 0))))] H := hP
  have hD : va_D A [(a_t, .inr (1, [.ref q1, .ref q2, .ref q3, .int (0 : Int32), .int (0 : Int32), .int (0 : Int32), .int (1 : Int32)])), (q1, .inl (cI, (14, .inl (fun _ => 0)))), (q2, .inl (cI, (14, .inl (fun _ => 0)))), (q3, .inl (cI, (14, .inl (fun _ => 0))))] := hD
  exact endN hC (q1, q2, q3) hP hD hS dX1_init_48
theorem iw_X3_init_3 : ∀ w ∈ wsX30, w ∈ wsX3_init := fun _ h => List.mem_cons_of_mem _ (List.mem_append_right _ h)
def w1_X3_init (cI cJ cZ cQ : ClassId) (a_t : Nat) (u : Nat) : va_W := [(a_t, .inr (3, [.ref u, .int (0 : Int32)])), (u, .inl (cI, (80, .inl (fun _ => 0))))]
abbrev rm_X3_init : Room := { frames := 1, cells := 1, slots := 80, locals := 12 }
set_option maxHeartbeats 4000000 in
set_option maxRecDepth 100000 in
theorem c_X3_init (l : Launch) (D : va_G) (cI cJ cZ cQ : ClassId) (a_t : Nat) : MetN l D (tys4 cI cJ cZ cQ) yX3_init wsX3_init rm_X3_init [.ref a_t] [(a_t, .inr (3, [.null, .int 0]))] (w1_X3_init cI cJ cZ cQ a_t) 1 80 := by
  intro sz
  refine metWN (own := RX3) (cc := cX3_init) (nL := 1) (ret := none) (Qc := fun A => va_Qv (fun _ : Nat => True) (fun u => cB D (tys4 cI cJ cZ cQ) ((w1_X3_init cI cJ cZ cQ a_t) u) A ()) A) (by decide) rfl rfl (Nat.le_of_ble_eq_true rfl) (fun p e s m args below meth c A hC hin hP hD hS ls hl => ?_) sz
  obtain ⟨hx, hb, hr, hml, hown, hts, hlocks, hA, hK, hN⟩ := id hC
  replace hl : lv_has ls 1 [(0, .ref a_t)] := hl
  refine lv_aload_n hx hb dX3_init_0 rfl (lv_at hl 0 rfl) ?_
  refine W.objInit hx hb hown (hts (.methodLink RX3 3 objectInit) (List.mem_of_getElem? (i := 1) rfl)) (hts (.instanceMethod objectInit) (List.mem_of_getElem? (i := 2) rfl)) (hts _ (List.mem_of_getElem? (i := 3) rfl)) rfl (by rw [hml]; exact hl.1) rfl dX3_init_1 (Nat.le_of_ble_eq_true rfl) (Nat.le_of_ble_eq_true rfl) ?_
  refine W.eq (g2 := F0 m 4 ls []) rfl ?_
  refine lv_aload_n hx hb dX3_init_4 rfl (lv_at hl 0 rfl) ?_
  refine lv_bipush (v := (80 : Int32)) hx hb dX3_init_5 (by decide) ?_
  refine newA (atype := .int) (WW := [(a_t, .inr (3, [.null, .int 0]))]) (a0 := (80, .inl (fun _ => 0))) (ty := .int) hx hb (hts (.arrayClass .int) (List.mem_of_getElem? (i := 4) rfl)) rfl (fun c1 c2 h1 h2 => Option.some.inj (h1.symm.trans h2)) hK 0 rfl hP hD hS hA (fun _ => rfl) (by decide) (N' := 80) (by decide) (Nat.le_of_ble_eq_true rfl) (Nat.le_of_ble_eq_true rfl) (Nat.le_of_ble_eq_true rfl) dX3_init_7 (fun q1 H hP hD hS => ?_)
  have hP : va_P D vwCl [(a_t, .inr (3, [.null, .int 0])), (q1, .inl (cI, (80, .inl (fun _ => 0))))] H := hP
  have hD : va_D A [(a_t, .inr (3, [.null, .int 0])), (q1, .inl (cI, (80, .inl (fun _ => 0))))] := hD
  refine va_putF (D := D) (ci := 3) (v := .ref q1) (ty := .array .int) (C := RX3) (T := TX3) (N := 2) (ws := [(a_t, .inr (3, [.null, .int 0])), (q1, .inl (cI, (80, .inl (fun _ => 0))))]) hx hb hts iw_X3_init_3 tyX3 tyX3_ok nmX3 hown hK hP hD hS 0 rfl rfl 0 (by decide) (hts (.fieldLink RX3 11 "PowerDiagram$SetupText" "characters" "[I") (List.mem_of_getElem? (i := 5) rfl)) (fun _ h9 => h9) rfl hin rfl (by decide +kernel) rfl rfl (Nat.le_of_ble_eq_true rfl) dX3_init_9 (fun H locs hP hD hS => ?_)
  have hP : va_P D vwCl [(a_t, .inr (3, [.ref q1, .int 0])), (q1, .inl (cI, (80, .inl (fun _ => 0))))] H := hP
  have hD : va_D A [(a_t, .inr (3, [.ref q1, .int 0])), (q1, .inl (cI, (80, .inl (fun _ => 0))))] := hD
  refine lv_aload_n hx hb dX3_init_12 rfl (lv_at hl 0 rfl) ?_
  refine lv_iconst (v := (0 : Int32)) hx hb dX3_init_13 (by decide) ?_
  refine va_put (D := D) (ci := 3) (v := .int (0 : Int32)) (ty := .int) (C := RX3) (T := TX3) (N := 2) (ws := [(a_t, .inr (3, [.ref q1, .int 0])), (q1, .inl (cI, (80, .inl (fun _ => 0))))]) hx hb hts iw_X3_init_3 tyX3 tyX3_ok nmX3 hown hK hP hD hS 0 rfl rfl 1 (by decide) (hts (.fieldLink RX3 15 "PowerDiagram$SetupText" "length" "I") (List.mem_of_getElem? (i := 6) rfl)) (fun _ h9 => h9) rfl (by decide +kernel) rfl rfl (Nat.le_of_ble_eq_true rfl) dX3_init_14 (fun H locs hP hD hS => ?_)
  have hP : va_P D vwCl [(a_t, .inr (3, [.ref q1, .int (0 : Int32)])), (q1, .inl (cI, (80, .inl (fun _ => 0))))] H := hP
  have hD : va_D A [(a_t, .inr (3, [.ref q1, .int (0 : Int32)])), (q1, .inl (cI, (80, .inl (fun _ => 0))))] := hD
  exact endN hC q1 hP hD hS dX3_init_17
theorem iw_X0_init_0 : ∀ w ∈ wsX00, w ∈ wsX0_init := fun _ h => List.mem_cons_of_mem _ (List.mem_append_right _ h)
def w1_X0_init (cI cJ cZ cQ : ClassId) (a_t a_p0 : Nat) (u : Nat × Nat × Nat) : va_W := [(a_t, .inr (0, [.ref a_p0, .ref u.1, .ref u.2.1, .ref u.2.2, .int (0 : Int32)])), (u.1, .inl (cI, (14, .inl (fun _ => 0)))), (u.2.1, .inl (cI, (14, .inl (fun _ => 0)))), (u.2.2, .inl (cI, (14, .inl (fun _ => 0))))]
abbrev rm_X0_init : Room := { frames := 1, cells := 3, slots := 42, locals := 12 }
set_option maxHeartbeats 4000000 in
set_option maxRecDepth 100000 in
theorem c_X0_init (l : Launch) (D : va_G) (cI cJ cZ cQ : ClassId) (a_t a_p0 : Nat) : MetN l D (tys4 cI cJ cZ cQ) yX0_init wsX0_init rm_X0_init [.ref a_t, .ref a_p0] [(a_t, .inr (0, [.null, .null, .null, .null, .int 0]))] (w1_X0_init cI cJ cZ cQ a_t a_p0) 3 42 := by
  intro sz
  refine metWN (own := RX0) (cc := cX0_init) (nL := 2) (ret := none) (Qc := fun A => va_Qv (fun _ : Nat × Nat × Nat => True) (fun u => cB D (tys4 cI cJ cZ cQ) ((w1_X0_init cI cJ cZ cQ a_t a_p0) u) A ()) A) (by decide) rfl rfl (Nat.le_of_ble_eq_true rfl) (fun p e s m args below meth c A hC hin hP hD hS ls hl => ?_) sz
  obtain ⟨hx, hb, hr, hml, hown, hts, hlocks, hA, hK, hN⟩ := id hC
  replace hl : lv_has ls 2 [(0, .ref a_t), (1, .ref a_p0)] := hl
  refine lv_aload_n hx hb dX0_init_0 rfl (lv_at hl 0 rfl) ?_
  refine W.objInit hx hb hown (hts (.methodLink RX0 3 objectInit) (List.mem_of_getElem? (i := 1) rfl)) (hts (.instanceMethod objectInit) (List.mem_of_getElem? (i := 2) rfl)) (hts _ (List.mem_of_getElem? (i := 3) rfl)) rfl (by rw [hml]; exact hl.1) rfl dX0_init_1 (Nat.le_of_ble_eq_true rfl) (Nat.le_of_ble_eq_true rfl) ?_
  refine W.eq (g2 := F0 m 4 ls []) rfl ?_
  refine lv_aload_n hx hb dX0_init_4 rfl (lv_at hl 0 rfl) ?_
  refine lv_aload_n hx hb dX0_init_5 rfl (lv_at hl 1 rfl) ?_
  refine va_putF (D := D) (ci := 0) (v := .ref a_p0) (ty := .object "PowerDiagram$HalfPlanes") (C := RX0) (T := TX0) (N := 5) (ws := [(a_t, .inr (0, [.null, .null, .null, .null, .int 0]))]) hx hb hts iw_X0_init_0 tyX0 tyX0_ok nmX0 hown hK hP hD hS 0 rfl rfl 0 (by decide) (hts (.fieldLink RX0 9 "PowerDiagram$Cell" "planes" "LPowerDiagram$HalfPlanes;") (List.mem_of_getElem? (i := 4) rfl)) (fun _ h9 => h9) rfl hin rfl (by decide +kernel) rfl rfl (Nat.le_of_ble_eq_true rfl) dX0_init_6 (fun H locs hP hD hS => ?_)
  have hP : va_P D vwCl [(a_t, .inr (0, [.ref a_p0, .null, .null, .null, .int 0]))] H := hP
  have hD : va_D A [(a_t, .inr (0, [.ref a_p0, .null, .null, .null, .int 0]))] := hD
  refine lv_aload_n hx hb dX0_init_9 rfl (lv_at hl 0 rfl) ?_
  refine lv_bipush (v := (14 : Int32)) hx hb dX0_init_10 (by decide) ?_
  refine newA (atype := .int) (WW := [(a_t, .inr (0, [.ref a_p0, .null, .null, .null, .int 0]))]) (a0 := (14, .inl (fun _ => 0))) (ty := .int) hx hb (hts (.arrayClass .int) (List.mem_of_getElem? (i := 5) rfl)) rfl (fun c1 c2 h1 h2 => Option.some.inj (h1.symm.trans h2)) hK 0 rfl hP hD hS hA (fun _ => rfl) (by decide) (N' := 14) (by decide) (Nat.le_of_ble_eq_true rfl) (Nat.le_of_ble_eq_true rfl) (Nat.le_of_ble_eq_true rfl) dX0_init_12 (fun q1 H hP hD hS => ?_)
  have hP : va_P D vwCl [(a_t, .inr (0, [.ref a_p0, .null, .null, .null, .int 0])), (q1, .inl (cI, (14, .inl (fun _ => 0))))] H := hP
  have hD : va_D A [(a_t, .inr (0, [.ref a_p0, .null, .null, .null, .int 0])), (q1, .inl (cI, (14, .inl (fun _ => 0))))] := hD
  refine va_putF (D := D) (ci := 0) (v := .ref q1) (ty := .array .int) (C := RX0) (T := TX0) (N := 5) (ws := [(a_t, .inr (0, [.ref a_p0, .null, .null, .null, .int 0])), (q1, .inl (cI, (14, .inl (fun _ => 0))))]) hx hb hts iw_X0_init_0 tyX0 tyX0_ok nmX0 hown hK hP hD hS 0 rfl rfl 1 (by decide) (hts (.fieldLink RX0 15 "PowerDiagram$Cell" "x" "[I") (List.mem_of_getElem? (i := 6) rfl)) (fun _ h9 => h9) rfl hin rfl (by decide +kernel) rfl rfl (Nat.le_of_ble_eq_true rfl) dX0_init_14 (fun H locs hP hD hS => ?_)
  have hP : va_P D vwCl [(a_t, .inr (0, [.ref a_p0, .ref q1, .null, .null, .int 0])), (q1, .inl (cI, (14, .inl (fun _ => 0))))] H := hP
  have hD : va_D A [(a_t, .inr (0, [.ref a_p0, .ref q1, .null, .null, .int 0])), (q1, .inl (cI, (14, .inl (fun _ => 0))))] := hD
  refine lv_aload_n hx hb dX0_init_17 rfl (lv_at hl 0 rfl) ?_
  refine lv_bipush (v := (14 : Int32)) hx hb dX0_init_18 (by decide) ?_
  refine newA (atype := .int) (WW := [(a_t, .inr (0, [.ref a_p0, .ref q1, .null, .null, .int 0])), (q1, .inl (cI, (14, .inl (fun _ => 0))))]) (a0 := (14, .inl (fun _ => 0))) (ty := .int) hx hb (hts (.arrayClass .int) (List.mem_of_getElem? (i := 5) rfl)) rfl (fun c1 c2 h1 h2 => Option.some.inj (h1.symm.trans h2)) hK 0 rfl hP hD hS hA (fun _ => rfl) (by decide) (N' := 14) (by decide) (Nat.le_of_ble_eq_true rfl) (Nat.le_of_ble_eq_true rfl) (Nat.le_of_ble_eq_true rfl) dX0_init_20 (fun q2 H hP hD hS => ?_)
  have hP : va_P D vwCl [(a_t, .inr (0, [.ref a_p0, .ref q1, .null, .null, .int 0])), (q1, .inl (cI, (14, .inl (fun _ => 0)))), (q2, .inl (cI, (14, .inl (fun _ => 0))))] H := hP
  have hD : va_D A [(a_t, .inr (0, [.ref a_p0, .ref q1, .null, .null, .int 0])), (q1, .inl (cI, (14, .inl (fun _ => 0)))), (q2, .inl (cI, (14, .inl (fun _ => 0))))] := hD
  refine va_putF (D := D) (ci := 0) (v := .ref q2) (ty := .array .int) (C := RX0) (T := TX0) (N := 5) (ws := [(a_t, .inr (0, [.ref a_p0, .ref q1, .null, .null, .int 0])), (q1, .inl (cI, (14, .inl (fun _ => 0)))), (q2, .inl (cI, (14, .inl (fun _ => 0))))]) hx hb hts iw_X0_init_0 tyX0 tyX0_ok nmX0 hown hK hP hD hS 0 rfl rfl 2 (by decide) (hts (.fieldLink RX0 19 "PowerDiagram$Cell" "y" "[I") (List.mem_of_getElem? (i := 7) rfl)) (fun _ h9 => h9) rfl hin rfl (by decide +kernel) rfl rfl (Nat.le_of_ble_eq_true rfl) dX0_init_22 (fun H locs hP hD hS => ?_)
  have hP : va_P D vwCl [(a_t, .inr (0, [.ref a_p0, .ref q1, .ref q2, .null, .int 0])), (q1, .inl (cI, (14, .inl (fun _ => 0)))), (q2, .inl (cI, (14, .inl (fun _ => 0))))] H := hP
  have hD : va_D A [(a_t, .inr (0, [.ref a_p0, .ref q1, .ref q2, .null, .int 0])), (q1, .inl (cI, (14, .inl (fun _ => 0)))), (q2, .inl (cI, (14, .inl (fun _ => 0))))] := hD
  refine lv_aload_n hx hb dX0_init_25 rfl (lv_at hl 0 rfl) ?_
  refine lv_bipush (v := (14 : Int32)) hx hb dX0_init_26 (by decide) ?_
  refine newA (atype := .int) (WW := [(a_t, .inr (0, [.ref a_p0, .ref q1, .ref q2, .null, .int 0])), (q1, .inl (cI, (14, .inl (fun _ => 0)))), (q2, .inl (cI, (14, .inl (fun _ => 0))))]) (a0 := (14, .inl (fun _ => 0))) (ty := .int) hx hb (hts (.arrayClass .int) (List.mem_of_getElem? (i := 5) rfl)) rfl (fun c1 c2 h1 h2 => Option.some.inj (h1.symm.trans h2)) hK 0 rfl hP hD hS hA (fun _ => rfl) (by decide) (N' := 14) (by decide) (Nat.le_of_ble_eq_true rfl) (Nat.le_of_ble_eq_true rfl) (Nat.le_of_ble_eq_true rfl) dX0_init_28 (fun q3 H hP hD hS => ?_)
  have hP : va_P D vwCl [(a_t, .inr (0, [.ref a_p0, .ref q1, .ref q2, .null, .int 0])), (q1, .inl (cI, (14, .inl (fun _ => 0)))), (q2, .inl (cI, (14, .inl (fun _ => 0)))), (q3, .inl (cI, (14, .inl (fun _ => 0))))] H := hP
  have hD : va_D A [(a_t, .inr (0, [.ref a_p0, .ref q1, .ref q2, .null, .int 0])), (q1, .inl (cI, (14, .inl (fun _ => 0)))), (q2, .inl (cI, (14, .inl (fun _ => 0)))), (q3, .inl (cI, (14, .inl (fun _ => 0))))] := hD
  refine va_putF (D := D) (ci := 0) (v := .ref q3) (ty := .array .int) (C := RX0) (T := TX0) (N := 5) (ws := [(a_t, .inr (0, [.ref a_p0, .ref q1, .ref q2, .null, .int 0])), (q1, .inl (cI, (14, .inl (fun _ => 0)))), (q2, .inl (cI, (14, .inl (fun _ => 0)))), (q3, .inl (cI, (14, .inl (fun _ => 0))))]) hx hb hts iw_X0_init_0 tyX0 tyX0_ok nmX0 hown hK hP hD hS 0 rfl rfl 3 (by decide) (hts (.fieldLink RX0 22 "PowerDiagram$Cell" "d" "[I") (List.mem_of_getElem? (i := 8) rfl)) (fun _ h9 => h9) rfl hin rfl (by decide +kernel) rfl rfl (Nat.le_of_ble_eq_true rfl) dX0_init_30 (fun H locs hP hD hS => ?_)
  have hP : va_P D vwCl [(a_t, .inr (0, [.ref a_p0, .ref q1, .ref q2, .ref q3, .int 0])), (q1, .inl (cI, (14, .inl (fun _ => 0)))), (q2, .inl (cI, (14, .inl (fun _ => 0)))), (q3, .inl (cI, (14, .inl (fun _ => 0))))] H := hP
  have hD : va_D A [(a_t, .inr (0, [.ref a_p0, .ref q1, .ref q2, .ref q3, .int 0])), (q1, .inl (cI, (14, .inl (fun _ => 0)))), (q2, .inl (cI, (14, .inl (fun _ => 0)))), (q3, .inl (cI, (14, .inl (fun _ => 0))))] := hD
  refine lv_aload_n hx hb dX0_init_33 rfl (lv_at hl 0 rfl) ?_
  refine lv_iconst (v := (0 : Int32)) hx hb dX0_init_34 (by decide) ?_
  refine va_put (D := D) (ci := 0) (v := .int (0 : Int32)) (ty := .int) (C := RX0) (T := TX0) (N := 5) (ws := [(a_t, .inr (0, [.ref a_p0, .ref q1, .ref q2, .ref q3, .int 0])), (q1, .inl (cI, (14, .inl (fun _ => 0)))), (q2, .inl (cI, (14, .inl (fun _ => 0)))), (q3, .inl (cI, (14, .inl (fun _ => 0))))]) hx hb hts iw_X0_init_0 tyX0 tyX0_ok nmX0 hown hK hP hD hS 0 rfl rfl 4 (by decide) (hts (.fieldLink RX0 25 "PowerDiagram$Cell" "count" "I") (List.mem_of_getElem? (i := 9) rfl)) (fun _ h9 => h9) rfl (by decide +kernel) rfl rfl (Nat.le_of_ble_eq_true rfl) dX0_init_35 (fun H locs hP hD hS => ?_)
  have hP : va_P D vwCl [(a_t, .inr (0, [.ref a_p0, .ref q1, .ref q2, .ref q3, .int (0 : Int32)])), (q1, .inl (cI, (14, .inl (fun _ => 0)))), (q2, .inl (cI, (14, .inl (fun _ => 0)))), (q3, .inl (cI, (14, .inl (fun _ => 0))))] H := hP
  have hD : va_D A [(a_t, .inr (0, [.ref a_p0, .ref q1, .ref q2, .ref q3, .int (0 : Int32)])), (q1, .inl (cI, (14, .inl (fun _ => 0)))), (q2, .inl (cI, (14, .inl (fun _ => 0)))), (q3, .inl (cI, (14, .inl (fun _ => 0))))] := hD
  exact endN hC (q1, q2, q3) hP hD hS dX0_init_38
theorem iw_X2_init_2 : ∀ w ∈ wsX20, w ∈ wsX2_init := fun _ h => List.mem_cons_of_mem _ (List.mem_append_left _ (List.mem_append_right _ h))
theorem iw_X2_init_4 : ∀ w ∈ wsX40, w ∈ wsX2_init := fun _ h => List.mem_cons_of_mem _ (List.mem_append_right _ h)
def w1_X2_init (cI cJ cZ cQ : ClassId) (a_t a_p0 : Nat) (u : Nat × Nat × Nat × Nat) : va_W := [(u.1, .inr (4, [.ref u.2.1, .ref u.2.2.1, .ref u.2.2.2, .int (0 : Int32)])), (u.2.1, .inl (cI, (10, .inl (fun _ => 0)))), (u.2.2.1, .inl (cI, (10, .inl (fun _ => 0)))), (u.2.2.2, .inl (cI, (10, .inl (fun _ => 0)))), (a_t, .inr (2, [.ref a_p0, .ref u.1, .int (-1 : Int32)]))]
abbrev rm_X2_init : Room := { frames := 2, cells := 4, slots := 34, locals := 32 }
set_option maxHeartbeats 4000000 in
set_option maxRecDepth 100000 in
theorem c_X2_init (l : Launch) (D : va_G) (cI cJ cZ cQ : ClassId) (a_t a_p0 : Nat) : MetN l D (tys4 cI cJ cZ cQ) yX2_init wsX2_init rm_X2_init [.ref a_t, .ref a_p0] [(a_t, .inr (2, [.null, .null, .int 0]))] (w1_X2_init cI cJ cZ cQ a_t a_p0) 4 34 := by
  intro sz
  refine metWN (own := RX2) (cc := cX2_init) (nL := 2) (ret := none) (Qc := fun A => va_Qv (fun _ : Nat × Nat × Nat × Nat => True) (fun u => cB D (tys4 cI cJ cZ cQ) ((w1_X2_init cI cJ cZ cQ a_t a_p0) u) A ()) A) (by decide) rfl rfl (Nat.le_of_ble_eq_true rfl) (fun p e s m args below meth c A hC hin hP hD hS ls hl => ?_) sz
  obtain ⟨hx, hb, hr, hml, hown, hts, hlocks, hA, hK, hN⟩ := id hC
  replace hl : lv_has ls 2 [(0, .ref a_t), (1, .ref a_p0)] := hl
  refine lv_aload_n hx hb dX2_init_0 rfl (lv_at hl 0 rfl) ?_
  refine W.objInit hx hb hown (hts (.methodLink RX2 3 objectInit) (List.mem_of_getElem? (i := 1) rfl)) (hts (.instanceMethod objectInit) (List.mem_of_getElem? (i := 2) rfl)) (hts _ (List.mem_of_getElem? (i := 3) rfl)) rfl (by rw [hml]; exact hl.1) rfl dX2_init_1 (Nat.le_of_ble_eq_true rfl) (Nat.le_of_ble_eq_true rfl) ?_
  refine W.eq (g2 := F0 m 4 ls []) rfl ?_
  refine lv_aload_n hx hb dX2_init_4 rfl (lv_at hl 0 rfl) ?_
  refine lv_aload_n hx hb dX2_init_5 rfl (lv_at hl 1 rfl) ?_
  refine va_putF (D := D) (ci := 2) (v := .ref a_p0) (ty := .object "PowerDiagram$Cell") (C := RX2) (T := TX2) (N := 3) (ws := [(a_t, .inr (2, [.null, .null, .int 0]))]) hx hb hts iw_X2_init_2 tyX2 tyX2_ok nmX2 hown hK hP hD hS 0 rfl rfl 0 (by decide) (hts (.fieldLink RX2 9 "PowerDiagram$Script" "cell" "LPowerDiagram$Cell;") (List.mem_of_getElem? (i := 4) rfl)) (fun _ h9 => h9) rfl hin rfl (by decide +kernel) rfl rfl (Nat.le_of_ble_eq_true rfl) dX2_init_6 (fun H locs hP hD hS => ?_)
  have hP : va_P D vwCl [(a_t, .inr (2, [.ref a_p0, .null, .int 0]))] H := hP
  have hD : va_D A [(a_t, .inr (2, [.ref a_p0, .null, .int 0]))] := hD
  refine lv_aload_n hx hb dX2_init_9 rfl (lv_at hl 0 rfl) ?_
  refine va_new (ci := 4) (fs := [.null, .null, .null, .int 0]) (C := RX4) (T := TX4) (N := 4) (ws := [(a_t, .inr (2, [.ref a_p0, .null, .int 0]))]) hx hb hts iw_X2_init_4 tyX4 tyX4_ok hown (hts (.classLink RX2 15 RX4) (List.mem_of_getElem? (i := 5) rfl)) (hts (.instantiable RX4 4) (List.mem_of_getElem? (i := 6) rfl)) (hts (.initialized RX4) (List.mem_of_getElem? (i := 7) rfl)) hK hP hD hS hA rfl (fun j hj => match j, hj with | 0, _ => rfl | 1, _ => rfl | 2, _ => rfl | 3, _ => rfl | (j + 4), h => absurd h (by omega)) (Nat.le_of_ble_eq_true rfl) (Nat.le_of_ble_eq_true rfl) dX2_init_10 (fun q1 H hP hD hS => ?_)
  have hP : va_P D vwCl [(a_t, .inr (2, [.ref a_p0, .null, .int 0])), (q1, .inr (4, [.null, .null, .null, .int 0]))] H := hP
  have hD : va_D A [(a_t, .inr (2, [.ref a_p0, .null, .int 0])), (q1, .inr (4, [.null, .null, .null, .int 0]))] := hD
  refine lv_dup hx hb dX2_init_13 rfl ?_
  refine callC (As := []) (rest := [.ref q1, .ref a_t]) (WW := [(a_t, .inr (2, [.ref a_p0, .null, .int 0])), (q1, .inr (4, [.null, .null, .null, .int 0]))]) (wr := [(a_t, .inr (2, [.ref a_p0, .null, .int 0]))]) hx hb hml hown hts hK hN (c_X4_init l D cI cJ cZ cQ q1) (cwI 0 hts gX2_init_X4_init rfl rfl rfl (hts (.initialized RX4) (List.mem_of_getElem? (i := 7) rfl)) (hts (.methodLink RX2 17 yX4_init) (List.mem_of_getElem? (i := 10) rfl)) (hts (.instanceMethod yX4_init) (List.mem_of_getElem? (i := 11) rfl)) rfl (by decide +kernel) ⟨Nat.le_of_ble_eq_true rfl, Nat.le_of_ble_eq_true rfl⟩) hP hD hS hA (perm_idxN 2 rfl [1] [0] (by decide) rfl rfl) rfl hl (Nat.le_of_ble_eq_true rfl) dX2_init_14 ⟨Nat.le_of_ble_eq_true rfl, Nat.le_of_ble_eq_true rfl⟩ rfl (fun u14 H locs hP hD hS => ?_)
  obtain ⟨q2, q3, q4⟩ := u14
  have hP : va_P D vwCl [(q1, .inr (4, [.ref q2, .ref q3, .ref q4, .int (0 : Int32)])), (q2, .inl (cI, (10, .inl (fun _ => 0)))), (q3, .inl (cI, (10, .inl (fun _ => 0)))), (q4, .inl (cI, (10, .inl (fun _ => 0)))), (a_t, .inr (2, [.ref a_p0, .null, .int 0]))] H := hP
  have hD : va_D A [(q1, .inr (4, [.ref q2, .ref q3, .ref q4, .int (0 : Int32)])), (q2, .inl (cI, (10, .inl (fun _ => 0)))), (q3, .inl (cI, (10, .inl (fun _ => 0)))), (q4, .inl (cI, (10, .inl (fun _ => 0)))), (a_t, .inr (2, [.ref a_p0, .null, .int 0]))] := hD
  refine va_putF (D := D) (ci := 2) (v := .ref q1) (ty := .object "PowerDiagram$Sites") (C := RX2) (T := TX2) (N := 3) (ws := [(q1, .inr (4, [.ref q2, .ref q3, .ref q4, .int (0 : Int32)])), (q2, .inl (cI, (10, .inl (fun _ => 0)))), (q3, .inl (cI, (10, .inl (fun _ => 0)))), (q4, .inl (cI, (10, .inl (fun _ => 0)))), (a_t, .inr (2, [.ref a_p0, .null, .int 0]))]) hx hb hts iw_X2_init_2 tyX2 tyX2_ok nmX2 hown hK hP hD hS 4 rfl rfl 1 (by decide) (hts (.fieldLink RX2 18 "PowerDiagram$Script" "sites" "LPowerDiagram$Sites;") (List.mem_of_getElem? (i := 8) rfl)) (fun _ h9 => h9) rfl hin rfl (by decide +kernel) rfl rfl (Nat.le_of_ble_eq_true rfl) dX2_init_17 (fun H locs hP hD hS => ?_)
  have hP : va_P D vwCl [(q1, .inr (4, [.ref q2, .ref q3, .ref q4, .int (0 : Int32)])), (q2, .inl (cI, (10, .inl (fun _ => 0)))), (q3, .inl (cI, (10, .inl (fun _ => 0)))), (q4, .inl (cI, (10, .inl (fun _ => 0)))), (a_t, .inr (2, [.ref a_p0, .ref q1, .int 0]))] H := hP
  have hD : va_D A [(q1, .inr (4, [.ref q2, .ref q3, .ref q4, .int (0 : Int32)])), (q2, .inl (cI, (10, .inl (fun _ => 0)))), (q3, .inl (cI, (10, .inl (fun _ => 0)))), (q4, .inl (cI, (10, .inl (fun _ => 0)))), (a_t, .inr (2, [.ref a_p0, .ref q1, .int 0]))] := hD
  refine lv_aload_n hx hb dX2_init_20 rfl (lv_at hl 0 rfl) ?_
  refine lv_iconst (v := (-1 : Int32)) hx hb dX2_init_21 (by decide) ?_
  refine va_put (D := D) (ci := 2) (v := .int (-1 : Int32)) (ty := .int) (C := RX2) (T := TX2) (N := 3) (ws := [(q1, .inr (4, [.ref q2, .ref q3, .ref q4, .int (0 : Int32)])), (q2, .inl (cI, (10, .inl (fun _ => 0)))), (q3, .inl (cI, (10, .inl (fun _ => 0)))), (q4, .inl (cI, (10, .inl (fun _ => 0)))), (a_t, .inr (2, [.ref a_p0, .ref q1, .int 0]))]) hx hb hts iw_X2_init_2 tyX2 tyX2_ok nmX2 hown hK hP hD hS 4 rfl rfl 2 (by decide) (hts (.fieldLink RX2 22 "PowerDiagram$Script" "found" "I") (List.mem_of_getElem? (i := 9) rfl)) (fun _ h9 => h9) rfl (by decide +kernel) rfl rfl (Nat.le_of_ble_eq_true rfl) dX2_init_22 (fun H locs hP hD hS => ?_)
  have hP : va_P D vwCl [(q1, .inr (4, [.ref q2, .ref q3, .ref q4, .int (0 : Int32)])), (q2, .inl (cI, (10, .inl (fun _ => 0)))), (q3, .inl (cI, (10, .inl (fun _ => 0)))), (q4, .inl (cI, (10, .inl (fun _ => 0)))), (a_t, .inr (2, [.ref a_p0, .ref q1, .int (-1 : Int32)]))] H := hP
  have hD : va_D A [(q1, .inr (4, [.ref q2, .ref q3, .ref q4, .int (0 : Int32)])), (q2, .inl (cI, (10, .inl (fun _ => 0)))), (q3, .inl (cI, (10, .inl (fun _ => 0)))), (q4, .inl (cI, (10, .inl (fun _ => 0)))), (a_t, .inr (2, [.ref a_p0, .ref q1, .int (-1 : Int32)]))] := hD
  exact endN hC (q1, q2, q3, q4) hP hD hS dX2_init_25
