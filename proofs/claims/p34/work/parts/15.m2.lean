/-! X2_begin -/
theorem iw_X2_begin_2 : ∀ w ∈ wsX20, w ∈ wsX2_begin := fun _ h => List.mem_cons_of_mem _ (List.mem_append_left _ (List.mem_append_right _ h))
def w_X2_begin (cI cJ cZ cQ : ClassId) (a_t a_t_cell a_t_sites a_t_sites_x a_t_sites_y a_t_sites_w a_p0 a_p0_x a_p0_y a_p0_w : Nat) (t_found : Int32) (t_sites_count : Int32) (p0_count : Int32) (p0_x : Nat → Int32) (t_sites_x : Nat → Int32) (p0_y : Nat → Int32) (t_sites_y : Nat → Int32) (p0_w : Nat → Int32) (t_sites_w : Nat → Int32) : va_W := [(a_t, .inr (2, [.ref a_t_cell, .ref a_t_sites, .int t_found])), (a_t_sites, .inr (4, [.ref a_t_sites_x, .ref a_t_sites_y, .ref a_t_sites_w, .int t_sites_count])), (a_p0, .inr (4, [.ref a_p0_x, .ref a_p0_y, .ref a_p0_w, .int p0_count])), (a_p0_x, .inl (cI, 10, .inl p0_x)), (a_t_sites_x, .inl (cI, 10, .inl t_sites_x)), (a_p0_y, .inl (cI, 10, .inl p0_y)), (a_t_sites_y, .inl (cI, 10, .inl t_sites_y)), (a_p0_w, .inl (cI, 10, .inl p0_w)), (a_t_sites_w, .inl (cI, 10, .inl t_sites_w))]
abbrev rm_X2_begin : Room := { frames := 1, cells := 0, slots := 0, locals := 22 }
def S_X2_begin_0 (p : Program) (l : Launch) (e : Env) (s : State) (m : MethodId) (args : Array Value) (below : List Frame) (meth : Method) (c : Code) (A : Nat → Prop) (D : va_G) (cI cJ cZ cQ : ClassId) (a_t a_t_cell a_t_sites a_t_sites_x a_t_sites_y a_t_sites_w a_p0 a_p0_x a_p0_y a_p0_w : Nat) (p0_count : Int32) (p0_x : Nat → Int32) (p0_y : Nat → Int32) (p0_w : Nat → Int32) (res : R_X2_begin) (k : Int32 → Int32 → (Nat → Int32) → (Nat → Int32) → (Nat → Int32) → Option R_X2_begin) : Prop := ∀ (t_found : Int32) (t_sites_count : Int32) (t_sites_x : Nat → Int32) (t_sites_y : Nat → Int32) (t_sites_w : Nat → Int32), k t_found t_sites_count t_sites_x t_sites_y t_sites_w = some res → ∀ (H : Heap) (locs : List Loc), va_P D vwCl (w_X2_begin cI cJ cZ cQ a_t a_t_cell a_t_sites a_t_sites_x a_t_sites_y a_t_sites_w a_p0 a_p0_x a_p0_y a_p0_w t_found t_sites_count p0_count p0_x t_sites_x p0_y t_sites_y p0_w t_sites_w) H → va_D A (w_X2_begin cI cJ cZ cQ a_t a_t_cell a_t_sites a_t_sites_x a_t_sites_y a_t_sites_w a_p0 a_p0_x a_p0_y a_p0_w t_found t_sites_count p0_count p0_x t_sites_x p0_y t_sites_y p0_w t_sites_w) → va_S A s.heap H locs → ∀ ls : Array Slot, lv_has ls 2 [(0, .ref a_t), (1, .ref a_p0)] → W p l e (headSpec wsX2_begin rm_X2_begin).room s m args below meth c H locs 0 0 (MQ below (qV D (tys4 cI cJ cZ cQ) (w_X2_begin cI cJ cZ cQ a_t a_t_cell a_t_sites a_t_sites_x a_t_sites_y a_t_sites_w a_p0 a_p0_x a_p0_y a_p0_w res.1 res.2.1 p0_count p0_x res.2.2.1 p0_y res.2.2.2.1 p0_w res.2.2.2.2) A) args s 0 0 A) (F0 m 0 ls [])
set_option maxHeartbeats 4000000 in
set_option maxRecDepth 100000 in
theorem t_X2_begin_0 {p : Program} {l : Launch} {e : Env} {s : State} {m : MethodId} {args : Array Value} {below : List Frame} {meth : Method} {c : Code} {A : Nat → Prop} {D : va_G} {cI cJ cZ cQ : ClassId} {a_t a_t_cell a_t_sites a_t_sites_x a_t_sites_y a_t_sites_w a_p0 a_p0_x a_p0_y a_p0_w : Nat} {p0_count : Int32} {p0_x : Nat → Int32} {p0_y : Nat → Int32} {p0_w : Nat → Int32} {res : R_X2_begin}   (hC : mcx RX2 cX2_begin none 2 wsX2_begin p s m args meth c A D (tys4 cI cJ cZ cQ))   : S_X2_begin_0 p l e s m args below meth c A D cI cJ cZ cQ a_t a_t_cell a_t_sites a_t_sites_x a_t_sites_y a_t_sites_w a_p0 a_p0_x a_p0_y a_p0_w p0_count p0_x p0_y p0_w res (f_X2_begin_0  p0_count p0_x p0_y p0_w) := by
  intro t_found t_sites_count t_sites_x t_sites_y t_sites_w hf H locs hP hD hS ls hl
  obtain ⟨hx, hb, hr, hml, hown, hts, hlocks, hA, hK, hN⟩ := id hC
  unfold f_X2_begin_0 at hf
  refine lv_aload_n hx hb dX2_begin_0 rfl (lv_at hl 1 rfl) ?_
  refine lv_aload_n hx hb dX2_begin_1 rfl (lv_at hl 0 rfl) ?_
  refine va_get (D := D) (ci := 2) (v := .ref a_t_sites) (C := RX2) (T := TX2) (N := 3) hx hb hts iw_X2_begin_2 hown hK hP 0 rfl rfl 1 (by decide) (hts (.fieldLink RX2 18 "PowerDiagram$Script" "sites" "LPowerDiagram$Sites;") (List.mem_of_getElem? (i := 1) rfl)) (fun _ h9 => h9) rfl dX2_begin_2 ?_
  obtain ⟨u1, u2, u3, u4, hq5, hf⟩ := bnd4_of hf
  refine jnV (WB := (w_X2_begin cI cJ cZ cQ a_t a_t_cell a_t_sites a_t_sites_x a_t_sites_y a_t_sites_w a_p0 a_p0_x a_p0_y a_p0_w t_found u1 p0_count p0_x u2 p0_y u3 p0_w u4)) (rnS (As := [.ref a_p0, .ref a_t_sites]) (rest := []) (W0 := (w_X4_copy cI cJ cZ cQ a_t_sites a_t_sites_x a_t_sites_y a_t_sites_w a_p0 a_p0_x a_p0_y a_p0_w t_sites_count p0_count p0_x t_sites_x p0_y t_sites_y p0_w t_sites_w)) hx hb hml hown hts hK hN (c_X4_copy l D cI cJ cZ cQ a_t_sites a_t_sites_x a_t_sites_y a_t_sites_w a_p0 a_p0_x a_p0_y a_p0_w t_sites_count p0_count p0_x t_sites_x p0_y t_sites_y p0_w t_sites_w (u1, u2, u3, u4) hq5 H.size) (va_cwS 2 hts gX2_begin_X4_copy rfl rfl rfl e_X4_copy ⟨Nat.le_of_ble_eq_true rfl, Nat.le_of_ble_eq_true rfl⟩) hP hD [1, 2, 3, 4, 5, 6, 7, 8] rfl (by decide) rfl hl (Nat.le_of_ble_eq_true rfl) dX2_begin_5 ⟨Nat.zero_le _, Nat.zero_le _⟩ rfl) hP hD hS hA [1, 2, 3, 4, 5, 6, 7, 8] [0] [0, 1, 2, 3, 4, 5, 6, 7, 8] rfl rfl (by decide) (by decide) rfl (by decide) (fun H locs hP hD hS => ?_)
  refine lv_aload_n hx hb dX2_begin_8 rfl (lv_at hl 0 rfl) ?_
  refine lv_iconst (v := (-1 : Int32)) hx hb dX2_begin_9 (by decide) ?_
  refine wrF (D := D) (ci := 2) (v := .int (-1 : Int32)) (ty := .int) (C := RX2) (T := TX2) (N := 3) (WB := (w_X2_begin cI cJ cZ cQ a_t a_t_cell a_t_sites a_t_sites_x a_t_sites_y a_t_sites_w a_p0 a_p0_x a_p0_y a_p0_w (-1 : Int32) u1 p0_count p0_x u2 p0_y u3 p0_w u4)) hx hb hts iw_X2_begin_2 tyX2 tyX2_ok nmX2 hown hK hP hD hS 0 rfl rfl 2 (by decide) (hts (.fieldLink RX2 22 "PowerDiagram$Script" "found" "I") (List.mem_of_getElem? (i := 2) rfl)) (fun _ h9 => h9) rfl rfl rfl rfl (Nat.le_of_ble_eq_true rfl) dX2_begin_10 rfl (fun H locs hP hD hS => ?_)
  obtain rfl := Option.some.inj hf
  exact endV hC hP hD hS dX2_begin_13
theorem c_X2_begin (l : Launch) (D : va_G) (cI cJ cZ cQ : ClassId) (a_t a_t_cell a_t_sites a_t_sites_x a_t_sites_y a_t_sites_w a_p0 a_p0_x a_p0_y a_p0_w : Nat) (t_found : Int32) (t_sites_count : Int32) (p0_count : Int32) (p0_x : Nat → Int32) (t_sites_x : Nat → Int32) (p0_y : Nat → Int32) (t_sites_y : Nat → Int32) (p0_w : Nat → Int32) (t_sites_w : Nat → Int32)   (res : R_X2_begin)  (hf : f_X2_begin_0 p0_count p0_x p0_y p0_w t_found t_sites_count t_sites_x t_sites_y t_sites_w = some res) : MetV l D (tys4 cI cJ cZ cQ) yX2_begin wsX2_begin rm_X2_begin [.ref a_t, .ref a_p0] (w_X2_begin cI cJ cZ cQ a_t a_t_cell a_t_sites a_t_sites_x a_t_sites_y a_t_sites_w a_p0 a_p0_x a_p0_y a_p0_w t_found t_sites_count p0_count p0_x t_sites_x p0_y t_sites_y p0_w t_sites_w) (w_X2_begin cI cJ cZ cQ a_t a_t_cell a_t_sites a_t_sites_x a_t_sites_y a_t_sites_w a_p0 a_p0_x a_p0_y a_p0_w res.1 res.2.1 p0_count p0_x res.2.2.1 p0_y res.2.2.2.1 p0_w res.2.2.2.2) := by
  intro sz
  exact metW (own := RX2) (cc := cX2_begin) (nL := 2) (ret := none) (Qc := fun A => qV D (tys4 cI cJ cZ cQ) (w_X2_begin cI cJ cZ cQ a_t a_t_cell a_t_sites a_t_sites_x a_t_sites_y a_t_sites_w a_p0 a_p0_x a_p0_y a_p0_w res.1 res.2.1 p0_count p0_x res.2.2.1 p0_y res.2.2.2.1 p0_w res.2.2.2.2) A) (by decide) rfl rfl (Nat.le_of_ble_eq_true rfl) (fun p e s m args below meth c A hC hP hD hS ls hl => t_X2_begin_0 hC  t_found t_sites_count t_sites_x t_sites_y t_sites_w hf _ _ hP hD hS _ (lv_sub hl [0, 1] rfl)) sz
theorem e_X2_begin : yX2_begin.cls = RX2 ∧ yX2_begin.cls ≠ "java/lang/invoke/MethodHandle" ∧ yX2_begin.cls ≠ "java/lang/invoke/VarHandle" ∧ (parseMethodDescriptor yX2_begin.desc).map (fun d => d.parameters.length) = some 1 := by decide +kernel
/-! X2_removes -/
theorem iw_X2_removes_2 : ∀ w ∈ wsX20, w ∈ wsX2_removes := fun _ h => List.mem_cons_of_mem _ (List.mem_append_left _ (List.mem_append_right _ h))
def w_X2_removes (cI cJ cZ cQ : ClassId) (a_t a_t_cell a_t_sites a_t_sites_x a_t_sites_y a_t_sites_w : Nat) (t_found : Int32) (t_sites_count : Int32) (t_sites_x : Nat → Int32) (t_sites_y : Nat → Int32) (t_sites_w : Nat → Int32) : va_W := [(a_t, .inr (2, [.ref a_t_cell, .ref a_t_sites, .int t_found])), (a_t_sites, .inr (4, [.ref a_t_sites_x, .ref a_t_sites_y, .ref a_t_sites_w, .int t_sites_count])), (a_t_sites_x, .inl (cI, 10, .inl t_sites_x)), (a_t_sites_y, .inl (cI, 10, .inl t_sites_y)), (a_t_sites_w, .inl (cI, 10, .inl t_sites_w))]
abbrev rm_X2_removes : Room := { frames := 2, cells := 0, slots := 0, locals := 43 }
def S_X2_removes_0 (p : Program) (l : Launch) (e : Env) (s : State) (m : MethodId) (args : Array Value) (below : List Frame) (meth : Method) (c : Code) (A : Nat → Prop) (D : va_G) (cI cJ cZ cQ : ClassId) (a_t a_t_cell a_t_sites a_t_sites_x a_t_sites_y a_t_sites_w : Nat)  (res : R_X2_removes) (k : Int32 → Int32 → (Nat → Int32) → (Nat → Int32) → (Nat → Int32) → Int32 → Option R_X2_removes) : Prop := ∀ (t_found : Int32) (t_sites_count : Int32) (t_sites_x : Nat → Int32) (t_sites_y : Nat → Int32) (t_sites_w : Nat → Int32) (x1 : Int32), k t_found t_sites_count t_sites_x t_sites_y t_sites_w x1 = some res → ∀ (H : Heap) (locs : List Loc), va_P D vwCl (w_X2_removes cI cJ cZ cQ a_t a_t_cell a_t_sites a_t_sites_x a_t_sites_y a_t_sites_w t_found t_sites_count t_sites_x t_sites_y t_sites_w) H → va_D A (w_X2_removes cI cJ cZ cQ a_t a_t_cell a_t_sites a_t_sites_x a_t_sites_y a_t_sites_w t_found t_sites_count t_sites_x t_sites_y t_sites_w) → va_S A s.heap H locs → ∀ ls : Array Slot, lv_has ls 2 [(0, .ref a_t), (1, .int x1)] → W p l e (headSpec wsX2_removes rm_X2_removes).room s m args below meth c H locs 0 0 (MQ below (qI D (tys4 cI cJ cZ cQ) (w_X2_removes cI cJ cZ cQ a_t a_t_cell a_t_sites a_t_sites_x a_t_sites_y a_t_sites_w res.2.1 res.2.2.1 res.2.2.2.1 res.2.2.2.2.1 res.2.2.2.2.2) A res.1) args s 0 0 A) (F0 m 0 ls [])
set_option maxHeartbeats 4000000 in
set_option maxRecDepth 100000 in
theorem t_X2_removes_0 {p : Program} {l : Launch} {e : Env} {s : State} {m : MethodId} {args : Array Value} {below : List Frame} {meth : Method} {c : Code} {A : Nat → Prop} {D : va_G} {cI cJ cZ cQ : ClassId} {a_t a_t_cell a_t_sites a_t_sites_x a_t_sites_y a_t_sites_w : Nat}  {res : R_X2_removes}   (hC : mcx RX2 cX2_removes (some .boolean) 2 wsX2_removes p s m args meth c A D (tys4 cI cJ cZ cQ))   : S_X2_removes_0 p l e s m args below meth c A D cI cJ cZ cQ a_t a_t_cell a_t_sites a_t_sites_x a_t_sites_y a_t_sites_w res (f_X2_removes_0  ) := by
  intro t_found t_sites_count t_sites_x t_sites_y t_sites_w x1 hf H locs hP hD hS ls hl
  obtain ⟨hx, hb, hr, hml, hown, hts, hlocks, hA, hK, hN⟩ := id hC
  unfold f_X2_removes_0 at hf
  refine lv_aload_n hx hb dX2_removes_0 rfl (lv_at hl 0 rfl) ?_
  refine va_get (D := D) (ci := 2) (v := .ref a_t_sites) (C := RX2) (T := TX2) (N := 3) hx hb hts iw_X2_removes_2 hown hK hP 0 rfl rfl 1 (by decide) (hts (.fieldLink RX2 18 "PowerDiagram$Script" "sites" "LPowerDiagram$Sites;") (List.mem_of_getElem? (i := 1) rfl)) (fun _ h9 => h9) rfl dX2_removes_1 ?_
  refine lv_iload_n hx hb dX2_removes_4 rfl (lv_at hl 1 rfl) ?_
  obtain ⟨r1, hq2, hf⟩ := bnd_of hf
  refine jnI (WB := (w_X2_removes cI cJ cZ cQ a_t a_t_cell a_t_sites a_t_sites_x a_t_sites_y a_t_sites_w t_found t_sites_count t_sites_x t_sites_y t_sites_w)) (rnV (As := [.int x1]) (rest := []) (ci := 4) (q0 := 0) (W0 := (w_X4_has cI cJ cZ cQ a_t_sites a_t_sites_x a_t_sites_y a_t_sites_w t_sites_count)) hx hb hml hown hts hK hN (c_X4_has l D cI cJ cZ cQ a_t_sites a_t_sites_x a_t_sites_y a_t_sites_w t_sites_count x1 r1 hq2 H.size) (cwV 1 hts gX2_removes_X4_has rfl rfl rfl e_X4_has ⟨Nat.le_of_ble_eq_true rfl, Nat.le_of_ble_eq_true rfl⟩) hP hD [1] rfl (by decide) rfl rfl rfl rfl hl (Nat.le_of_ble_eq_true rfl) dX2_removes_5 ⟨Nat.zero_le _, Nat.zero_le _⟩ rfl) hP hD hS hA [1] [0, 2, 3, 4] [0, 4, 1, 2, 3] rfl rfl (by decide) (by decide) rfl (by decide) (fun H locs hP hD hS => ?_)
  refine lv_if_ne (tgt := 13) hx hb dX2_removes_8 (by decide) (fun c3 => ?_) (fun c3 => ?_)
  · replace hf := brF c3 hf
    refine lv_aload_n hx hb dX2_removes_13 rfl (lv_at hl 0 rfl) ?_
    refine va_get (D := D) (ci := 2) (v := .ref a_t_sites) (C := RX2) (T := TX2) (N := 3) hx hb hts iw_X2_removes_2 hown hK hP 0 rfl rfl 1 (by decide) (hts (.fieldLink RX2 18 "PowerDiagram$Script" "sites" "LPowerDiagram$Sites;") (List.mem_of_getElem? (i := 1) rfl)) (fun _ h9 => h9) rfl dX2_removes_14 ?_
    refine lv_iload_n hx hb dX2_removes_17 rfl (lv_at hl 1 rfl) ?_
    obtain ⟨u4, u5, u6, u7, hq8, hf⟩ := bnd4_of hf
    refine jnV (WB := (w_X2_removes cI cJ cZ cQ a_t a_t_cell a_t_sites a_t_sites_x a_t_sites_y a_t_sites_w t_found u4 u5 u6 u7)) (rnV (As := [.int x1]) (rest := []) (ci := 4) (q0 := 0) (W0 := (w_X4_drop cI cJ cZ cQ a_t_sites a_t_sites_x a_t_sites_y a_t_sites_w t_sites_count t_sites_x t_sites_y t_sites_w)) hx hb hml hown hts hK hN (c_X4_drop l D cI cJ cZ cQ a_t_sites a_t_sites_x a_t_sites_y a_t_sites_w t_sites_count t_sites_x t_sites_y t_sites_w x1 (u4, u5, u6, u7) hq8 H.size) (cwV 1 hts gX2_removes_X4_drop rfl rfl rfl e_X4_drop ⟨Nat.le_of_ble_eq_true rfl, Nat.le_of_ble_eq_true rfl⟩) hP hD [1, 2, 3, 4] rfl (by decide) rfl rfl rfl rfl hl (Nat.le_of_ble_eq_true rfl) dX2_removes_18 ⟨Nat.zero_le _, Nat.zero_le _⟩ rfl) hP hD hS hA [1, 2, 3, 4] [0] [0, 1, 2, 3, 4] rfl rfl (by decide) (by decide) rfl (by decide) (fun H locs hP hD hS => ?_)
    refine lv_aload_n hx hb dX2_removes_21 rfl (lv_at hl 0 rfl) ?_
    refine lv_iconst (v := (-1 : Int32)) hx hb dX2_removes_22 (by decide) ?_
    refine wrF (D := D) (ci := 2) (v := .int (-1 : Int32)) (ty := .int) (C := RX2) (T := TX2) (N := 3) (WB := (w_X2_removes cI cJ cZ cQ a_t a_t_cell a_t_sites a_t_sites_x a_t_sites_y a_t_sites_w (-1 : Int32) u4 u5 u6 u7)) hx hb hts iw_X2_removes_2 tyX2 tyX2_ok nmX2 hown hK hP hD hS 0 rfl rfl 2 (by decide) (hts (.fieldLink RX2 22 "PowerDiagram$Script" "found" "I") (List.mem_of_getElem? (i := 2) rfl)) (fun _ h9 => h9) rfl rfl rfl rfl (Nat.le_of_ble_eq_true rfl) dX2_removes_23 rfl (fun H locs hP hD hS => ?_)
    refine lv_iconst (v := (1 : Int32)) hx hb dX2_removes_26 (by decide) ?_
    obtain rfl := Option.some.inj hf
    exact endI (ty := .boolean) hC rfl rfl hP hD hS dX2_removes_27
  · replace hf := brT c3 hf
    refine lv_iconst (v := (0 : Int32)) hx hb dX2_removes_11 (by decide) ?_
    obtain rfl := Option.some.inj hf
    exact endI (ty := .boolean) hC rfl rfl hP hD hS dX2_removes_12
theorem c_X2_removes (l : Launch) (D : va_G) (cI cJ cZ cQ : ClassId) (a_t a_t_cell a_t_sites a_t_sites_x a_t_sites_y a_t_sites_w : Nat) (t_found : Int32) (t_sites_count : Int32) (t_sites_x : Nat → Int32) (t_sites_y : Nat → Int32) (t_sites_w : Nat → Int32) (p0 : Int32)  (res : R_X2_removes)  (hf : f_X2_removes_0  t_found t_sites_count t_sites_x t_sites_y t_sites_w p0 = some res) : MetI l D (tys4 cI cJ cZ cQ) yX2_removes wsX2_removes rm_X2_removes [.ref a_t, .int p0] (w_X2_removes cI cJ cZ cQ a_t a_t_cell a_t_sites a_t_sites_x a_t_sites_y a_t_sites_w t_found t_sites_count t_sites_x t_sites_y t_sites_w) (w_X2_removes cI cJ cZ cQ a_t a_t_cell a_t_sites a_t_sites_x a_t_sites_y a_t_sites_w res.2.1 res.2.2.1 res.2.2.2.1 res.2.2.2.2.1 res.2.2.2.2.2) res.1 := by
  intro sz
  exact metW (own := RX2) (cc := cX2_removes) (nL := 2) (ret := (some .boolean)) (Qc := fun A => qI D (tys4 cI cJ cZ cQ) (w_X2_removes cI cJ cZ cQ a_t a_t_cell a_t_sites a_t_sites_x a_t_sites_y a_t_sites_w res.2.1 res.2.2.1 res.2.2.2.1 res.2.2.2.2.1 res.2.2.2.2.2) A res.1) (by decide) rfl rfl (Nat.le_of_ble_eq_true rfl) (fun p e s m args below meth c A hC hP hD hS ls hl => t_X2_removes_0 hC  t_found t_sites_count t_sites_x t_sites_y t_sites_w p0 hf _ _ hP hD hS _ (lv_sub hl [0, 1] rfl)) sz
theorem e_X2_removes : yX2_removes.cls = RX2 ∧ yX2_removes.cls ≠ "java/lang/invoke/MethodHandle" ∧ yX2_removes.cls ≠ "java/lang/invoke/VarHandle" ∧ (parseMethodDescriptor yX2_removes.desc).map (fun d => d.parameters.length) = some 1 := by decide +kernel
/-! X5_isWeight -/
def w_X5_isWeight (cI cJ cZ cQ : ClassId)  : va_W := []
abbrev rm_X5_isWeight : Room := { frames := 0, cells := 0, slots := 0, locals := 0 }
def S_X5_isWeight_0 (p : Program) (l : Launch) (e : Env) (s : State) (m : MethodId) (args : Array Value) (below : List Frame) (meth : Method) (c : Code) (A : Nat → Prop) (D : va_G) (cI cJ cZ cQ : ClassId)  (res : R_X5_isWeight) (k : Int32 → Option R_X5_isWeight) : Prop := ∀ (x0 : Int32), k x0 = some res → ∀ (H : Heap) (locs : List Loc), va_P D vwCl (w_X5_isWeight cI cJ cZ cQ) H → va_D A (w_X5_isWeight cI cJ cZ cQ) → va_S A s.heap H locs → ∀ ls : Array Slot, lv_has ls 1 [(0, .int x0)] → W p l e (headSpec wsX5_isWeight rm_X5_isWeight).room s m args below meth c H locs 0 0 (MQ below (qI D (tys4 cI cJ cZ cQ) (w_X5_isWeight cI cJ cZ cQ) A res) args s 0 0 A) (F0 m 0 ls [])
set_option maxHeartbeats 4000000 in
set_option maxRecDepth 100000 in
theorem t_X5_isWeight_0 {p : Program} {l : Launch} {e : Env} {s : State} {m : MethodId} {args : Array Value} {below : List Frame} {meth : Method} {c : Code} {A : Nat → Prop} {D : va_G} {cI cJ cZ cQ : ClassId}   {res : R_X5_isWeight}   (hC : mcx RX5 cX5_isWeight (some .boolean) 1 wsX5_isWeight p s m args meth c A D (tys4 cI cJ cZ cQ))   : S_X5_isWeight_0 p l e s m args below meth c A D cI cJ cZ cQ  res (f_X5_isWeight_0  ) := by
  intro x0 hf H locs hP hD hS ls hl
  obtain ⟨hx, hb, hr, hml, hown, hts, hlocks, hA, hK, hN⟩ := id hC
  unfold f_X5_isWeight_0 at hf
  refine lv_iload_n hx hb dX5_isWeight_0 rfl (lv_at hl 0 rfl) ?_
  refine lv_if_lt (tgt := 15) hx hb dX5_isWeight_1 (by decide) (fun c1 => ?_) (fun c1 => ?_)
  · replace hf := brT c1 hf
    refine lv_iconst (v := (0 : Int32)) hx hb dX5_isWeight_15 (by decide) ?_
    obtain rfl := Option.some.inj hf
    exact endI (ty := .boolean) hC rfl rfl hP hD hS dX5_isWeight_16
  · replace hf := brF c1 hf
    refine lv_iload_n hx hb dX5_isWeight_4 rfl (lv_at hl 0 rfl) ?_
    refine lv_sipush (v := (400 : Int32)) hx hb dX5_isWeight_5 (by decide) ?_
    refine lv_icmp_gt (tgt := 15) hx hb dX5_isWeight_8 (by decide) (fun c2 => ?_) (fun c2 => ?_)
    · replace hf := brT c2 hf
      refine lv_iconst (v := (0 : Int32)) hx hb dX5_isWeight_15 (by decide) ?_
      obtain rfl := Option.some.inj hf
      exact endI (ty := .boolean) hC rfl rfl hP hD hS dX5_isWeight_16
    · replace hf := brF c2 hf
      refine lv_iconst (v := (1 : Int32)) hx hb dX5_isWeight_11 (by decide) ?_
      refine lv_goto (tgt := 16) hx hb dX5_isWeight_12 (by decide) ?_
      obtain rfl := Option.some.inj hf
      exact endI (ty := .boolean) hC rfl rfl hP hD hS dX5_isWeight_16
theorem c_X5_isWeight (l : Launch) (D : va_G) (cI cJ cZ cQ : ClassId)  (p0 : Int32)  (res : R_X5_isWeight)  (hf : f_X5_isWeight_0  p0 = some res) : MetI l D (tys4 cI cJ cZ cQ) yX5_isWeight wsX5_isWeight rm_X5_isWeight [.int p0] (w_X5_isWeight cI cJ cZ cQ) (w_X5_isWeight cI cJ cZ cQ) res := by
  intro sz
  exact metW (own := RX5) (cc := cX5_isWeight) (nL := 1) (ret := (some .boolean)) (Qc := fun A => qI D (tys4 cI cJ cZ cQ) (w_X5_isWeight cI cJ cZ cQ) A res) (by decide) rfl rfl (Nat.le_of_ble_eq_true rfl) (fun p e s m args below meth c A hC hP hD hS ls hl => t_X5_isWeight_0 hC  p0 hf _ _ hP hD hS _ (lv_sub hl [0] rfl)) sz
theorem e_X5_isWeight : yX5_isWeight.cls ≠ "java/lang/invoke/MethodHandle" ∧ yX5_isWeight.cls ≠ "java/lang/invoke/VarHandle" ∧ (parseMethodDescriptor yX5_isWeight.desc).map (fun d => d.parameters.length) = some 1 := by decide +kernel
/-! X2_weighs -/
theorem iw_X2_weighs_2 : ∀ w ∈ wsX20, w ∈ wsX2_weighs := fun _ h => List.mem_cons_of_mem _ (List.mem_append_left _ (List.mem_append_right _ h))
theorem iw_X2_weighs_4 : ∀ w ∈ wsX40, w ∈ wsX2_weighs := fun _ h => List.mem_cons_of_mem _ (List.mem_append_right _ h)
def w_X2_weighs (cI cJ cZ cQ : ClassId) (a_t a_t_cell a_t_sites a_t_sites_x a_t_sites_y a_t_sites_w : Nat) (t_found : Int32) (t_sites_count : Int32) (t_sites_w : Nat → Int32) : va_W := [(a_t, .inr (2, [.ref a_t_cell, .ref a_t_sites, .int t_found])), (a_t_sites, .inr (4, [.ref a_t_sites_x, .ref a_t_sites_y, .ref a_t_sites_w, .int t_sites_count])), (a_t_sites_w, .inl (cI, 10, .inl t_sites_w))]
abbrev rm_X2_weighs : Room := { frames := 1, cells := 0, slots := 0, locals := 21 }
def S_X2_weighs_0 (p : Program) (l : Launch) (e : Env) (s : State) (m : MethodId) (args : Array Value) (below : List Frame) (meth : Method) (c : Code) (A : Nat → Prop) (D : va_G) (cI cJ cZ cQ : ClassId) (a_t a_t_cell a_t_sites a_t_sites_x a_t_sites_y a_t_sites_w : Nat) (t_found : Int32) (t_sites_count : Int32) (res : R_X2_weighs) (k : (Nat → Int32) → Int32 → Int32 → Option R_X2_weighs) : Prop := ∀ (t_sites_w : Nat → Int32) (x1 : Int32) (x2 : Int32), k t_sites_w x1 x2 = some res → ∀ (H : Heap) (locs : List Loc), va_P D vwCl (w_X2_weighs cI cJ cZ cQ a_t a_t_cell a_t_sites a_t_sites_x a_t_sites_y a_t_sites_w t_found t_sites_count t_sites_w) H → va_D A (w_X2_weighs cI cJ cZ cQ a_t a_t_cell a_t_sites a_t_sites_x a_t_sites_y a_t_sites_w t_found t_sites_count t_sites_w) → va_S A s.heap H locs → ∀ ls : Array Slot, lv_has ls 3 [(0, .ref a_t), (1, .int x1), (2, .int x2)] → W p l e (headSpec wsX2_weighs rm_X2_weighs).room s m args below meth c H locs 0 0 (MQ below (qI D (tys4 cI cJ cZ cQ) (w_X2_weighs cI cJ cZ cQ a_t a_t_cell a_t_sites a_t_sites_x a_t_sites_y a_t_sites_w t_found t_sites_count res.2) A res.1) args s 0 0 A) (F0 m 0 ls [])
set_option maxHeartbeats 4000000 in
set_option maxRecDepth 100000 in
theorem t_X2_weighs_0 {p : Program} {l : Launch} {e : Env} {s : State} {m : MethodId} {args : Array Value} {below : List Frame} {meth : Method} {c : Code} {A : Nat → Prop} {D : va_G} {cI cJ cZ cQ : ClassId} {a_t a_t_cell a_t_sites a_t_sites_x a_t_sites_y a_t_sites_w : Nat} {t_found : Int32} {t_sites_count : Int32} {res : R_X2_weighs}   (hC : mcx RX2 cX2_weighs (some .boolean) 3 wsX2_weighs p s m args meth c A D (tys4 cI cJ cZ cQ))   : S_X2_weighs_0 p l e s m args below meth c A D cI cJ cZ cQ a_t a_t_cell a_t_sites a_t_sites_x a_t_sites_y a_t_sites_w t_found t_sites_count res (f_X2_weighs_0  t_sites_count) := by
  intro t_sites_w x1 x2 hf H locs hP hD hS ls hl
  obtain ⟨hx, hb, hr, hml, hown, hts, hlocks, hA, hK, hN⟩ := id hC
  unfold f_X2_weighs_0 at hf
  refine lv_aload_n hx hb dX2_weighs_0 rfl (lv_at hl 0 rfl) ?_
  refine va_get (D := D) (ci := 2) (v := .ref a_t_sites) (C := RX2) (T := TX2) (N := 3) hx hb hts iw_X2_weighs_2 hown hK hP 0 rfl rfl 1 (by decide) (hts (.fieldLink RX2 18 "PowerDiagram$Script" "sites" "LPowerDiagram$Sites;") (List.mem_of_getElem? (i := 1) rfl)) (fun _ h9 => h9) rfl dX2_weighs_1 ?_
  refine lv_iload_n hx hb dX2_weighs_4 rfl (lv_at hl 1 rfl) ?_
  obtain ⟨r1, hq2, hf⟩ := bnd_of hf
  refine jnI (WB := (w_X2_weighs cI cJ cZ cQ a_t a_t_cell a_t_sites a_t_sites_x a_t_sites_y a_t_sites_w t_found t_sites_count t_sites_w)) (rnV (As := [.int x1]) (rest := []) (ci := 4) (q0 := 0) (W0 := (w_X4_has cI cJ cZ cQ a_t_sites a_t_sites_x a_t_sites_y a_t_sites_w t_sites_count)) hx hb hml hown hts hK hN (c_X4_has l D cI cJ cZ cQ a_t_sites a_t_sites_x a_t_sites_y a_t_sites_w t_sites_count x1 r1 hq2 H.size) (cwV 1 hts gX2_weighs_X4_has rfl rfl rfl e_X4_has ⟨Nat.le_of_ble_eq_true rfl, Nat.le_of_ble_eq_true rfl⟩) hP hD [1] rfl (by decide) rfl rfl rfl rfl hl (Nat.le_of_ble_eq_true rfl) dX2_weighs_5 ⟨Nat.zero_le _, Nat.zero_le _⟩ rfl) hP hD hS hA [1] [0, 2] [0, 2, 1] rfl rfl (by decide) (by decide) rfl (by decide) (fun H locs hP hD hS => ?_)
  refine lv_if_eq (tgt := 18) hx hb dX2_weighs_8 (by decide) (fun c3 => ?_) (fun c3 => ?_)
  · replace hf := brT c3 hf
    refine lv_iconst (v := (0 : Int32)) hx hb dX2_weighs_18 (by decide) ?_
    obtain rfl := Option.some.inj hf
    exact endI (ty := .boolean) hC rfl rfl hP hD hS dX2_weighs_19
  · replace hf := brF c3 hf
    refine lv_iload_n hx hb dX2_weighs_11 rfl (lv_at hl 2 rfl) ?_
    obtain ⟨r4, hq5, hf⟩ := bnd_of hf
    refine jnI (WB := (w_X2_weighs cI cJ cZ cQ a_t a_t_cell a_t_sites a_t_sites_x a_t_sites_y a_t_sites_w t_found t_sites_count t_sites_w)) (rnSN (As := [.int x2]) (rest := []) (W0 := (w_X5_isWeight cI cJ cZ cQ )) hx hb hml hown hts hK hN (c_X5_isWeight l D cI cJ cZ cQ x2 r4 hq5 H.size) ⟨va_cnB 1 hts gX2_weighs_X5_isWeight_n58 rfl rfl rfl hN.1 (hts (.initialized RX5) (List.mem_of_getElem? (i := 10) rfl)) e_X5_isWeight ⟨Nat.le_of_ble_eq_true rfl, Nat.le_of_ble_eq_true rfl⟩, (hts (.static yX5_isWeight) (List.mem_of_getElem? (i := 9) rfl)), trivial⟩ hP hD [] rfl (by decide) rfl hl (Nat.le_of_ble_eq_true rfl) dX2_weighs_12 ⟨Nat.zero_le _, Nat.zero_le _⟩ rfl) hP hD hS hA [] [0, 1, 2] [0, 1, 2] rfl rfl (by decide) (by decide) rfl (by decide) (fun H locs hP hD hS => ?_)
    refine lv_if_ne (tgt := 20) hx hb dX2_weighs_15 (by decide) (fun c6 => ?_) (fun c6 => ?_)
    · replace hf := brF c6 hf
      refine lv_aload_n hx hb dX2_weighs_20 rfl (lv_at hl 0 rfl) ?_
      refine va_get (D := D) (ci := 2) (v := .ref a_t_sites) (C := RX2) (T := TX2) (N := 3) hx hb hts iw_X2_weighs_2 hown hK hP 0 rfl rfl 1 (by decide) (hts (.fieldLink RX2 18 "PowerDiagram$Script" "sites" "LPowerDiagram$Sites;") (List.mem_of_getElem? (i := 1) rfl)) (fun _ h9 => h9) rfl dX2_weighs_21 ?_
      refine va_get (D := D) (ci := 4) (v := .ref a_t_sites_w) (C := RX4) (T := TX4) (N := 4) hx hb hts iw_X2_weighs_4 hown hK hP 1 rfl rfl 2 (by decide) (hts (.fieldLink RX2 61 "PowerDiagram$Sites" "w" "[I") (List.mem_of_getElem? (i := 2) rfl)) (fun _ h9 => h9) rfl dX2_weighs_24 ?_
      refine lv_iload_n hx hb dX2_weighs_27 rfl (lv_at hl 1 rfl) ?_
      refine lv_iload_n hx hb dX2_weighs_28 rfl (lv_at hl 2 rfl) ?_
      obtain ⟨h7, hf⟩ := gIx_of hf
      refine wrI (WB := (w_X2_weighs cI cJ cZ cQ a_t a_t_cell a_t_sites a_t_sites_x a_t_sites_y a_t_sites_w t_found t_sites_count (upd t_sites_w x1.toNatClampNeg x2))) hx hb hK hP hD hS 2 0 rfl rfl h7 dX2_weighs_29 rfl (fun H locs hP hD hS => ?_)
      refine lv_iconst (v := (1 : Int32)) hx hb dX2_weighs_30 (by decide) ?_
      obtain rfl := Option.some.inj hf
      exact endI (ty := .boolean) hC rfl rfl hP hD hS dX2_weighs_31
    · replace hf := brT c6 hf
      refine lv_iconst (v := (0 : Int32)) hx hb dX2_weighs_18 (by decide) ?_
      obtain rfl := Option.some.inj hf
      exact endI (ty := .boolean) hC rfl rfl hP hD hS dX2_weighs_19
theorem c_X2_weighs (l : Launch) (D : va_G) (cI cJ cZ cQ : ClassId) (a_t a_t_cell a_t_sites a_t_sites_x a_t_sites_y a_t_sites_w : Nat) (t_found : Int32) (t_sites_count : Int32) (t_sites_w : Nat → Int32) (p0 : Int32) (p1 : Int32)  (res : R_X2_weighs)  (hf : f_X2_weighs_0 t_sites_count t_sites_w p0 p1 = some res) : MetI l D (tys4 cI cJ cZ cQ) yX2_weighs wsX2_weighs rm_X2_weighs [.ref a_t, .int p0, .int p1] (w_X2_weighs cI cJ cZ cQ a_t a_t_cell a_t_sites a_t_sites_x a_t_sites_y a_t_sites_w t_found t_sites_count t_sites_w) (w_X2_weighs cI cJ cZ cQ a_t a_t_cell a_t_sites a_t_sites_x a_t_sites_y a_t_sites_w t_found t_sites_count res.2) res.1 := by
  intro sz
  exact metW (own := RX2) (cc := cX2_weighs) (nL := 3) (ret := (some .boolean)) (Qc := fun A => qI D (tys4 cI cJ cZ cQ) (w_X2_weighs cI cJ cZ cQ a_t a_t_cell a_t_sites a_t_sites_x a_t_sites_y a_t_sites_w t_found t_sites_count res.2) A res.1) (by decide) rfl rfl (Nat.le_of_ble_eq_true rfl) (fun p e s m args below meth c A hC hP hD hS ls hl => t_X2_weighs_0 hC  t_sites_w p0 p1 hf _ _ hP hD hS _ (lv_sub hl [0, 1, 2] rfl)) sz
theorem e_X2_weighs : yX2_weighs.cls = RX2 ∧ yX2_weighs.cls ≠ "java/lang/invoke/MethodHandle" ∧ yX2_weighs.cls ≠ "java/lang/invoke/VarHandle" ∧ (parseMethodDescriptor yX2_weighs.desc).map (fun d => d.parameters.length) = some 2 := by decide +kernel
/-! X5_inSquare -/
def w_X5_inSquare (cI cJ cZ cQ : ClassId)  : va_W := []
abbrev rm_X5_inSquare : Room := { frames := 0, cells := 0, slots := 0, locals := 0 }
def S_X5_inSquare_0 (p : Program) (l : Launch) (e : Env) (s : State) (m : MethodId) (args : Array Value) (below : List Frame) (meth : Method) (c : Code) (A : Nat → Prop) (D : va_G) (cI cJ cZ cQ : ClassId)  (res : R_X5_inSquare) (k : Int32 → Int32 → Option R_X5_inSquare) : Prop := ∀ (x0 : Int32) (x1 : Int32), k x0 x1 = some res → ∀ (H : Heap) (locs : List Loc), va_P D vwCl (w_X5_inSquare cI cJ cZ cQ) H → va_D A (w_X5_inSquare cI cJ cZ cQ) → va_S A s.heap H locs → ∀ ls : Array Slot, lv_has ls 2 [(0, .int x0), (1, .int x1)] → W p l e (headSpec wsX5_inSquare rm_X5_inSquare).room s m args below meth c H locs 0 0 (MQ below (qI D (tys4 cI cJ cZ cQ) (w_X5_inSquare cI cJ cZ cQ) A res) args s 0 0 A) (F0 m 0 ls [])
set_option maxHeartbeats 4000000 in
set_option maxRecDepth 100000 in
theorem t_X5_inSquare_0 {p : Program} {l : Launch} {e : Env} {s : State} {m : MethodId} {args : Array Value} {below : List Frame} {meth : Method} {c : Code} {A : Nat → Prop} {D : va_G} {cI cJ cZ cQ : ClassId}   {res : R_X5_inSquare}   (hC : mcx RX5 cX5_inSquare (some .boolean) 2 wsX5_inSquare p s m args meth c A D (tys4 cI cJ cZ cQ))   : S_X5_inSquare_0 p l e s m args below meth c A D cI cJ cZ cQ  res (f_X5_inSquare_0  ) := by
  intro x0 x1 hf H locs hP hD hS ls hl
  obtain ⟨hx, hb, hr, hml, hown, hts, hlocks, hA, hK, hN⟩ := id hC
  unfold f_X5_inSquare_0 at hf
  refine lv_iload_n hx hb dX5_inSquare_0 rfl (lv_at hl 0 rfl) ?_
  refine lv_if_lt (tgt := 24) hx hb dX5_inSquare_1 (by decide) (fun c1 => ?_) (fun c1 => ?_)
  · replace hf := brT c1 hf
    refine lv_iconst (v := (0 : Int32)) hx hb dX5_inSquare_24 (by decide) ?_
    obtain rfl := Option.some.inj hf
    exact endI (ty := .boolean) hC rfl rfl hP hD hS dX5_inSquare_25
  · replace hf := brF c1 hf
    refine lv_iload_n hx hb dX5_inSquare_4 rfl (lv_at hl 0 rfl) ?_
    refine lv_bipush (v := (20 : Int32)) hx hb dX5_inSquare_5 (by decide) ?_
    refine lv_icmp_gt (tgt := 24) hx hb dX5_inSquare_7 (by decide) (fun c2 => ?_) (fun c2 => ?_)
    · replace hf := brT c2 hf
      refine lv_iconst (v := (0 : Int32)) hx hb dX5_inSquare_24 (by decide) ?_
      obtain rfl := Option.some.inj hf
      exact endI (ty := .boolean) hC rfl rfl hP hD hS dX5_inSquare_25
    · replace hf := brF c2 hf
      refine lv_iload_n hx hb dX5_inSquare_10 rfl (lv_at hl 1 rfl) ?_
      refine lv_if_lt (tgt := 24) hx hb dX5_inSquare_11 (by decide) (fun c3 => ?_) (fun c3 => ?_)
      · replace hf := brT c3 hf
        refine lv_iconst (v := (0 : Int32)) hx hb dX5_inSquare_24 (by decide) ?_
        obtain rfl := Option.some.inj hf
        exact endI (ty := .boolean) hC rfl rfl hP hD hS dX5_inSquare_25
      · replace hf := brF c3 hf
        refine lv_iload_n hx hb dX5_inSquare_14 rfl (lv_at hl 1 rfl) ?_
        refine lv_bipush (v := (20 : Int32)) hx hb dX5_inSquare_15 (by decide) ?_
        refine lv_icmp_gt (tgt := 24) hx hb dX5_inSquare_17 (by decide) (fun c4 => ?_) (fun c4 => ?_)
        · replace hf := brT c4 hf
          refine lv_iconst (v := (0 : Int32)) hx hb dX5_inSquare_24 (by decide) ?_
          obtain rfl := Option.some.inj hf
          exact endI (ty := .boolean) hC rfl rfl hP hD hS dX5_inSquare_25
        · replace hf := brF c4 hf
          refine lv_iconst (v := (1 : Int32)) hx hb dX5_inSquare_20 (by decide) ?_
          refine lv_goto (tgt := 25) hx hb dX5_inSquare_21 (by decide) ?_
          obtain rfl := Option.some.inj hf
          exact endI (ty := .boolean) hC rfl rfl hP hD hS dX5_inSquare_25
theorem c_X5_inSquare (l : Launch) (D : va_G) (cI cJ cZ cQ : ClassId)  (p0 : Int32) (p1 : Int32)  (res : R_X5_inSquare)  (hf : f_X5_inSquare_0  p0 p1 = some res) : MetI l D (tys4 cI cJ cZ cQ) yX5_inSquare wsX5_inSquare rm_X5_inSquare [.int p0, .int p1] (w_X5_inSquare cI cJ cZ cQ) (w_X5_inSquare cI cJ cZ cQ) res := by
  intro sz
  exact metW (own := RX5) (cc := cX5_inSquare) (nL := 2) (ret := (some .boolean)) (Qc := fun A => qI D (tys4 cI cJ cZ cQ) (w_X5_inSquare cI cJ cZ cQ) A res) (by decide) rfl rfl (Nat.le_of_ble_eq_true rfl) (fun p e s m args below meth c A hC hP hD hS ls hl => t_X5_inSquare_0 hC  p0 p1 hf _ _ hP hD hS _ (lv_sub hl [0, 1] rfl)) sz
theorem e_X5_inSquare : yX5_inSquare.cls ≠ "java/lang/invoke/MethodHandle" ∧ yX5_inSquare.cls ≠ "java/lang/invoke/VarHandle" ∧ (parseMethodDescriptor yX5_inSquare.desc).map (fun d => d.parameters.length) = some 2 := by decide +kernel
/-! X2_finds -/
theorem iw_X2_finds_2 : ∀ w ∈ wsX20, w ∈ wsX2_finds := fun _ h => List.mem_cons_of_mem _ (List.mem_append_left _ (List.mem_append_right _ h))
theorem iw_X2_finds_4 : ∀ w ∈ wsX40, w ∈ wsX2_finds := fun _ h => List.mem_cons_of_mem _ (List.mem_append_right _ h)
def w_X2_finds (cI cJ cZ cQ : ClassId) (a_t a_t_cell a_t_sites a_t_sites_x a_t_sites_y a_t_sites_w : Nat) (t_found : Int32) (t_sites_count : Int32) (t_sites_x : Nat → Int32) (t_sites_y : Nat → Int32) (t_sites_w : Nat → Int32) : va_W := [(a_t, .inr (2, [.ref a_t_cell, .ref a_t_sites, .int t_found])), (a_t_sites, .inr (4, [.ref a_t_sites_x, .ref a_t_sites_y, .ref a_t_sites_w, .int t_sites_count])), (a_t_sites_x, .inl (cI, 10, .inl t_sites_x)), (a_t_sites_y, .inl (cI, 10, .inl t_sites_y)), (a_t_sites_w, .inl (cI, 10, .inl t_sites_w))]
abbrev rm_X2_finds : Room := { frames := 4, cells := 0, slots := 0, locals := 97 }
def S_X2_finds_0 (p : Program) (l : Launch) (e : Env) (s : State) (m : MethodId) (args : Array Value) (below : List Frame) (meth : Method) (c : Code) (A : Nat → Prop) (D : va_G) (cI cJ cZ cQ : ClassId) (a_t a_t_cell a_t_sites a_t_sites_x a_t_sites_y a_t_sites_w : Nat) (t_sites_count : Int32) (t_sites_x : Nat → Int32) (t_sites_y : Nat → Int32) (t_sites_w : Nat → Int32) (res : R_X2_finds) (k : Int32 → Int32 → Int32 → Option R_X2_finds) : Prop := ∀ (t_found : Int32) (x1 : Int32) (x2 : Int32), k t_found x1 x2 = some res → ∀ (H : Heap) (locs : List Loc), va_P D vwCl (w_X2_finds cI cJ cZ cQ a_t a_t_cell a_t_sites a_t_sites_x a_t_sites_y a_t_sites_w t_found t_sites_count t_sites_x t_sites_y t_sites_w) H → va_D A (w_X2_finds cI cJ cZ cQ a_t a_t_cell a_t_sites a_t_sites_x a_t_sites_y a_t_sites_w t_found t_sites_count t_sites_x t_sites_y t_sites_w) → va_S A s.heap H locs → ∀ ls : Array Slot, lv_has ls 3 [(0, .ref a_t), (1, .int x1), (2, .int x2)] → W p l e (headSpec wsX2_finds rm_X2_finds).room s m args below meth c H locs 0 0 (MQ below (qI D (tys4 cI cJ cZ cQ) (w_X2_finds cI cJ cZ cQ a_t a_t_cell a_t_sites a_t_sites_x a_t_sites_y a_t_sites_w res.2 t_sites_count t_sites_x t_sites_y t_sites_w) A res.1) args s 0 0 A) (F0 m 0 ls [])
set_option maxHeartbeats 4000000 in
set_option maxRecDepth 100000 in
theorem t_X2_finds_0 {p : Program} {l : Launch} {e : Env} {s : State} {m : MethodId} {args : Array Value} {below : List Frame} {meth : Method} {c : Code} {A : Nat → Prop} {D : va_G} {cI cJ cZ cQ : ClassId} {a_t a_t_cell a_t_sites a_t_sites_x a_t_sites_y a_t_sites_w : Nat} {t_sites_count : Int32} {t_sites_x : Nat → Int32} {t_sites_y : Nat → Int32} {t_sites_w : Nat → Int32} {res : R_X2_finds}   (hC : mcx RX2 cX2_finds (some .boolean) 3 wsX2_finds p s m args meth c A D (tys4 cI cJ cZ cQ))   : S_X2_finds_0 p l e s m args below meth c A D cI cJ cZ cQ a_t a_t_cell a_t_sites a_t_sites_x a_t_sites_y a_t_sites_w t_sites_count t_sites_x t_sites_y t_sites_w res (f_X2_finds_0  t_sites_count t_sites_x t_sites_y t_sites_w) := by
  intro t_found x1 x2 hf H locs hP hD hS ls hl
  obtain ⟨hx, hb, hr, hml, hown, hts, hlocks, hA, hK, hN⟩ := id hC
  unfold f_X2_finds_0 at hf
  refine lv_iload_n hx hb dX2_finds_0 rfl (lv_at hl 1 rfl) ?_
  refine lv_iload_n hx hb dX2_finds_1 rfl (lv_at hl 2 rfl) ?_
  obtain ⟨r1, hq2, hf⟩ := bnd_of hf
  refine jnI (WB := (w_X2_finds cI cJ cZ cQ a_t a_t_cell a_t_sites a_t_sites_x a_t_sites_y a_t_sites_w t_found t_sites_count t_sites_x t_sites_y t_sites_w)) (rnSN (As := [.int x1, .int x2]) (rest := []) (W0 := (w_X5_inSquare cI cJ cZ cQ )) hx hb hml hown hts hK hN (c_X5_inSquare l D cI cJ cZ cQ x1 x2 r1 hq2 H.size) ⟨va_cnB 2 hts gX2_finds_X5_inSquare_n65 rfl rfl rfl hN.2.1 (hts (.initialized RX5) (List.mem_of_getElem? (i := 5) rfl)) e_X5_inSquare ⟨Nat.le_of_ble_eq_true rfl, Nat.le_of_ble_eq_true rfl⟩, (hts (.static yX5_inSquare) (List.mem_of_getElem? (i := 4) rfl)), trivial⟩ hP hD [] rfl (by decide) rfl hl (Nat.le_of_ble_eq_true rfl) dX2_finds_2 ⟨Nat.zero_le _, Nat.zero_le _⟩ rfl) hP hD hS hA [] [0, 1, 2, 3, 4] [0, 1, 2, 3, 4] rfl rfl (by decide) (by decide) rfl (by decide) (fun H locs hP hD hS => ?_)
  refine lv_if_eq (tgt := 18) hx hb dX2_finds_5 (by decide) (fun c3 => ?_) (fun c3 => ?_)
  · replace hf := brT c3 hf
    refine lv_iconst (v := (0 : Int32)) hx hb dX2_finds_18 (by decide) ?_
    obtain rfl := Option.some.inj hf
    exact endI (ty := .boolean) hC rfl rfl hP hD hS dX2_finds_19
  · replace hf := brF c3 hf
    refine lv_aload_n hx hb dX2_finds_8 rfl (lv_at hl 0 rfl) ?_
    refine va_get (D := D) (ci := 2) (v := .ref a_t_sites) (C := RX2) (T := TX2) (N := 3) hx hb hts iw_X2_finds_2 hown hK hP 0 rfl rfl 1 (by decide) (hts (.fieldLink RX2 18 "PowerDiagram$Script" "sites" "LPowerDiagram$Sites;") (List.mem_of_getElem? (i := 1) rfl)) (fun _ h9 => h9) rfl dX2_finds_9 ?_
    refine va_get (D := D) (ci := 4) (v := .int t_sites_count) (C := RX4) (T := TX4) (N := 4) hx hb hts iw_X2_finds_4 hown hK hP 1 rfl rfl 3 (by decide) (hts (.fieldLink RX2 68 "PowerDiagram$Sites" "count" "I") (List.mem_of_getElem? (i := 2) rfl)) (fun _ h9 => h9) rfl dX2_finds_12 ?_
    refine lv_if_ne (tgt := 20) hx hb dX2_finds_15 (by decide) (fun c4 => ?_) (fun c4 => ?_)
    · replace hf := brF c4 hf
      refine lv_aload_n hx hb dX2_finds_20 rfl (lv_at hl 0 rfl) ?_
      refine lv_aload_n hx hb dX2_finds_21 rfl (lv_at hl 0 rfl) ?_
      refine va_get (D := D) (ci := 2) (v := .ref a_t_sites) (C := RX2) (T := TX2) (N := 3) hx hb hts iw_X2_finds_2 hown hK hP 0 rfl rfl 1 (by decide) (hts (.fieldLink RX2 18 "PowerDiagram$Script" "sites" "LPowerDiagram$Sites;") (List.mem_of_getElem? (i := 1) rfl)) (fun _ h9 => h9) rfl dX2_finds_22 ?_
      refine lv_iload_n hx hb dX2_finds_25 rfl (lv_at hl 1 rfl) ?_
      refine lv_iload_n hx hb dX2_finds_26 rfl (lv_at hl 2 rfl) ?_
      obtain ⟨r5, hq6, hf⟩ := bnd_of hf
      refine jnI (WB := (w_X2_finds cI cJ cZ cQ a_t a_t_cell a_t_sites a_t_sites_x a_t_sites_y a_t_sites_w t_found t_sites_count t_sites_x t_sites_y t_sites_w)) (rnV (As := [.int x1, .int x2]) (rest := [.ref a_t]) (ci := 4) (q0 := 0) (W0 := (w_X4_ownerAt cI cJ cZ cQ a_t_sites a_t_sites_x a_t_sites_y a_t_sites_w t_sites_count t_sites_x t_sites_y t_sites_w)) hx hb hml hown hts hK hN (c_X4_ownerAt l D cI cJ cZ cQ a_t_sites a_t_sites_x a_t_sites_y a_t_sites_w t_sites_count t_sites_x t_sites_y t_sites_w x1 x2 r5 hq6 H.size) (cwV 2 hts gX2_finds_X4_ownerAt rfl rfl rfl e_X4_ownerAt ⟨Nat.le_of_ble_eq_true rfl, Nat.le_of_ble_eq_true rfl⟩) hP hD [1, 2, 3, 4] rfl (by decide) rfl rfl rfl rfl hl (Nat.le_of_ble_eq_true rfl) dX2_finds_27 ⟨Nat.zero_le _, Nat.zero_le _⟩ rfl) hP hD hS hA [1, 2, 3, 4] [0] [0, 1, 2, 3, 4] rfl rfl (by decide) (by decide) rfl (by decide) (fun H locs hP hD hS => ?_)
      refine wrF (D := D) (ci := 2) (v := .int r5) (ty := .int) (C := RX2) (T := TX2) (N := 3) (WB := (w_X2_finds cI cJ cZ cQ a_t a_t_cell a_t_sites a_t_sites_x a_t_sites_y a_t_sites_w r5 t_sites_count t_sites_x t_sites_y t_sites_w)) hx hb hts iw_X2_finds_2 tyX2 tyX2_ok nmX2 hown hK hP hD hS 0 rfl rfl 2 (by decide) (hts (.fieldLink RX2 22 "PowerDiagram$Script" "found" "I") (List.mem_of_getElem? (i := 3) rfl)) (fun _ h9 => h9) rfl rfl rfl rfl (Nat.le_of_ble_eq_true rfl) dX2_finds_30 rfl (fun H locs hP hD hS => ?_)
      refine lv_iconst (v := (1 : Int32)) hx hb dX2_finds_33 (by decide) ?_
      obtain rfl := Option.some.inj hf
      exact endI (ty := .boolean) hC rfl rfl hP hD hS dX2_finds_34
    · replace hf := brT c4 hf
      refine lv_iconst (v := (0 : Int32)) hx hb dX2_finds_18 (by decide) ?_
      obtain rfl := Option.some.inj hf
      exact endI (ty := .boolean) hC rfl rfl hP hD hS dX2_finds_19
theorem c_X2_finds (l : Launch) (D : va_G) (cI cJ cZ cQ : ClassId) (a_t a_t_cell a_t_sites a_t_sites_x a_t_sites_y a_t_sites_w : Nat) (t_found : Int32) (t_sites_count : Int32) (t_sites_x : Nat → Int32) (t_sites_y : Nat → Int32) (t_sites_w : Nat → Int32) (p0 : Int32) (p1 : Int32)  (res : R_X2_finds)  (hf : f_X2_finds_0 t_sites_count t_sites_x t_sites_y t_sites_w t_found p0 p1 = some res) : MetI l D (tys4 cI cJ cZ cQ) yX2_finds wsX2_finds rm_X2_finds [.ref a_t, .int p0, .int p1] (w_X2_finds cI cJ cZ cQ a_t a_t_cell a_t_sites a_t_sites_x a_t_sites_y a_t_sites_w t_found t_sites_count t_sites_x t_sites_y t_sites_w) (w_X2_finds cI cJ cZ cQ a_t a_t_cell a_t_sites a_t_sites_x a_t_sites_y a_t_sites_w res.2 t_sites_count t_sites_x t_sites_y t_sites_w) res.1 := by
  intro sz
  exact metW (own := RX2) (cc := cX2_finds) (nL := 3) (ret := (some .boolean)) (Qc := fun A => qI D (tys4 cI cJ cZ cQ) (w_X2_finds cI cJ cZ cQ a_t a_t_cell a_t_sites a_t_sites_x a_t_sites_y a_t_sites_w res.2 t_sites_count t_sites_x t_sites_y t_sites_w) A res.1) (by decide) rfl rfl (Nat.le_of_ble_eq_true rfl) (fun p e s m args below meth c A hC hP hD hS ls hl => t_X2_finds_0 hC  t_found p0 p1 hf _ _ hP hD hS _ (lv_sub hl [0, 1, 2] rfl)) sz
theorem e_X2_finds : yX2_finds.cls = RX2 ∧ yX2_finds.cls ≠ "java/lang/invoke/MethodHandle" ∧ yX2_finds.cls ≠ "java/lang/invoke/VarHandle" ∧ (parseMethodDescriptor yX2_finds.desc).map (fun d => d.parameters.length) = some 2 := by decide +kernel
/-! X2_succeeds -/
theorem iw_X2_succeeds_2 : ∀ w ∈ wsX20, w ∈ wsX2_succeeds := fun _ h => List.mem_cons_of_mem _ (List.mem_append_left _ (List.mem_append_left _ (List.mem_append_left _ (List.mem_append_right _ h))))
def w_X2_succeeds (cI cJ cZ cQ : ClassId) (a_t a_t_cell a_t_sites a_t_sites_x a_t_sites_y a_t_sites_w a_t_cell_planes a_t_cell_x a_t_cell_y a_t_cell_d a_t_cell_planes_a a_t_cell_planes_b a_t_cell_planes_c : Nat) (t_found : Int32) (t_sites_count : Int32) (t_sites_x : Nat → Int32) (t_sites_y : Nat → Int32) (t_sites_w : Nat → Int32) (t_cell_count : Int32) (t_cell_planes_count : Int32) (t_cell_planes_meetX : Int32) (t_cell_planes_meetY : Int32) (t_cell_planes_meetD : Int32) (t_cell_planes_a : Nat → Int32) (t_cell_planes_b : Nat → Int32) (t_cell_planes_c : Nat → Int32) (t_cell_d : Nat → Int32) (t_cell_x : Nat → Int32) (t_cell_y : Nat → Int32) : va_W := [(a_t, .inr (2, [.ref a_t_cell, .ref a_t_sites, .int t_found])), (a_t_sites, .inr (4, [.ref a_t_sites_x, .ref a_t_sites_y, .ref a_t_sites_w, .int t_sites_count])), (a_t_sites_x, .inl (cI, 10, .inl t_sites_x)), (a_t_sites_y, .inl (cI, 10, .inl t_sites_y)), (a_t_sites_w, .inl (cI, 10, .inl t_sites_w)), (a_t_cell, .inr (0, [.ref a_t_cell_planes, .ref a_t_cell_x, .ref a_t_cell_y, .ref a_t_cell_d, .int t_cell_count])), (a_t_cell_planes, .inr (1, [.ref a_t_cell_planes_a, .ref a_t_cell_planes_b, .ref a_t_cell_planes_c, .int t_cell_planes_count, .int t_cell_planes_meetX, .int t_cell_planes_meetY, .int t_cell_planes_meetD])), (a_t_cell_planes_a, .inl (cI, 14, .inl t_cell_planes_a)), (a_t_cell_planes_b, .inl (cI, 14, .inl t_cell_planes_b)), (a_t_cell_planes_c, .inl (cI, 14, .inl t_cell_planes_c)), (a_t_cell_d, .inl (cI, 14, .inl t_cell_d)), (a_t_cell_x, .inl (cI, 14, .inl t_cell_x)), (a_t_cell_y, .inl (cI, 14, .inl t_cell_y))]
abbrev rm_X2_succeeds : Room := { frames := 5, cells := 0, slots := 0, locals := 121 }
def S_X2_succeeds_0 (p : Program) (l : Launch) (e : Env) (s : State) (m : MethodId) (args : Array Value) (below : List Frame) (meth : Method) (c : Code) (A : Nat → Prop) (D : va_G) (cI cJ cZ cQ : ClassId) (a_t a_t_cell a_t_sites a_t_sites_x a_t_sites_y a_t_sites_w a_t_cell_planes a_t_cell_x a_t_cell_y a_t_cell_d a_t_cell_planes_a a_t_cell_planes_b a_t_cell_planes_c : Nat)  (res : R_X2_succeeds) (k : Int32 → Int32 → (Nat → Int32) → (Nat → Int32) → (Nat → Int32) → Int32 → Int32 → Int32 → Int32 → Int32 → (Nat → Int32) → (Nat → Int32) → (Nat → Int32) → (Nat → Int32) → (Nat → Int32) → (Nat → Int32) → Int32 → Option R_X2_succeeds) : Prop := ∀ (t_found : Int32) (t_sites_count : Int32) (t_sites_x : Nat → Int32) (t_sites_y : Nat → Int32) (t_sites_w : Nat → Int32) (t_cell_count : Int32) (t_cell_planes_count : Int32) (t_cell_planes_meetX : Int32) (t_cell_planes_meetY : Int32) (t_cell_planes_meetD : Int32) (t_cell_planes_a : Nat → Int32) (t_cell_planes_b : Nat → Int32) (t_cell_planes_c : Nat → Int32) (t_cell_d : Nat → Int32) (t_cell_x : Nat → Int32) (t_cell_y : Nat → Int32) (x1 : Int32), k t_found t_sites_count t_sites_x t_sites_y t_sites_w t_cell_count t_cell_planes_count t_cell_planes_meetX t_cell_planes_meetY t_cell_planes_meetD t_cell_planes_a t_cell_planes_b t_cell_planes_c t_cell_d t_cell_x t_cell_y x1 = some res → ∀ (H : Heap) (locs : List Loc), va_P D vwCl (w_X2_succeeds cI cJ cZ cQ a_t a_t_cell a_t_sites a_t_sites_x a_t_sites_y a_t_sites_w a_t_cell_planes a_t_cell_x a_t_cell_y a_t_cell_d a_t_cell_planes_a a_t_cell_planes_b a_t_cell_planes_c t_found t_sites_count t_sites_x t_sites_y t_sites_w t_cell_count t_cell_planes_count t_cell_planes_meetX t_cell_planes_meetY t_cell_planes_meetD t_cell_planes_a t_cell_planes_b t_cell_planes_c t_cell_d t_cell_x t_cell_y) H → va_D A (w_X2_succeeds cI cJ cZ cQ a_t a_t_cell a_t_sites a_t_sites_x a_t_sites_y a_t_sites_w a_t_cell_planes a_t_cell_x a_t_cell_y a_t_cell_d a_t_cell_planes_a a_t_cell_planes_b a_t_cell_planes_c t_found t_sites_count t_sites_x t_sites_y t_sites_w t_cell_count t_cell_planes_count t_cell_planes_meetX t_cell_planes_meetY t_cell_planes_meetD t_cell_planes_a t_cell_planes_b t_cell_planes_c t_cell_d t_cell_x t_cell_y) → va_S A s.heap H locs → ∀ ls : Array Slot, lv_has ls 4 [(0, .ref a_t), (1, .int x1)] → W p l e (headSpec wsX2_succeeds rm_X2_succeeds).room s m args below meth c H locs 0 0 (MQ below (qI D (tys4 cI cJ cZ cQ) (w_X2_succeeds cI cJ cZ cQ a_t a_t_cell a_t_sites a_t_sites_x a_t_sites_y a_t_sites_w a_t_cell_planes a_t_cell_x a_t_cell_y a_t_cell_d a_t_cell_planes_a a_t_cell_planes_b a_t_cell_planes_c res.2.1 res.2.2.1 res.2.2.2.1 res.2.2.2.2.1 res.2.2.2.2.2.1 res.2.2.2.2.2.2.1 res.2.2.2.2.2.2.2.1 res.2.2.2.2.2.2.2.2.1 res.2.2.2.2.2.2.2.2.2.1 res.2.2.2.2.2.2.2.2.2.2.1 res.2.2.2.2.2.2.2.2.2.2.2.1 res.2.2.2.2.2.2.2.2.2.2.2.2.1 res.2.2.2.2.2.2.2.2.2.2.2.2.2.1 res.2.2.2.2.2.2.2.2.2.2.2.2.2.2.1 res.2.2.2.2.2.2.2.2.2.2.2.2.2.2.2.1 res.2.2.2.2.2.2.2.2.2.2.2.2.2.2.2.2) A res.1) args s 0 0 A) (F0 m 0 ls [])
set_option maxHeartbeats 4000000 in
set_option maxRecDepth 100000 in
theorem t_X2_succeeds_0 {p : Program} {l : Launch} {e : Env} {s : State} {m : MethodId} {args : Array Value} {below : List Frame} {meth : Method} {c : Code} {A : Nat → Prop} {D : va_G} {cI cJ cZ cQ : ClassId} {a_t a_t_cell a_t_sites a_t_sites_x a_t_sites_y a_t_sites_w a_t_cell_planes a_t_cell_x a_t_cell_y a_t_cell_d a_t_cell_planes_a a_t_cell_planes_b a_t_cell_planes_c : Nat}  {res : R_X2_succeeds}   (hC : mcx RX2 cX2_succeeds (some .boolean) 4 wsX2_succeeds p s m args meth c A D (tys4 cI cJ cZ cQ))   : S_X2_succeeds_0 p l e s m args below meth c A D cI cJ cZ cQ a_t a_t_cell a_t_sites a_t_sites_x a_t_sites_y a_t_sites_w a_t_cell_planes a_t_cell_x a_t_cell_y a_t_cell_d a_t_cell_planes_a a_t_cell_planes_b a_t_cell_planes_c res (f_X2_succeeds_0  ) := by
  intro t_found t_sites_count t_sites_x t_sites_y t_sites_w t_cell_count t_cell_planes_count t_cell_planes_meetX t_cell_planes_meetY t_cell_planes_meetD t_cell_planes_a t_cell_planes_b t_cell_planes_c t_cell_d t_cell_x t_cell_y x1 hf H locs hP hD hS ls hl
  obtain ⟨hx, hb, hr, hml, hown, hts, hlocks, hA, hK, hN⟩ := id hC
  unfold f_X2_succeeds_0 at hf
  refine lv_iload_n hx hb dX2_succeeds_0 rfl (lv_at hl 1 rfl) ?_
  refine lv_sipush (v := (1000 : Int32)) hx hb dX2_succeeds_1 (by decide) ?_
  refine lv_idiv hx hb dX2_succeeds_4 (by decide) ?_
  refine lv_bipush (v := (10 : Int32)) hx hb dX2_succeeds_5 (by decide) ?_
  refine lv_irem hx hb dX2_succeeds_7 (by decide) ?_
  refine lv_topi (fun v1 ev1 => ?_)
  replace hf := nm_of ev1 hf
  refine lv_istore_n (lv' := [(2, .int v1), (0, .ref a_t), (1, .int x1)]) hx hb dX2_succeeds_8 rfl hl (by decide) rfl (fun ls hl => ?_)
  refine lv_iload_n hx hb dX2_succeeds_9 rfl (lv_at hl 2 rfl) ?_
  refine lv_sipush (v := (1000 : Int32)) hx hb dX2_succeeds_10 (by decide) ?_
  refine lv_irem hx hb dX2_succeeds_13 (by decide) ?_
  refine lv_topi (fun v2 ev2 => ?_)
  replace hf := nm_of ev2 hf
  refine lv_istore_n (lv' := [(3, .int v2), (2, .int v1), (0, .ref a_t), (1, .int x1)]) hx hb dX2_succeeds_14 rfl hl (by decide) rfl (fun ls hl => ?_)
  refine lv_iload_n hx hb dX2_succeeds_15 rfl (lv_at hl 3 rfl) ?_
  refine lv_sipush (v := (10000 : Int32)) hx hb dX2_succeeds_16 (by decide) ?_
  refine lv_idiv hx hb dX2_succeeds_19 (by decide) ?_
  refine lv_topi (fun v3 ev3 => ?_)
  replace hf := nm_of ev3 hf
  by_cases c4 : v3 = (1 : Int32)
  · replace hf := brT c4 hf
    refine lv_tableIn (tgt := 60) hx hb dX2_succeeds_20 (by rw [c4]; decide) (by rw [c4]; decide) (off := 40) (by rw [c4]; rfl) (by decide) ?_
    refine lv_iload_n hx hb dX2_succeeds_60 rfl (lv_at hl 0 rfl) ?_
    refine lv_if_ne (tgt := 76) hx hb dX2_succeeds_61 (by decide) (fun c5 => ?_) (fun c5 => ?_)
    · replace hf := brF c5 hf
      refine lv_iconst (v := (0 : Int32)) hx hb dX2_succeeds_76 (by decide) ?_
      obtain rfl := Option.some.inj hf
      exact endI (ty := .boolean) hC rfl rfl hP hD hS dX2_succeeds_77
    · replace hf := brT c5 hf
      refine lv_aload_n hx hb dX2_succeeds_64 rfl (lv_at hl 2 rfl) ?_
      refine lv_iload_n hx hb dX2_succeeds_65 rfl (lv_at hl 1 rfl) ?_
      obtain ⟨r6, u7, u8, u9, u10, u11, hq12, hf⟩ := bnd6_of hf
      refine jnI (WB := (w_X2_succeeds cI cJ cZ cQ a_t a_t_cell a_t_sites a_t_sites_x a_t_sites_y a_t_sites_w a_t_cell_planes a_t_cell_x a_t_cell_y a_t_cell_d a_t_cell_planes_a a_t_cell_planes_b a_t_cell_planes_c u7 u8 u9 u10 u11 t_cell_count t_cell_planes_count t_cell_planes_meetX t_cell_planes_meetY t_cell_planes_meetD t_cell_planes_a t_cell_planes_b t_cell_planes_c t_cell_d t_cell_x t_cell_y)) (rnV (As := [.int v1]) (rest := []) (ci := 2) (q0 := 0) (W0 := (w_X2_removes cI cJ cZ cQ a_t a_t_cell a_t_sites a_t_sites_x a_t_sites_y a_t_sites_w t_found t_sites_count t_sites_x t_sites_y t_sites_w)) hx hb hml hown hts hK hN (c_X2_removes l D cI cJ cZ cQ a_t a_t_cell a_t_sites a_t_sites_x a_t_sites_y a_t_sites_w t_found t_sites_count t_sites_x t_sites_y t_sites_w v1 (r6, u7, u8, u9, u10, u11) hq12 H.size) (cwV 1 hts gX2_succeeds_X2_removes rfl rfl rfl e_X2_removes ⟨Nat.le_of_ble_eq_true rfl, Nat.le_of_ble_eq_true rfl⟩) hP hD [0, 1, 2, 3, 4] rfl (by decide) rfl rfl rfl rfl hl (Nat.le_of_ble_eq_true rfl) dX2_succeeds_66 ⟨Nat.zero_le _, Nat.zero_le _⟩ rfl) hP hD hS hA [0, 1, 2, 3, 4] [5, 6, 7, 8, 9, 10, 11, 12] [8, 9, 10, 11, 12, 0, 1, 2, 3, 4, 5, 6, 7] rfl rfl (by decide) (by decide) rfl (by decide) (fun H locs hP hD hS => ?_)
      refine lv_if_eq (tgt := 76) hx hb dX2_succeeds_69 (by decide) (fun c13 => ?_) (fun c13 => ?_)
      · replace hf := brT c13 hf
        refine lv_iconst (v := (0 : Int32)) hx hb dX2_succeeds_76 (by decide) ?_
        obtain rfl := Option.some.inj hf
        exact endI (ty := .boolean) hC rfl rfl hP hD hS dX2_succeeds_77
      · replace hf := brF c13 hf
        refine lv_iconst (v := (1 : Int32)) hx hb dX2_succeeds_72 (by decide) ?_
        refine lv_goto (tgt := 77) hx hb dX2_succeeds_73 (by decide) ?_
        obtain rfl := Option.some.inj hf
        exact endI (ty := .boolean) hC rfl rfl hP hD hS dX2_succeeds_77
  · replace hf := brF c4 hf
    by_cases c14 : v3 = (2 : Int32)
    · replace hf := brT c14 hf
      refine lv_tableIn (tgt := 78) hx hb dX2_succeeds_20 (by rw [c14]; decide) (by rw [c14]; decide) (off := 58) (by rw [c14]; rfl) (by decide) ?_
      refine lv_aload_n hx hb dX2_succeeds_78 rfl (lv_at hl 2 rfl) ?_
      refine lv_iload_n hx hb dX2_succeeds_79 rfl (lv_at hl 1 rfl) ?_
      refine lv_iload_n hx hb dX2_succeeds_80 rfl (lv_at hl 0 rfl) ?_
      obtain ⟨r15, u16, hq17, hf⟩ := bnd2_of hf
      refine jnI (WB := (w_X2_succeeds cI cJ cZ cQ a_t a_t_cell a_t_sites a_t_sites_x a_t_sites_y a_t_sites_w a_t_cell_planes a_t_cell_x a_t_cell_y a_t_cell_d a_t_cell_planes_a a_t_cell_planes_b a_t_cell_planes_c t_found t_sites_count t_sites_x t_sites_y u16 t_cell_count t_cell_planes_count t_cell_planes_meetX t_cell_planes_meetY t_cell_planes_meetD t_cell_planes_a t_cell_planes_b t_cell_planes_c t_cell_d t_cell_x t_cell_y)) (rnV (As := [.int v1, .int v2]) (rest := []) (ci := 2) (q0 := 0) (W0 := (w_X2_weighs cI cJ cZ cQ a_t a_t_cell a_t_sites a_t_sites_x a_t_sites_y a_t_sites_w t_found t_sites_count t_sites_w)) hx hb hml hown hts hK hN (c_X2_weighs l D cI cJ cZ cQ a_t a_t_cell a_t_sites a_t_sites_x a_t_sites_y a_t_sites_w t_found t_sites_count t_sites_w v1 v2 (r15, u16) hq17 H.size) (cwV 2 hts gX2_succeeds_X2_weighs rfl rfl rfl e_X2_weighs ⟨Nat.le_of_ble_eq_true rfl, Nat.le_of_ble_eq_true rfl⟩) hP hD [0, 1, 4] rfl (by decide) rfl rfl rfl rfl hl (Nat.le_of_ble_eq_true rfl) dX2_succeeds_81 ⟨Nat.zero_le _, Nat.zero_le _⟩ rfl) hP hD hS hA [0, 1, 4] [2, 3, 5, 6, 7, 8, 9, 10, 11, 12] [10, 11, 0, 1, 12, 2, 3, 4, 5, 6, 7, 8, 9] rfl rfl (by decide) (by decide) rfl (by decide) (fun H locs hP hD hS => ?_)
      obtain ⟨hn, hf⟩ := gZ_of hf
      obtain rfl := Option.some.inj hf
      exact endI (ty := .boolean) hC hn rfl hP hD hS dX2_succeeds_84
    · replace hf := brF c14 hf
      by_cases c18 : v3 = (3 : Int32)
      · replace hf := brT c18 hf
        refine lv_tableIn (tgt := 85) hx hb dX2_succeeds_20 (by rw [c18]; decide) (by rw [c18]; decide) (off := 65) (by rw [c18]; rfl) (by decide) ?_
        refine lv_iload_n hx hb dX2_succeeds_85 rfl (lv_at hl 0 rfl) ?_
        refine lv_if_ne (tgt := 119) hx hb dX2_succeeds_86 (by decide) (fun c19 => ?_) (fun c19 => ?_)
        · replace hf := brF c19 hf
          refine lv_iconst (v := (0 : Int32)) hx hb dX2_succeeds_119 (by decide) ?_
          obtain rfl := Option.some.inj hf
          exact endI (ty := .boolean) hC rfl rfl hP hD hS dX2_succeeds_120
        · replace hf := brT c19 hf
          refine lv_aload_n hx hb dX2_succeeds_89 rfl (lv_at hl 2 rfl) ?_
          refine va_get (D := D) (ci := 2) (v := .ref a_t_sites) (C := RX2) (T := TX2) (N := 3) hx hb hts iw_X2_succeeds_2 hown hK hP 0 rfl rfl 1 (by decide) (hts (.fieldLink RX2 18 "PowerDiagram$Script" "sites" "LPowerDiagram$Sites;") (List.mem_of_getElem? (i := 1) rfl)) (fun _ h9 => h9) rfl dX2_succeeds_90 ?_
          refine lv_iload_n hx hb dX2_succeeds_93 rfl (lv_at hl 1 rfl) ?_
          obtain ⟨r20, hq21, hf⟩ := bnd_of hf
          refine jnI (WB := (w_X2_succeeds cI cJ cZ cQ a_t a_t_cell a_t_sites a_t_sites_x a_t_sites_y a_t_sites_w a_t_cell_planes a_t_cell_x a_t_cell_y a_t_cell_d a_t_cell_planes_a a_t_cell_planes_b a_t_cell_planes_c t_found t_sites_count t_sites_x t_sites_y t_sites_w t_cell_count t_cell_planes_count t_cell_planes_meetX t_cell_planes_meetY t_cell_planes_meetD t_cell_planes_a t_cell_planes_b t_cell_planes_c t_cell_d t_cell_x t_cell_y)) (rnV (As := [.int v1]) (rest := []) (ci := 4) (q0 := 0) (W0 := (w_X4_has cI cJ cZ cQ a_t_sites a_t_sites_x a_t_sites_y a_t_sites_w t_sites_count)) hx hb hml hown hts hK hN (c_X4_has l D cI cJ cZ cQ a_t_sites a_t_sites_x a_t_sites_y a_t_sites_w t_sites_count v1 r20 hq21 H.size) (cwV 1 hts gX2_succeeds_X4_has rfl rfl rfl e_X4_has ⟨Nat.le_of_ble_eq_true rfl, Nat.le_of_ble_eq_true rfl⟩) hP hD [1] rfl (by decide) rfl rfl rfl rfl hl (Nat.le_of_ble_eq_true rfl) dX2_succeeds_94 ⟨Nat.zero_le _, Nat.zero_le _⟩ rfl) hP hD hS hA [1] [0, 2, 3, 4, 5, 6, 7, 8, 9, 10, 11, 12] [0, 12, 1, 2, 3, 4, 5, 6, 7, 8, 9, 10, 11] rfl rfl (by decide) (by decide) rfl (by decide) (fun H locs hP hD hS => ?_)
          refine lv_if_eq (tgt := 119) hx hb dX2_succeeds_97 (by decide) (fun c22 => ?_) (fun c22 => ?_)
          · replace hf := brT c22 hf
            refine lv_iconst (v := (0 : Int32)) hx hb dX2_succeeds_119 (by decide) ?_
            obtain rfl := Option.some.inj hf
            exact endI (ty := .boolean) hC rfl rfl hP hD hS dX2_succeeds_120
          · replace hf := brF c22 hf
            refine lv_aload_n hx hb dX2_succeeds_100 rfl (lv_at hl 2 rfl) ?_
            refine va_get (D := D) (ci := 2) (v := .ref a_t_cell) (C := RX2) (T := TX2) (N := 3) hx hb hts iw_X2_succeeds_2 hown hK hP 0 rfl rfl 0 (by decide) (hts (.fieldLink RX2 9 "PowerDiagram$Script" "cell" "LPowerDiagram$Cell;") (List.mem_of_getElem? (i := 2) rfl)) (fun _ h9 => h9) rfl dX2_succeeds_101 ?_
            refine lv_aload_n hx hb dX2_succeeds_104 rfl (lv_at hl 2 rfl) ?_
            refine va_get (D := D) (ci := 2) (v := .ref a_t_sites) (C := RX2) (T := TX2) (N := 3) hx hb hts iw_X2_succeeds_2 hown hK hP 0 rfl rfl 1 (by decide) (hts (.fieldLink RX2 18 "PowerDiagram$Script" "sites" "LPowerDiagram$Sites;") (List.mem_of_getElem? (i := 1) rfl)) (fun _ h9 => h9) rfl dX2_succeeds_105 ?_
            refine lv_iload_n hx hb dX2_succeeds_108 rfl (lv_at hl 1 rfl) ?_
            obtain ⟨r23, u24, u25, u26, u27, u28, u29, u30, u31, u32, u33, u34, hq35, hf⟩ := bnd12_of hf
            refine jnI (WB := (w_X2_succeeds cI cJ cZ cQ a_t a_t_cell a_t_sites a_t_sites_x a_t_sites_y a_t_sites_w a_t_cell_planes a_t_cell_x a_t_cell_y a_t_cell_d a_t_cell_planes_a a_t_cell_planes_b a_t_cell_planes_c t_found t_sites_count t_sites_x t_sites_y t_sites_w u24 u25 u26 u27 u28 u29 u30 u31 u32 u33 u34)) (rnV (As := [.ref a_t_sites, .int v1]) (rest := []) (ci := 0) (q0 := 0) (W0 := (w_X0_hides cI cJ cZ cQ a_t_cell a_t_cell_planes a_t_cell_x a_t_cell_y a_t_cell_d a_t_cell_planes_a a_t_cell_planes_b a_t_cell_planes_c a_t_sites a_t_sites_x a_t_sites_y a_t_sites_w t_cell_count t_cell_planes_count t_cell_planes_meetX t_cell_planes_meetY t_cell_planes_meetD t_sites_count t_sites_x t_sites_y t_sites_w t_cell_planes_a t_cell_planes_b t_cell_planes_c t_cell_d t_cell_x t_cell_y)) hx hb hml hown hts hK hN (c_X0_hides l D cI cJ cZ cQ a_t_cell a_t_cell_planes a_t_cell_x a_t_cell_y a_t_cell_d a_t_cell_planes_a a_t_cell_planes_b a_t_cell_planes_c a_t_sites a_t_sites_x a_t_sites_y a_t_sites_w t_cell_count t_cell_planes_count t_cell_planes_meetX t_cell_planes_meetY t_cell_planes_meetD t_sites_count t_sites_x t_sites_y t_sites_w t_cell_planes_a t_cell_planes_b t_cell_planes_c t_cell_d t_cell_x t_cell_y v1 (r23, u24, u25, u26, u27, u28, u29, u30, u31, u32, u33, u34) hq35 H.size) (cwV 2 hts gX2_succeeds_X0_hides rfl rfl rfl e_X0_hides ⟨Nat.le_of_ble_eq_true rfl, Nat.le_of_ble_eq_true rfl⟩) hP hD [5, 6, 1, 2, 3, 4, 7, 8, 9, 10, 11, 12] rfl (by decide) rfl rfl rfl rfl hl (Nat.le_of_ble_eq_true rfl) dX2_succeeds_109 ⟨Nat.zero_le _, Nat.zero_le _⟩ rfl) hP hD hS hA [5, 6, 1, 2, 3, 4, 7, 8, 9, 10, 11, 12] [0] [0, 3, 4, 5, 6, 1, 2, 7, 8, 9, 10, 11, 12] rfl rfl (by decide) (by decide) rfl (by decide) (fun H locs hP hD hS => ?_)
            refine lv_if_eq (tgt := 119) hx hb dX2_succeeds_112 (by decide) (fun c36 => ?_) (fun c36 => ?_)
            · replace hf := brT c36 hf
              refine lv_iconst (v := (0 : Int32)) hx hb dX2_succeeds_119 (by decide) ?_
              obtain rfl := Option.some.inj hf
              exact endI (ty := .boolean) hC rfl rfl hP hD hS dX2_succeeds_120
            · replace hf := brF c36 hf
              refine lv_iconst (v := (1 : Int32)) hx hb dX2_succeeds_115 (by decide) ?_
              refine lv_goto (tgt := 120) hx hb dX2_succeeds_116 (by decide) ?_
              obtain rfl := Option.some.inj hf
              exact endI (ty := .boolean) hC rfl rfl hP hD hS dX2_succeeds_120
      · replace hf := brF c18 hf
        by_cases c37 : v3 = (4 : Int32)
        · replace hf := brT c37 hf
          refine lv_tableIn (tgt := 121) hx hb dX2_succeeds_20 (by rw [c37]; decide) (by rw [c37]; decide) (off := 101) (by rw [c37]; rfl) (by decide) ?_
          refine lv_aload_n hx hb dX2_succeeds_121 rfl (lv_at hl 2 rfl) ?_
          refine lv_iload_n hx hb dX2_succeeds_122 rfl (lv_at hl 3 rfl) ?_
          refine lv_bipush (v := (100 : Int32)) hx hb dX2_succeeds_123 (by decide) ?_
          refine lv_idiv hx hb dX2_succeeds_125 (by decide) ?_
          refine lv_bipush (v := (100 : Int32)) hx hb dX2_succeeds_126 (by decide) ?_
          refine lv_irem hx hb dX2_succeeds_128 (by decide) ?_
          refine lv_iload_n hx hb dX2_succeeds_129 rfl (lv_at hl 3 rfl) ?_
          refine lv_bipush (v := (100 : Int32)) hx hb dX2_succeeds_130 (by decide) ?_
          refine lv_irem hx hb dX2_succeeds_132 (by decide) ?_
          obtain ⟨r38, u39, hq40, hf⟩ := bnd2_of hf
          refine jnI (WB := (w_X2_succeeds cI cJ cZ cQ a_t a_t_cell a_t_sites a_t_sites_x a_t_sites_y a_t_sites_w a_t_cell_planes a_t_cell_x a_t_cell_y a_t_cell_d a_t_cell_planes_a a_t_cell_planes_b a_t_cell_planes_c u39 t_sites_count t_sites_x t_sites_y t_sites_w t_cell_count t_cell_planes_count t_cell_planes_meetX t_cell_planes_meetY t_cell_planes_meetD t_cell_planes_a t_cell_planes_b t_cell_planes_c t_cell_d t_cell_x t_cell_y)) (rnV (As := [.int ((x1 / (100 : Int32)) - (x1 / (100 : Int32)) / (100 : Int32) * (100 : Int32)), .int (x1 - x1 / (100 : Int32) * (100 : Int32))]) (rest := []) (ci := 2) (q0 := 0) (W0 := (w_X2_finds cI cJ cZ cQ a_t a_t_cell a_t_sites a_t_sites_x a_t_sites_y a_t_sites_w t_found t_sites_count t_sites_x t_sites_y t_sites_w)) hx hb hml hown hts hK hN (c_X2_finds l D cI cJ cZ cQ a_t a_t_cell a_t_sites a_t_sites_x a_t_sites_y a_t_sites_w t_found t_sites_count t_sites_x t_sites_y t_sites_w ((x1 / (100 : Int32)) - (x1 / (100 : Int32)) / (100 : Int32) * (100 : Int32)) (x1 - x1 / (100 : Int32) * (100 : Int32)) (r38, u39) hq40 H.size) (cwV 2 hts gX2_succeeds_X2_finds rfl rfl rfl e_X2_finds ⟨Nat.le_of_ble_eq_true rfl, Nat.le_of_ble_eq_true rfl⟩) hP hD [0, 1, 2, 3, 4] rfl (by decide) rfl rfl rfl rfl hl (Nat.le_of_ble_eq_true rfl) dX2_succeeds_133 ⟨Nat.zero_le _, Nat.zero_le _⟩ rfl) hP hD hS hA [0, 1, 2, 3, 4] [5, 6, 7, 8, 9, 10, 11, 12] [8, 9, 10, 11, 12, 0, 1, 2, 3, 4, 5, 6, 7] rfl rfl (by decide) (by decide) rfl (by decide) (fun H locs hP hD hS => ?_)
          obtain ⟨hn, hf⟩ := gZ_of hf
          obtain rfl := Option.some.inj hf
          exact endI (ty := .boolean) hC hn rfl hP hD hS dX2_succeeds_136
        · replace hf := brF c37 hf
          by_cases c41 : v3 = (5 : Int32)
          · replace hf := brT c41 hf
            refine lv_tableIn (tgt := 137) hx hb dX2_succeeds_20 (by rw [c41]; decide) (by rw [c41]; decide) (off := 117) (by rw [c41]; rfl) (by decide) ?_
            refine lv_iload_n hx hb dX2_succeeds_137 rfl (lv_at hl 0 rfl) ?_
            refine lv_if_ne (tgt := 153) hx hb dX2_succeeds_138 (by decide) (fun c42 => ?_) (fun c42 => ?_)
            · replace hf := brF c42 hf
              refine lv_iconst (v := (0 : Int32)) hx hb dX2_succeeds_153 (by decide) ?_
              obtain rfl := Option.some.inj hf
              exact endI (ty := .boolean) hC rfl rfl hP hD hS dX2_succeeds_154
            · replace hf := brT c42 hf
              refine lv_aload_n hx hb dX2_succeeds_141 rfl (lv_at hl 2 rfl) ?_
              refine va_get (D := D) (ci := 2) (v := .int t_found) (C := RX2) (T := TX2) (N := 3) hx hb hts iw_X2_succeeds_2 hown hK hP 0 rfl rfl 2 (by decide) (hts (.fieldLink RX2 22 "PowerDiagram$Script" "found" "I") (List.mem_of_getElem? (i := 3) rfl)) (fun _ h9 => h9) rfl dX2_succeeds_142 ?_
              refine lv_iload_n hx hb dX2_succeeds_145 rfl (lv_at hl 1 rfl) ?_
              refine lv_icmp_ne (tgt := 153) hx hb dX2_succeeds_146 (by decide) (fun c43 => ?_) (fun c43 => ?_)
              · replace hf := brF c43 hf
                refine lv_iconst (v := (0 : Int32)) hx hb dX2_succeeds_153 (by decide) ?_
                obtain rfl := Option.some.inj hf
                exact endI (ty := .boolean) hC rfl rfl hP hD hS dX2_succeeds_154
              · replace hf := brT c43 hf
                refine lv_iconst (v := (1 : Int32)) hx hb dX2_succeeds_149 (by decide) ?_
                refine lv_goto (tgt := 154) hx hb dX2_succeeds_150 (by decide) ?_
                obtain rfl := Option.some.inj hf
                exact endI (ty := .boolean) hC rfl rfl hP hD hS dX2_succeeds_154
          · replace hf := brF c41 hf
            by_cases c44 : v3 = (6 : Int32)
            · replace hf := brT c44 hf
              refine lv_tableIn (tgt := 155) hx hb dX2_succeeds_20 (by rw [c44]; decide) (by rw [c44]; decide) (off := 135) (by rw [c44]; rfl) (by decide) ?_
              refine lv_aload_n hx hb dX2_succeeds_155 rfl (lv_at hl 2 rfl) ?_
              refine va_get (D := D) (ci := 2) (v := .ref a_t_sites) (C := RX2) (T := TX2) (N := 3) hx hb hts iw_X2_succeeds_2 hown hK hP 0 rfl rfl 1 (by decide) (hts (.fieldLink RX2 18 "PowerDiagram$Script" "sites" "LPowerDiagram$Sites;") (List.mem_of_getElem? (i := 1) rfl)) (fun _ h9 => h9) rfl dX2_succeeds_156 ?_
              refine lv_iload_n hx hb dX2_succeeds_159 rfl (lv_at hl 1 rfl) ?_
              obtain ⟨r45, hq46, hf⟩ := bnd_of hf
              refine jnI (WB := (w_X2_succeeds cI cJ cZ cQ a_t a_t_cell a_t_sites a_t_sites_x a_t_sites_y a_t_sites_w a_t_cell_planes a_t_cell_x a_t_cell_y a_t_cell_d a_t_cell_planes_a a_t_cell_planes_b a_t_cell_planes_c t_found t_sites_count t_sites_x t_sites_y t_sites_w t_cell_count t_cell_planes_count t_cell_planes_meetX t_cell_planes_meetY t_cell_planes_meetD t_cell_planes_a t_cell_planes_b t_cell_planes_c t_cell_d t_cell_x t_cell_y)) (rnV (As := [.int v1]) (rest := []) (ci := 4) (q0 := 0) (W0 := (w_X4_has cI cJ cZ cQ a_t_sites a_t_sites_x a_t_sites_y a_t_sites_w t_sites_count)) hx hb hml hown hts hK hN (c_X4_has l D cI cJ cZ cQ a_t_sites a_t_sites_x a_t_sites_y a_t_sites_w t_sites_count v1 r45 hq46 H.size) (cwV 1 hts gX2_succeeds_X4_has rfl rfl rfl e_X4_has ⟨Nat.le_of_ble_eq_true rfl, Nat.le_of_ble_eq_true rfl⟩) hP hD [1] rfl (by decide) rfl rfl rfl rfl hl (Nat.le_of_ble_eq_true rfl) dX2_succeeds_160 ⟨Nat.zero_le _, Nat.zero_le _⟩ rfl) hP hD hS hA [1] [0, 2, 3, 4, 5, 6, 7, 8, 9, 10, 11, 12] [0, 12, 1, 2, 3, 4, 5, 6, 7, 8, 9, 10, 11] rfl rfl (by decide) (by decide) rfl (by decide) (fun H locs hP hD hS => ?_)
              refine lv_if_eq (tgt := 182) hx hb dX2_succeeds_163 (by decide) (fun c47 => ?_) (fun c47 => ?_)
              · replace hf := brT c47 hf
                refine lv_iconst (v := (0 : Int32)) hx hb dX2_succeeds_182 (by decide) ?_
                obtain rfl := Option.some.inj hf
                exact endI (ty := .boolean) hC rfl rfl hP hD hS dX2_succeeds_183
              · replace hf := brF c47 hf
                refine lv_aload_n hx hb dX2_succeeds_166 rfl (lv_at hl 2 rfl) ?_
                refine va_get (D := D) (ci := 2) (v := .ref a_t_sites) (C := RX2) (T := TX2) (N := 3) hx hb hts iw_X2_succeeds_2 hown hK hP 0 rfl rfl 1 (by decide) (hts (.fieldLink RX2 18 "PowerDiagram$Script" "sites" "LPowerDiagram$Sites;") (List.mem_of_getElem? (i := 1) rfl)) (fun _ h9 => h9) rfl dX2_succeeds_167 ?_
                refine lv_iload_n hx hb dX2_succeeds_170 rfl (lv_at hl 1 rfl) ?_
                obtain ⟨r48, hq49, hf⟩ := bnd_of hf
                refine jnI (WB := (w_X2_succeeds cI cJ cZ cQ a_t a_t_cell a_t_sites a_t_sites_x a_t_sites_y a_t_sites_w a_t_cell_planes a_t_cell_x a_t_cell_y a_t_cell_d a_t_cell_planes_a a_t_cell_planes_b a_t_cell_planes_c t_found t_sites_count t_sites_x t_sites_y t_sites_w t_cell_count t_cell_planes_count t_cell_planes_meetX t_cell_planes_meetY t_cell_planes_meetD t_cell_planes_a t_cell_planes_b t_cell_planes_c t_cell_d t_cell_x t_cell_y)) (rnV (As := [.int v1]) (rest := []) (ci := 4) (q0 := 0) (W0 := (w_X4_pointsOwnedBy cI cJ cZ cQ a_t_sites a_t_sites_x a_t_sites_y a_t_sites_w t_sites_count t_sites_x t_sites_y t_sites_w)) hx hb hml hown hts hK hN (c_X4_pointsOwnedBy l D cI cJ cZ cQ a_t_sites a_t_sites_x a_t_sites_y a_t_sites_w t_sites_count t_sites_x t_sites_y t_sites_w v1 r48 hq49 H.size) (cwV 1 hts gX2_succeeds_X4_pointsOwnedBy rfl rfl rfl e_X4_pointsOwnedBy ⟨Nat.le_of_ble_eq_true rfl, Nat.le_of_ble_eq_true rfl⟩) hP hD [1, 2, 3, 4] rfl (by decide) rfl rfl rfl rfl hl (Nat.le_of_ble_eq_true rfl) dX2_succeeds_171 ⟨Nat.zero_le _, Nat.zero_le _⟩ rfl) hP hD hS hA [1, 2, 3, 4] [0, 5, 6, 7, 8, 9, 10, 11, 12] [0, 9, 10, 11, 12, 1, 2, 3, 4, 5, 6, 7, 8] rfl rfl (by decide) (by decide) rfl (by decide) (fun H locs hP hD hS => ?_)
                refine lv_iload_n hx hb dX2_succeeds_174 rfl (lv_at hl 0 rfl) ?_
                refine lv_icmp_lt (tgt := 182) hx hb dX2_succeeds_175 (by decide) (fun c50 => ?_) (fun c50 => ?_)
                · replace hf := brT c50 hf
                  refine lv_iconst (v := (0 : Int32)) hx hb dX2_succeeds_182 (by decide) ?_
                  obtain rfl := Option.some.inj hf
                  exact endI (ty := .boolean) hC rfl rfl hP hD hS dX2_succeeds_183
                · replace hf := brF c50 hf
                  refine lv_iconst (v := (1 : Int32)) hx hb dX2_succeeds_178 (by decide) ?_
                  refine lv_goto (tgt := 183) hx hb dX2_succeeds_179 (by decide) ?_
                  obtain rfl := Option.some.inj hf
                  exact endI (ty := .boolean) hC rfl rfl hP hD hS dX2_succeeds_183
            · replace hf := brF c44 hf
              refine lv_tableOut (tgt := 184) hx hb dX2_succeeds_20 (tabOut1_6 c4 c14 c18 c37 c41 c44) (by decide) ?_
              refine lv_iconst (v := (0 : Int32)) hx hb dX2_succeeds_184 (by decide) ?_
              obtain rfl := Option.some.inj hf
              exact endI (ty := .boolean) hC rfl rfl hP hD hS dX2_succeeds_185
theorem c_X2_succeeds (l : Launch) (D : va_G) (cI cJ cZ cQ : ClassId) (a_t a_t_cell a_t_sites a_t_sites_x a_t_sites_y a_t_sites_w a_t_cell_planes a_t_cell_x a_t_cell_y a_t_cell_d a_t_cell_planes_a a_t_cell_planes_b a_t_cell_planes_c : Nat) (t_found : Int32) (t_sites_count : Int32) (t_sites_x : Nat → Int32) (t_sites_y : Nat → Int32) (t_sites_w : Nat → Int32) (t_cell_count : Int32) (t_cell_planes_count : Int32) (t_cell_planes_meetX : Int32) (t_cell_planes_meetY : Int32) (t_cell_planes_meetD : Int32) (t_cell_planes_a : Nat → Int32) (t_cell_planes_b : Nat → Int32) (t_cell_planes_c : Nat → Int32) (t_cell_d : Nat → Int32) (t_cell_x : Nat → Int32) (t_cell_y : Nat → Int32) (p0 : Int32)  (res : R_X2_succeeds)  (hf : f_X2_succeeds_0  t_found t_sites_count t_sites_x t_sites_y t_sites_w t_cell_count t_cell_planes_count t_cell_planes_meetX t_cell_planes_meetY t_cell_planes_meetD t_cell_planes_a t_cell_planes_b t_cell_planes_c t_cell_d t_cell_x t_cell_y p0 = some res) : MetI l D (tys4 cI cJ cZ cQ) yX2_succeeds wsX2_succeeds rm_X2_succeeds [.ref a_t, .int p0] (w_X2_succeeds cI cJ cZ cQ a_t a_t_cell a_t_sites a_t_sites_x a_t_sites_y a_t_sites_w a_t_cell_planes a_t_cell_x a_t_cell_y a_t_cell_d a_t_cell_planes_a a_t_cell_planes_b a_t_cell_planes_c t_found t_sites_count t_sites_x t_sites_y t_sites_w t_cell_count t_cell_planes_count t_cell_planes_meetX t_cell_planes_meetY t_cell_planes_meetD t_cell_planes_a t_cell_planes_b t_cell_planes_c t_cell_d t_cell_x t_cell_y) (w_X2_succeeds cI cJ cZ cQ a_t a_t_cell a_t_sites a_t_sites_x a_t_sites_y a_t_sites_w a_t_cell_planes a_t_cell_x a_t_cell_y a_t_cell_d a_t_cell_planes_a a_t_cell_planes_b a_t_cell_planes_c res.2.1 res.2.2.1 res.2.2.2.1 res.2.2.2.2.1 res.2.2.2.2.2.1 res.2.2.2.2.2.2.1 res.2.2.2.2.2.2.2.1 res.2.2.2.2.2.2.2.2.1 res.2.2.2.2.2.2.2.2.2.1 res.2.2.2.2.2.2.2.2.2.2.1 res.2.2.2.2.2.2.2.2.2.2.2.1 res.2.2.2.2.2.2.2.2.2.2.2.2.1 res.2.2.2.2.2.2.2.2.2.2.2.2.2.1 res.2.2.2.2.2.2.2.2.2.2.2.2.2.2.1 res.2.2.2.2.2.2.2.2.2.2.2.2.2.2.2.1 res.2.2.2.2.2.2.2.2.2.2.2.2.2.2.2.2) res.1 := by
  intro sz
  exact metW (own := RX2) (cc := cX2_succeeds) (nL := 4) (ret := (some .boolean)) (Qc := fun A => qI D (tys4 cI cJ cZ cQ) (w_X2_succeeds cI cJ cZ cQ a_t a_t_cell a_t_sites a_t_sites_x a_t_sites_y a_t_sites_w a_t_cell_planes a_t_cell_x a_t_cell_y a_t_cell_d a_t_cell_planes_a a_t_cell_planes_b a_t_cell_planes_c res.2.1 res.2.2.1 res.2.2.2.1 res.2.2.2.2.1 res.2.2.2.2.2.1 res.2.2.2.2.2.2.1 res.2.2.2.2.2.2.2.1 res.2.2.2.2.2.2.2.2.1 res.2.2.2.2.2.2.2.2.2.1 res.2.2.2.2.2.2.2.2.2.2.1 res.2.2.2.2.2.2.2.2.2.2.2.1 res.2.2.2.2.2.2.2.2.2.2.2.2.1 res.2.2.2.2.2.2.2.2.2.2.2.2.2.1 res.2.2.2.2.2.2.2.2.2.2.2.2.2.2.1 res.2.2.2.2.2.2.2.2.2.2.2.2.2.2.2.1 res.2.2.2.2.2.2.2.2.2.2.2.2.2.2.2.2) A res.1) (by decide) rfl rfl (Nat.le_of_ble_eq_true rfl) (fun p e s m args below meth c A hC hP hD hS ls hl => t_X2_succeeds_0 hC  t_found t_sites_count t_sites_x t_sites_y t_sites_w t_cell_count t_cell_planes_count t_cell_planes_meetX t_cell_planes_meetY t_cell_planes_meetD t_cell_planes_a t_cell_planes_b t_cell_planes_c t_cell_d t_cell_x t_cell_y p0 hf _ _ hP hD hS _ (lv_sub hl [0, 1] rfl)) sz
theorem e_X2_succeeds : yX2_succeeds.cls = RX2 ∧ yX2_succeeds.cls ≠ "java/lang/invoke/MethodHandle" ∧ yX2_succeeds.cls ≠ "java/lang/invoke/VarHandle" ∧ (parseMethodDescriptor yX2_succeeds.desc).map (fun d => d.parameters.length) = some 1 := by decide +kernel
