/-! X1_put -/
theorem iw_X1_put_1 : ∀ w ∈ wsX10, w ∈ wsX1_put := fun _ h => List.mem_cons_of_mem _ (List.mem_append_right _ h)
def w_X1_put (cI cJ cZ cQ : ClassId) (a_t a_t_a a_t_b a_t_c : Nat) (t_count : Int32) (t_meetX : Int32) (t_meetY : Int32) (t_meetD : Int32) (t_a : Nat → Int32) (t_b : Nat → Int32) (t_c : Nat → Int32) : va_W := [(a_t, .inr (1, [.ref a_t_a, .ref a_t_b, .ref a_t_c, .int t_count, .int t_meetX, .int t_meetY, .int t_meetD])), (a_t_a, .inl (cI, 14, .inl t_a)), (a_t_b, .inl (cI, 14, .inl t_b)), (a_t_c, .inl (cI, 14, .inl t_c))]
abbrev rm_X1_put : Room := { frames := 0, cells := 0, slots := 0, locals := 0 }
def S_X1_put_0 (p : Program) (l : Launch) (e : Env) (s : State) (m : MethodId) (args : Array Value) (below : List Frame) (meth : Method) (c : Code) (A : Nat → Prop) (D : va_G) (cI cJ cZ cQ : ClassId) (a_t a_t_a a_t_b a_t_c : Nat) (t_meetX : Int32) (t_meetY : Int32) (t_meetD : Int32) (res : R_X1_put) (k : Int32 → (Nat → Int32) → (Nat → Int32) → (Nat → Int32) → Int32 → Int32 → Int32 → Option R_X1_put) : Prop := ∀ (t_count : Int32) (t_a : Nat → Int32) (t_b : Nat → Int32) (t_c : Nat → Int32) (x1 : Int32) (x2 : Int32) (x3 : Int32), k t_count t_a t_b t_c x1 x2 x3 = some res → ∀ (H : Heap) (locs : List Loc), va_P D vwCl (w_X1_put cI cJ cZ cQ a_t a_t_a a_t_b a_t_c t_count t_meetX t_meetY t_meetD t_a t_b t_c) H → va_D A (w_X1_put cI cJ cZ cQ a_t a_t_a a_t_b a_t_c t_count t_meetX t_meetY t_meetD t_a t_b t_c) → va_S A s.heap H locs → ∀ ls : Array Slot, lv_has ls 4 [(0, .ref a_t), (1, .int x1), (2, .int x2), (3, .int x3)] → W p l e (headSpec wsX1_put rm_X1_put).room s m args below meth c H locs 0 0 (MQ below (qV D (tys4 cI cJ cZ cQ) (w_X1_put cI cJ cZ cQ a_t a_t_a a_t_b a_t_c res.1 t_meetX t_meetY t_meetD res.2.1 res.2.2.1 res.2.2.2) A) args s 0 0 A) (F0 m 0 ls [])
set_option maxHeartbeats 4000000 in
set_option maxRecDepth 100000 in
theorem t_X1_put_0 {p : Program} {l : Launch} {e : Env} {s : State} {m : MethodId} {args : Array Value} {below : List Frame} {meth : Method} {c : Code} {A : Nat → Prop} {D : va_G} {cI cJ cZ cQ : ClassId} {a_t a_t_a a_t_b a_t_c : Nat} {t_meetX : Int32} {t_meetY : Int32} {t_meetD : Int32} {res : R_X1_put}   (hC : mcx RX1 cX1_put none 4 wsX1_put p s m args meth c A D (tys4 cI cJ cZ cQ))   : S_X1_put_0 p l e s m args below meth c A D cI cJ cZ cQ a_t a_t_a a_t_b a_t_c t_meetX t_meetY t_meetD res (f_X1_put_0  ) := by
  intro t_count t_a t_b t_c x1 x2 x3 hf H locs hP hD hS ls hl
  obtain ⟨hx, hb, hr, hml, hown, hts, hlocks, hA, hK, hN⟩ := id hC
  unfold f_X1_put_0 at hf
  refine lv_aload_n hx hb dX1_put_0 rfl (lv_at hl 0 rfl) ?_
  refine va_get (D := D) (ci := 1) (v := .int t_count) (C := RX1) (T := TX1) (N := 7) hx hb hts iw_X1_put_1 hown hK hP 0 rfl rfl 3 (by decide) (hts (.fieldLink RX1 21 "PowerDiagram$HalfPlanes" "count" "I") (List.mem_of_getElem? (i := 1) rfl)) (fun _ h9 => h9) rfl dX1_put_1 ?_
  refine lv_bipush (v := (14 : Int32)) hx hb dX1_put_4 (by decide) ?_
  refine lv_icmp_lt (tgt := 10) hx hb dX1_put_6 (by decide) (fun c1 => ?_) (fun c1 => ?_)
  · replace hf := brT c1 hf
    refine lv_aload_n hx hb dX1_put_10 rfl (lv_at hl 0 rfl) ?_
    refine va_get (D := D) (ci := 1) (v := .ref a_t_a) (C := RX1) (T := TX1) (N := 7) hx hb hts iw_X1_put_1 hown hK hP 0 rfl rfl 0 (by decide) (hts (.fieldLink RX1 11 "PowerDiagram$HalfPlanes" "a" "[I") (List.mem_of_getElem? (i := 2) rfl)) (fun _ h9 => h9) rfl dX1_put_11 ?_
    refine lv_aload_n hx hb dX1_put_14 rfl (lv_at hl 0 rfl) ?_
    refine va_get (D := D) (ci := 1) (v := .int t_count) (C := RX1) (T := TX1) (N := 7) hx hb hts iw_X1_put_1 hown hK hP 0 rfl rfl 3 (by decide) (hts (.fieldLink RX1 21 "PowerDiagram$HalfPlanes" "count" "I") (List.mem_of_getElem? (i := 1) rfl)) (fun _ h9 => h9) rfl dX1_put_15 ?_
    refine lv_iload_n hx hb dX1_put_18 rfl (lv_at hl 1 rfl) ?_
    obtain ⟨h2, hf⟩ := gIx_of hf
    refine wrI (WB := (w_X1_put cI cJ cZ cQ a_t a_t_a a_t_b a_t_c t_count t_meetX t_meetY t_meetD (upd t_a t_count.toNatClampNeg x1) t_b t_c)) hx hb hK hP hD hS 1 0 rfl rfl h2 dX1_put_19 rfl (fun H locs hP hD hS => ?_)
    refine lv_aload_n hx hb dX1_put_20 rfl (lv_at hl 0 rfl) ?_
    refine va_get (D := D) (ci := 1) (v := .ref a_t_b) (C := RX1) (T := TX1) (N := 7) hx hb hts iw_X1_put_1 hown hK hP 0 rfl rfl 1 (by decide) (hts (.fieldLink RX1 15 "PowerDiagram$HalfPlanes" "b" "[I") (List.mem_of_getElem? (i := 3) rfl)) (fun _ h9 => h9) rfl dX1_put_21 ?_
    refine lv_aload_n hx hb dX1_put_24 rfl (lv_at hl 0 rfl) ?_
    refine va_get (D := D) (ci := 1) (v := .int t_count) (C := RX1) (T := TX1) (N := 7) hx hb hts iw_X1_put_1 hown hK hP 0 rfl rfl 3 (by decide) (hts (.fieldLink RX1 21 "PowerDiagram$HalfPlanes" "count" "I") (List.mem_of_getElem? (i := 1) rfl)) (fun _ h9 => h9) rfl dX1_put_25 ?_
    refine lv_iload_n hx hb dX1_put_28 rfl (lv_at hl 2 rfl) ?_
    refine wrI (WB := (w_X1_put cI cJ cZ cQ a_t a_t_a a_t_b a_t_c t_count t_meetX t_meetY t_meetD (upd t_a t_count.toNatClampNeg x1) (upd t_b t_count.toNatClampNeg x2) t_c)) hx hb hK hP hD hS 2 0 rfl rfl h2 dX1_put_29 rfl (fun H locs hP hD hS => ?_)
    refine lv_aload_n hx hb dX1_put_30 rfl (lv_at hl 0 rfl) ?_
    refine va_get (D := D) (ci := 1) (v := .ref a_t_c) (C := RX1) (T := TX1) (N := 7) hx hb hts iw_X1_put_1 hown hK hP 0 rfl rfl 2 (by decide) (hts (.fieldLink RX1 18 "PowerDiagram$HalfPlanes" "c" "[I") (List.mem_of_getElem? (i := 4) rfl)) (fun _ h9 => h9) rfl dX1_put_31 ?_
    refine lv_aload_n hx hb dX1_put_34 rfl (lv_at hl 0 rfl) ?_
    refine va_get (D := D) (ci := 1) (v := .int t_count) (C := RX1) (T := TX1) (N := 7) hx hb hts iw_X1_put_1 hown hK hP 0 rfl rfl 3 (by decide) (hts (.fieldLink RX1 21 "PowerDiagram$HalfPlanes" "count" "I") (List.mem_of_getElem? (i := 1) rfl)) (fun _ h9 => h9) rfl dX1_put_35 ?_
    refine lv_iload_n hx hb dX1_put_38 rfl (lv_at hl 3 rfl) ?_
    refine wrI (WB := (w_X1_put cI cJ cZ cQ a_t a_t_a a_t_b a_t_c t_count t_meetX t_meetY t_meetD (upd t_a t_count.toNatClampNeg x1) (upd t_b t_count.toNatClampNeg x2) (upd t_c t_count.toNatClampNeg x3))) hx hb hK hP hD hS 3 0 rfl rfl h2 dX1_put_39 rfl (fun H locs hP hD hS => ?_)
    refine lv_aload_n hx hb dX1_put_40 rfl (lv_at hl 0 rfl) ?_
    refine lv_dup hx hb dX1_put_41 rfl ?_
    refine va_get (D := D) (ci := 1) (v := .int t_count) (C := RX1) (T := TX1) (N := 7) hx hb hts iw_X1_put_1 hown hK hP 0 rfl rfl 3 (by decide) (hts (.fieldLink RX1 21 "PowerDiagram$HalfPlanes" "count" "I") (List.mem_of_getElem? (i := 1) rfl)) (fun _ h9 => h9) rfl dX1_put_42 ?_
    refine lv_iconst (v := (1 : Int32)) hx hb dX1_put_45 (by decide) ?_
    refine lv_iadd hx hb dX1_put_46 ?_
    refine lv_topi (fun v3 ev3 => ?_)
    replace hf := nm_of ev3 hf
    refine wrF (D := D) (ci := 1) (v := .int v3) (ty := .int) (C := RX1) (T := TX1) (N := 7) (WB := (w_X1_put cI cJ cZ cQ a_t a_t_a a_t_b a_t_c v3 t_meetX t_meetY t_meetD (upd t_a t_count.toNatClampNeg x1) (upd t_b t_count.toNatClampNeg x2) (upd t_c t_count.toNatClampNeg x3))) hx hb hts iw_X1_put_1 tyX1 tyX1_ok nmX1 hown hK hP hD hS 0 rfl rfl 3 (by decide) (hts (.fieldLink RX1 21 "PowerDiagram$HalfPlanes" "count" "I") (List.mem_of_getElem? (i := 1) rfl)) (fun _ h9 => h9) rfl rfl rfl rfl (Nat.le_of_ble_eq_true rfl) dX1_put_47 rfl (fun H locs hP hD hS => ?_)
    obtain rfl := Option.some.inj hf
    exact endV hC hP hD hS dX1_put_50
  · replace hf := brF c1 hf
    obtain rfl := Option.some.inj hf
    exact endV hC hP hD hS dX1_put_9
theorem c_X1_put (l : Launch) (D : va_G) (cI cJ cZ cQ : ClassId) (a_t a_t_a a_t_b a_t_c : Nat) (t_count : Int32) (t_meetX : Int32) (t_meetY : Int32) (t_meetD : Int32) (t_a : Nat → Int32) (t_b : Nat → Int32) (t_c : Nat → Int32) (p0 : Int32) (p1 : Int32) (p2 : Int32)  (res : R_X1_put)  (hf : f_X1_put_0  t_count t_a t_b t_c p0 p1 p2 = some res) : MetV l D (tys4 cI cJ cZ cQ) yX1_put wsX1_put rm_X1_put [.ref a_t, .int p0, .int p1, .int p2] (w_X1_put cI cJ cZ cQ a_t a_t_a a_t_b a_t_c t_count t_meetX t_meetY t_meetD t_a t_b t_c) (w_X1_put cI cJ cZ cQ a_t a_t_a a_t_b a_t_c res.1 t_meetX t_meetY t_meetD res.2.1 res.2.2.1 res.2.2.2) := by
  intro sz
  exact metW (own := RX1) (cc := cX1_put) (nL := 4) (ret := none) (Qc := fun A => qV D (tys4 cI cJ cZ cQ) (w_X1_put cI cJ cZ cQ a_t a_t_a a_t_b a_t_c res.1 t_meetX t_meetY t_meetD res.2.1 res.2.2.1 res.2.2.2) A) (by decide) rfl rfl (Nat.le_of_ble_eq_true rfl) (fun p e s m args below meth c A hC hP hD hS ls hl => t_X1_put_0 hC  t_count t_a t_b t_c p0 p1 p2 hf _ _ hP hD hS _ (lv_sub hl [0, 1, 2, 3] rfl)) sz
theorem e_X1_put : yX1_put.cls = RX1 ∧ yX1_put.cls ≠ "java/lang/invoke/MethodHandle" ∧ yX1_put.cls ≠ "java/lang/invoke/VarHandle" ∧ (parseMethodDescriptor yX1_put.desc).map (fun d => d.parameters.length) = some 3 := by decide +kernel
/-! X1_compare -/
theorem iw_X1_compare_1 : ∀ w ∈ wsX10, w ∈ wsX1_compare := fun _ h => List.mem_cons_of_mem _ (List.mem_append_left _ (List.mem_append_right _ h))
theorem iw_X1_compare_4 : ∀ w ∈ wsX40, w ∈ wsX1_compare := fun _ h => List.mem_cons_of_mem _ (List.mem_append_right _ h)
def w_X1_compare (cI cJ cZ cQ : ClassId) (a_t a_t_a a_t_b a_t_c a_p0 a_p0_x a_p0_y a_p0_w : Nat) (t_count : Int32) (t_meetX : Int32) (t_meetY : Int32) (t_meetD : Int32) (p0_count : Int32) (p0_x : Nat → Int32) (p0_y : Nat → Int32) (p0_w : Nat → Int32) (t_a : Nat → Int32) (t_b : Nat → Int32) (t_c : Nat → Int32) : va_W := [(a_t, .inr (1, [.ref a_t_a, .ref a_t_b, .ref a_t_c, .int t_count, .int t_meetX, .int t_meetY, .int t_meetD])), (a_p0, .inr (4, [.ref a_p0_x, .ref a_p0_y, .ref a_p0_w, .int p0_count])), (a_p0_x, .inl (cI, 10, .inl p0_x)), (a_p0_y, .inl (cI, 10, .inl p0_y)), (a_p0_w, .inl (cI, 10, .inl p0_w)), (a_t_a, .inl (cI, 14, .inl t_a)), (a_t_b, .inl (cI, 14, .inl t_b)), (a_t_c, .inl (cI, 14, .inl t_c))]
abbrev rm_X1_compare : Room := { frames := 2, cells := 0, slots := 0, locals := 43 }
def S_X1_compare_16 (p : Program) (l : Launch) (e : Env) (s : State) (m : MethodId) (args : Array Value) (below : List Frame) (meth : Method) (c : Code) (A : Nat → Prop) (D : va_G) (cI cJ cZ cQ : ClassId) (a_t a_t_a a_t_b a_t_c a_p0 a_p0_x a_p0_y a_p0_w : Nat) (t_meetX : Int32) (t_meetY : Int32) (t_meetD : Int32) (p0_count : Int32) (p0_x : Nat → Int32) (p0_y : Nat → Int32) (p0_w : Nat → Int32) (res : R_X1_compare) (k : Int32 → (Nat → Int32) → (Nat → Int32) → (Nat → Int32) → Int32 → Int32 → Option R_X1_compare) : Prop := ∀ (t_count : Int32) (t_a : Nat → Int32) (t_b : Nat → Int32) (t_c : Nat → Int32) (x2 : Int32) (x3 : Int32), k t_count t_a t_b t_c x2 x3 = some res → ∀ (H : Heap) (locs : List Loc), va_P D vwCl (w_X1_compare cI cJ cZ cQ a_t a_t_a a_t_b a_t_c a_p0 a_p0_x a_p0_y a_p0_w t_count t_meetX t_meetY t_meetD p0_count p0_x p0_y p0_w t_a t_b t_c) H → va_D A (w_X1_compare cI cJ cZ cQ a_t a_t_a a_t_b a_t_c a_p0 a_p0_x a_p0_y a_p0_w t_count t_meetX t_meetY t_meetD p0_count p0_x p0_y p0_w t_a t_b t_c) → va_S A s.heap H locs → ∀ ls : Array Slot, lv_has ls 4 [(0, .ref a_t), (1, .ref a_p0), (2, .int x2), (3, .int x3)] → W p l e (headSpec wsX1_compare rm_X1_compare).room s m args below meth c H locs 0 0 (MQ below (qV D (tys4 cI cJ cZ cQ) (w_X1_compare cI cJ cZ cQ a_t a_t_a a_t_b a_t_c a_p0 a_p0_x a_p0_y a_p0_w res.1 t_meetX t_meetY t_meetD p0_count p0_x p0_y p0_w res.2.1 res.2.2.1 res.2.2.2) A) args s 0 0 A) (F0 m 16 ls [])
def S_X1_compare_0 (p : Program) (l : Launch) (e : Env) (s : State) (m : MethodId) (args : Array Value) (below : List Frame) (meth : Method) (c : Code) (A : Nat → Prop) (D : va_G) (cI cJ cZ cQ : ClassId) (a_t a_t_a a_t_b a_t_c a_p0 a_p0_x a_p0_y a_p0_w : Nat) (t_meetX : Int32) (t_meetY : Int32) (t_meetD : Int32) (p0_count : Int32) (p0_x : Nat → Int32) (p0_y : Nat → Int32) (p0_w : Nat → Int32) (res : R_X1_compare) (k : Int32 → (Nat → Int32) → (Nat → Int32) → (Nat → Int32) → Int32 → Option R_X1_compare) : Prop := ∀ (t_count : Int32) (t_a : Nat → Int32) (t_b : Nat → Int32) (t_c : Nat → Int32) (x2 : Int32), k t_count t_a t_b t_c x2 = some res → ∀ (H : Heap) (locs : List Loc), va_P D vwCl (w_X1_compare cI cJ cZ cQ a_t a_t_a a_t_b a_t_c a_p0 a_p0_x a_p0_y a_p0_w t_count t_meetX t_meetY t_meetD p0_count p0_x p0_y p0_w t_a t_b t_c) H → va_D A (w_X1_compare cI cJ cZ cQ a_t a_t_a a_t_b a_t_c a_p0 a_p0_x a_p0_y a_p0_w t_count t_meetX t_meetY t_meetD p0_count p0_x p0_y p0_w t_a t_b t_c) → va_S A s.heap H locs → ∀ ls : Array Slot, lv_has ls 4 [(0, .ref a_t), (1, .ref a_p0), (2, .int x2)] → W p l e (headSpec wsX1_compare rm_X1_compare).room s m args below meth c H locs 0 0 (MQ below (qV D (tys4 cI cJ cZ cQ) (w_X1_compare cI cJ cZ cQ a_t a_t_a a_t_b a_t_c a_p0 a_p0_x a_p0_y a_p0_w res.1 t_meetX t_meetY t_meetD p0_count p0_x p0_y p0_w res.2.1 res.2.2.1 res.2.2.2) A) args s 0 0 A) (F0 m 0 ls [])
set_option maxHeartbeats 4000000 in
set_option maxRecDepth 100000 in
theorem i_X1_compare_16 {p : Program} {l : Launch} {e : Env} {s : State} {m : MethodId} {args : Array Value} {below : List Frame} {meth : Method} {c : Code} {A : Nat → Prop} {D : va_G} {cI cJ cZ cQ : ClassId} {a_t a_t_a a_t_b a_t_c a_p0 a_p0_x a_p0_y a_p0_w : Nat} {t_meetX : Int32} {t_meetY : Int32} {t_meetD : Int32} {p0_count : Int32} {p0_x : Nat → Int32} {p0_y : Nat → Int32} {p0_w : Nat → Int32} {res : R_X1_compare}   {k16 : Int32 → (Nat → Int32) → (Nat → Int32) → (Nat → Int32) → Int32 → Int32 → Option R_X1_compare} (hC : mcx RX1 cX1_compare none 4 wsX1_compare p s m args meth c A D (tys4 cI cJ cZ cQ))   (hk16 : S_X1_compare_16 p l e s m args below meth c A D cI cJ cZ cQ a_t a_t_a a_t_b a_t_c a_p0 a_p0_x a_p0_y a_p0_w t_meetX t_meetY t_meetD p0_count p0_x p0_y p0_w res k16) : S_X1_compare_16 p l e s m args below meth c A D cI cJ cZ cQ a_t a_t_a a_t_b a_t_c a_p0 a_p0_x a_p0_y a_p0_w t_meetX t_meetY t_meetD p0_count p0_x p0_y p0_w res (g_X1_compare_16  p0_count p0_x p0_y p0_w k16) := by
  intro t_count t_a t_b t_c x2 x3 hf H locs hP hD hS ls hl
  obtain ⟨hx, hb, hr, hml, hown, hts, hlocks, hA, hK, hN⟩ := id hC
  unfold g_X1_compare_16 at hf
  refine lv_iload_n hx hb dX1_compare_16 rfl (lv_at hl 3 rfl) ?_
  refine lv_aload_n hx hb dX1_compare_17 rfl (lv_at hl 1 rfl) ?_
  refine va_get (D := D) (ci := 4) (v := .int p0_count) (C := RX4) (T := TX4) (N := 4) hx hb hts iw_X1_compare_4 hown hK hP 1 rfl rfl 3 (by decide) (hts (.fieldLink RX1 40 "PowerDiagram$Sites" "count" "I") (List.mem_of_getElem? (i := 2) rfl)) (fun _ h9 => h9) rfl dX1_compare_18 ?_
  refine lv_icmp_ge (tgt := 75) hx hb dX1_compare_21 (by decide) (fun c1 => ?_) (fun c1 => ?_)
  · replace hf := brT c1 hf
    obtain rfl := Option.some.inj hf
    exact endV hC hP hD hS dX1_compare_75
  · replace hf := brF c1 hf
    refine lv_aload_n hx hb dX1_compare_24 rfl (lv_at hl 0 rfl) ?_
    refine lv_iconst (v := (2 : Int32)) hx hb dX1_compare_25 (by decide) ?_
    refine lv_aload_n hx hb dX1_compare_26 rfl (lv_at hl 1 rfl) ?_
    refine va_get (D := D) (ci := 4) (v := .ref a_p0_x) (C := RX4) (T := TX4) (N := 4) hx hb hts iw_X1_compare_4 hown hK hP 1 rfl rfl 0 (by decide) (hts (.fieldLink RX1 41 "PowerDiagram$Sites" "x" "[I") (List.mem_of_getElem? (i := 3) rfl)) (fun _ h9 => h9) rfl dX1_compare_27 ?_
    refine lv_iload_n hx hb dX1_compare_30 rfl (lv_at hl 3 rfl) ?_
    obtain ⟨h2, hf⟩ := gIx_of hf
    refine va_iald hx hb hK hP 2 0 rfl rfl h2 dX1_compare_31 ?_
    refine lv_aload_n hx hb dX1_compare_32 rfl (lv_at hl 1 rfl) ?_
    refine va_get (D := D) (ci := 4) (v := .ref a_p0_x) (C := RX4) (T := TX4) (N := 4) hx hb hts iw_X1_compare_4 hown hK hP 1 rfl rfl 0 (by decide) (hts (.fieldLink RX1 41 "PowerDiagram$Sites" "x" "[I") (List.mem_of_getElem? (i := 3) rfl)) (fun _ h9 => h9) rfl dX1_compare_33 ?_
    refine lv_iload_n hx hb dX1_compare_36 rfl (lv_at hl 2 rfl) ?_
    obtain ⟨h3, hf⟩ := gIx_of hf
    refine va_iald hx hb hK hP 2 0 rfl rfl h3 dX1_compare_37 ?_
    refine lv_isub hx hb dX1_compare_38 ?_
    refine lv_imul hx hb dX1_compare_39 ?_
    refine lv_iconst (v := (2 : Int32)) hx hb dX1_compare_40 (by decide) ?_
    refine lv_aload_n hx hb dX1_compare_41 rfl (lv_at hl 1 rfl) ?_
    refine va_get (D := D) (ci := 4) (v := .ref a_p0_y) (C := RX4) (T := TX4) (N := 4) hx hb hts iw_X1_compare_4 hown hK hP 1 rfl rfl 1 (by decide) (hts (.fieldLink RX1 44 "PowerDiagram$Sites" "y" "[I") (List.mem_of_getElem? (i := 4) rfl)) (fun _ h9 => h9) rfl dX1_compare_42 ?_
    refine lv_iload_n hx hb dX1_compare_45 rfl (lv_at hl 3 rfl) ?_
    refine va_iald hx hb hK hP 3 0 rfl rfl h2 dX1_compare_46 ?_
    refine lv_aload_n hx hb dX1_compare_47 rfl (lv_at hl 1 rfl) ?_
    refine va_get (D := D) (ci := 4) (v := .ref a_p0_y) (C := RX4) (T := TX4) (N := 4) hx hb hts iw_X1_compare_4 hown hK hP 1 rfl rfl 1 (by decide) (hts (.fieldLink RX1 44 "PowerDiagram$Sites" "y" "[I") (List.mem_of_getElem? (i := 4) rfl)) (fun _ h9 => h9) rfl dX1_compare_48 ?_
    refine lv_iload_n hx hb dX1_compare_51 rfl (lv_at hl 2 rfl) ?_
    refine va_iald hx hb hK hP 3 0 rfl rfl h3 dX1_compare_52 ?_
    refine lv_isub hx hb dX1_compare_53 ?_
    refine lv_imul hx hb dX1_compare_54 ?_
    refine lv_aload_n hx hb dX1_compare_55 rfl (lv_at hl 1 rfl) ?_
    refine lv_iload_n hx hb dX1_compare_56 rfl (lv_at hl 3 rfl) ?_
    obtain ⟨r4, hq5, hf⟩ := bnd_of hf
    refine jnI (WB := (w_X1_compare cI cJ cZ cQ a_t a_t_a a_t_b a_t_c a_p0 a_p0_x a_p0_y a_p0_w t_count t_meetX t_meetY t_meetD p0_count p0_x p0_y p0_w t_a t_b t_c)) (rnV (As := [.int x3]) (rest := [.int ((2 : Int32) * ((p0_y x3.toNatClampNeg) - (p0_y x2.toNatClampNeg))), .int ((2 : Int32) * ((p0_x x3.toNatClampNeg) - (p0_x x2.toNatClampNeg))), .ref a_t]) (ci := 4) (q0 := 0) (W0 := (w_X4_levelOf cI cJ cZ cQ a_p0 a_p0_x a_p0_y a_p0_w p0_count p0_x p0_y p0_w)) hx hb hml hown hts hK hN (c_X4_levelOf l D cI cJ cZ cQ a_p0 a_p0_x a_p0_y a_p0_w p0_count p0_x p0_y p0_w x3 r4 hq5 H.size) (cwV 1 hts gX1_compare_X4_levelOf rfl rfl rfl e_X4_levelOf ⟨Nat.le_of_ble_eq_true rfl, Nat.le_of_ble_eq_true rfl⟩) hP hD [1, 2, 3, 4] rfl (by decide) rfl rfl rfl rfl hl (Nat.le_of_ble_eq_true rfl) dX1_compare_57 ⟨Nat.zero_le _, Nat.zero_le _⟩ rfl) hP hD hS hA [1, 2, 3, 4] [0, 5, 6, 7] [0, 4, 5, 6, 7, 1, 2, 3] rfl rfl (by decide) (by decide) rfl (by decide) (fun H locs hP hD hS => ?_)
    refine lv_aload_n hx hb dX1_compare_60 rfl (lv_at hl 1 rfl) ?_
    refine lv_iload_n hx hb dX1_compare_61 rfl (lv_at hl 2 rfl) ?_
    obtain ⟨r6, hq7, hf⟩ := bnd_of hf
    refine jnI (WB := (w_X1_compare cI cJ cZ cQ a_t a_t_a a_t_b a_t_c a_p0 a_p0_x a_p0_y a_p0_w t_count t_meetX t_meetY t_meetD p0_count p0_x p0_y p0_w t_a t_b t_c)) (rnV (As := [.int x2]) (rest := [.int r4, .int ((2 : Int32) * ((p0_y x3.toNatClampNeg) - (p0_y x2.toNatClampNeg))), .int ((2 : Int32) * ((p0_x x3.toNatClampNeg) - (p0_x x2.toNatClampNeg))), .ref a_t]) (ci := 4) (q0 := 0) (W0 := (w_X4_levelOf cI cJ cZ cQ a_p0 a_p0_x a_p0_y a_p0_w p0_count p0_x p0_y p0_w)) hx hb hml hown hts hK hN (c_X4_levelOf l D cI cJ cZ cQ a_p0 a_p0_x a_p0_y a_p0_w p0_count p0_x p0_y p0_w x2 r6 hq7 H.size) (cwV 1 hts gX1_compare_X4_levelOf rfl rfl rfl e_X4_levelOf ⟨Nat.le_of_ble_eq_true rfl, Nat.le_of_ble_eq_true rfl⟩) hP hD [1, 2, 3, 4] rfl (by decide) rfl rfl rfl rfl hl (Nat.le_of_ble_eq_true rfl) dX1_compare_62 ⟨Nat.zero_le _, Nat.zero_le _⟩ rfl) hP hD hS hA [1, 2, 3, 4] [0, 5, 6, 7] [0, 4, 5, 6, 7, 1, 2, 3] rfl rfl (by decide) (by decide) rfl (by decide) (fun H locs hP hD hS => ?_)
    refine lv_isub hx hb dX1_compare_65 ?_
    obtain ⟨u8, u9, u10, u11, hq12, hf⟩ := bnd4_of hf
    refine jnV (WB := (w_X1_compare cI cJ cZ cQ a_t a_t_a a_t_b a_t_c a_p0 a_p0_x a_p0_y a_p0_w u8 t_meetX t_meetY t_meetD p0_count p0_x p0_y p0_w u9 u10 u11)) (rnV (As := [.int ((2 : Int32) * ((p0_x x3.toNatClampNeg) - (p0_x x2.toNatClampNeg))), .int ((2 : Int32) * ((p0_y x3.toNatClampNeg) - (p0_y x2.toNatClampNeg))), .int (r4 - r6)]) (rest := []) (ci := 1) (q0 := 0) (W0 := (w_X1_put cI cJ cZ cQ a_t a_t_a a_t_b a_t_c t_count t_meetX t_meetY t_meetD t_a t_b t_c)) hx hb hml hown hts hK hN (c_X1_put l D cI cJ cZ cQ a_t a_t_a a_t_b a_t_c t_count t_meetX t_meetY t_meetD t_a t_b t_c ((2 : Int32) * ((p0_x x3.toNatClampNeg) - (p0_x x2.toNatClampNeg))) ((2 : Int32) * ((p0_y x3.toNatClampNeg) - (p0_y x2.toNatClampNeg))) (r4 - r6) (u8, u9, u10, u11) hq12 H.size) (cwV 3 hts gX1_compare_X1_put rfl rfl rfl e_X1_put ⟨Nat.le_of_ble_eq_true rfl, Nat.le_of_ble_eq_true rfl⟩) hP hD [0, 5, 6, 7] rfl (by decide) rfl rfl rfl rfl hl (Nat.le_of_ble_eq_true rfl) dX1_compare_66 ⟨Nat.zero_le _, Nat.zero_le _⟩ rfl) hP hD hS hA [0, 5, 6, 7] [1, 2, 3, 4] [4, 0, 1, 2, 3, 5, 6, 7] rfl rfl (by decide) (by decide) rfl (by decide) (fun H locs hP hD hS => ?_)
    refine lv_iinc (v := (x3 + (1 : Int32))) (lv' := [(3, .int (x3 + (1 : Int32))), (0, .ref a_t), (1, .ref a_p0), (2, .int x2)]) hx hb dX1_compare_69 hl (k := 3) rfl rfl (by decide) rfl (fun ls hl => ?_)
    refine lv_goto (tgt := 16) hx hb dX1_compare_72 (by decide) ?_
    exact (hk16) u8 u9 u10 u11 x2 (x3 + (1 : Int32)) hf _ _ hP hD hS _ (lv_sub hl [1, 2, 3, 0] rfl)
theorem t_X1_compare_16 {p : Program} {l : Launch} {e : Env} {s : State} {m : MethodId} {args : Array Value} {below : List Frame} {meth : Method} {c : Code} {A : Nat → Prop} {D : va_G} {cI cJ cZ cQ : ClassId} {a_t a_t_a a_t_b a_t_c a_p0 a_p0_x a_p0_y a_p0_w : Nat} {t_meetX : Int32} {t_meetY : Int32} {t_meetD : Int32} {p0_count : Int32} {p0_x : Nat → Int32} {p0_y : Nat → Int32} {p0_w : Nat → Int32} {res : R_X1_compare}   (hC : mcx RX1 cX1_compare none 4 wsX1_compare p s m args meth c A D (tys4 cI cJ cZ cQ))   (n : Nat) : S_X1_compare_16 p l e s m args below meth c A D cI cJ cZ cQ a_t a_t_a a_t_b a_t_c a_p0 a_p0_x a_p0_y a_p0_w t_meetX t_meetY t_meetD p0_count p0_x p0_y p0_w res (f_X1_compare_16  p0_count p0_x p0_y p0_w n) := by
  induction n with
  | zero =>
    intro t_count t_a t_b t_c x2 x3 hf
    exact nomatch (show (none : Option R_X1_compare) = some res from hf)
  | succ n ih => exact i_X1_compare_16 hC   ih
set_option maxHeartbeats 4000000 in
set_option maxRecDepth 100000 in
theorem t_X1_compare_0 {p : Program} {l : Launch} {e : Env} {s : State} {m : MethodId} {args : Array Value} {below : List Frame} {meth : Method} {c : Code} {A : Nat → Prop} {D : va_G} {cI cJ cZ cQ : ClassId} {a_t a_t_a a_t_b a_t_c a_p0 a_p0_x a_p0_y a_p0_w : Nat} {t_meetX : Int32} {t_meetY : Int32} {t_meetD : Int32} {p0_count : Int32} {p0_x : Nat → Int32} {p0_y : Nat → Int32} {p0_w : Nat → Int32} {res : R_X1_compare}   (hC : mcx RX1 cX1_compare none 4 wsX1_compare p s m args meth c A D (tys4 cI cJ cZ cQ))   : S_X1_compare_0 p l e s m args below meth c A D cI cJ cZ cQ a_t a_t_a a_t_b a_t_c a_p0 a_p0_x a_p0_y a_p0_w t_meetX t_meetY t_meetD p0_count p0_x p0_y p0_w res (f_X1_compare_0  p0_count p0_x p0_y p0_w) := by
  intro t_count t_a t_b t_c x2 hf H locs hP hD hS ls hl
  obtain ⟨hx, hb, hr, hml, hown, hts, hlocks, hA, hK, hN⟩ := id hC
  unfold f_X1_compare_0 at hf
  refine lv_aload_n hx hb dX1_compare_0 rfl (lv_at hl 0 rfl) ?_
  refine lv_iconst (v := (0 : Int32)) hx hb dX1_compare_1 (by decide) ?_
  refine wrF (D := D) (ci := 1) (v := .int (0 : Int32)) (ty := .int) (C := RX1) (T := TX1) (N := 7) (WB := (w_X1_compare cI cJ cZ cQ a_t a_t_a a_t_b a_t_c a_p0 a_p0_x a_p0_y a_p0_w (0 : Int32) t_meetX t_meetY t_meetD p0_count p0_x p0_y p0_w t_a t_b t_c)) hx hb hts iw_X1_compare_1 tyX1 tyX1_ok nmX1 hown hK hP hD hS 0 rfl rfl 3 (by decide) (hts (.fieldLink RX1 21 "PowerDiagram$HalfPlanes" "count" "I") (List.mem_of_getElem? (i := 1) rfl)) (fun _ h9 => h9) rfl rfl rfl rfl (Nat.le_of_ble_eq_true rfl) dX1_compare_2 rfl (fun H locs hP hD hS => ?_)
  refine lv_aload_n hx hb dX1_compare_5 rfl (lv_at hl 1 rfl) ?_
  refine lv_iload_n hx hb dX1_compare_6 rfl (lv_at hl 2 rfl) ?_
  obtain ⟨r1, hq2, hf⟩ := bnd_of hf
  refine jnI (WB := (w_X1_compare cI cJ cZ cQ a_t a_t_a a_t_b a_t_c a_p0 a_p0_x a_p0_y a_p0_w (0 : Int32) t_meetX t_meetY t_meetD p0_count p0_x p0_y p0_w t_a t_b t_c)) (rnV (As := [.int x2]) (rest := []) (ci := 4) (q0 := 0) (W0 := (w_X4_has cI cJ cZ cQ a_p0 a_p0_x a_p0_y a_p0_w p0_count)) hx hb hml hown hts hK hN (c_X4_has l D cI cJ cZ cQ a_p0 a_p0_x a_p0_y a_p0_w p0_count x2 r1 hq2 H.size) (cwV 1 hts gX1_compare_X4_has rfl rfl rfl e_X4_has ⟨Nat.le_of_ble_eq_true rfl, Nat.le_of_ble_eq_true rfl⟩) hP hD [1] rfl (by decide) rfl rfl rfl rfl hl (Nat.le_of_ble_eq_true rfl) dX1_compare_7 ⟨Nat.zero_le _, Nat.zero_le _⟩ rfl) hP hD hS hA [1] [0, 2, 3, 4, 5, 6, 7] [0, 7, 1, 2, 3, 4, 5, 6] rfl rfl (by decide) (by decide) rfl (by decide) (fun H locs hP hD hS => ?_)
  refine lv_if_ne (tgt := 14) hx hb dX1_compare_10 (by decide) (fun c3 => ?_) (fun c3 => ?_)
  · replace hf := brF c3 hf
    refine lv_iconst (v := (0 : Int32)) hx hb dX1_compare_14 (by decide) ?_
    refine lv_istore_n (lv' := [(3, .int (0 : Int32)), (0, .ref a_t), (1, .ref a_p0), (2, .int x2)]) hx hb dX1_compare_15 rfl hl (by decide) rfl (fun ls hl => ?_)
    exact (t_X1_compare_16 hC   fuel) (0 : Int32) t_a t_b t_c x2 (0 : Int32) hf _ _ hP hD hS _ (lv_sub hl [1, 2, 3, 0] rfl)
  · replace hf := brT c3 hf
    obtain rfl := Option.some.inj hf
    exact endV hC hP hD hS dX1_compare_13
theorem c_X1_compare (l : Launch) (D : va_G) (cI cJ cZ cQ : ClassId) (a_t a_t_a a_t_b a_t_c a_p0 a_p0_x a_p0_y a_p0_w : Nat) (t_count : Int32) (t_meetX : Int32) (t_meetY : Int32) (t_meetD : Int32) (p0_count : Int32) (p0_x : Nat → Int32) (p0_y : Nat → Int32) (p0_w : Nat → Int32) (t_a : Nat → Int32) (t_b : Nat → Int32) (t_c : Nat → Int32) (p1 : Int32)  (res : R_X1_compare)  (hf : f_X1_compare_0 p0_count p0_x p0_y p0_w t_count t_a t_b t_c p1 = some res) : MetV l D (tys4 cI cJ cZ cQ) yX1_compare wsX1_compare rm_X1_compare [.ref a_t, .ref a_p0, .int p1] (w_X1_compare cI cJ cZ cQ a_t a_t_a a_t_b a_t_c a_p0 a_p0_x a_p0_y a_p0_w t_count t_meetX t_meetY t_meetD p0_count p0_x p0_y p0_w t_a t_b t_c) (w_X1_compare cI cJ cZ cQ a_t a_t_a a_t_b a_t_c a_p0 a_p0_x a_p0_y a_p0_w res.1 t_meetX t_meetY t_meetD p0_count p0_x p0_y p0_w res.2.1 res.2.2.1 res.2.2.2) := by
  intro sz
  exact metW (own := RX1) (cc := cX1_compare) (nL := 4) (ret := none) (Qc := fun A => qV D (tys4 cI cJ cZ cQ) (w_X1_compare cI cJ cZ cQ a_t a_t_a a_t_b a_t_c a_p0 a_p0_x a_p0_y a_p0_w res.1 t_meetX t_meetY t_meetD p0_count p0_x p0_y p0_w res.2.1 res.2.2.1 res.2.2.2) A) (by decide) rfl rfl (Nat.le_of_ble_eq_true rfl) (fun p e s m args below meth c A hC hP hD hS ls hl => t_X1_compare_0 hC  t_count t_a t_b t_c p1 hf _ _ hP hD hS _ (lv_sub hl [0, 1, 2] rfl)) sz
theorem e_X1_compare : yX1_compare.cls = RX1 ∧ yX1_compare.cls ≠ "java/lang/invoke/MethodHandle" ∧ yX1_compare.cls ≠ "java/lang/invoke/VarHandle" ∧ (parseMethodDescriptor yX1_compare.desc).map (fun d => d.parameters.length) = some 2 := by decide +kernel
/-! X1_addSquare -/
def w_X1_addSquare (cI cJ cZ cQ : ClassId) (a_t a_t_a a_t_b a_t_c : Nat) (t_count : Int32) (t_meetX : Int32) (t_meetY : Int32) (t_meetD : Int32) (t_a : Nat → Int32) (t_b : Nat → Int32) (t_c : Nat → Int32) : va_W := [(a_t, .inr (1, [.ref a_t_a, .ref a_t_b, .ref a_t_c, .int t_count, .int t_meetX, .int t_meetY, .int t_meetD])), (a_t_a, .inl (cI, 14, .inl t_a)), (a_t_b, .inl (cI, 14, .inl t_b)), (a_t_c, .inl (cI, 14, .inl t_c))]
abbrev rm_X1_addSquare : Room := { frames := 1, cells := 0, slots := 0, locals := 23 }
def S_X1_addSquare_0 (p : Program) (l : Launch) (e : Env) (s : State) (m : MethodId) (args : Array Value) (below : List Frame) (meth : Method) (c : Code) (A : Nat → Prop) (D : va_G) (cI cJ cZ cQ : ClassId) (a_t a_t_a a_t_b a_t_c : Nat) (t_meetX : Int32) (t_meetY : Int32) (t_meetD : Int32) (res : R_X1_addSquare) (k : Int32 → (Nat → Int32) → (Nat → Int32) → (Nat → Int32) → Option R_X1_addSquare) : Prop := ∀ (t_count : Int32) (t_a : Nat → Int32) (t_b : Nat → Int32) (t_c : Nat → Int32), k t_count t_a t_b t_c = some res → ∀ (H : Heap) (locs : List Loc), va_P D vwCl (w_X1_addSquare cI cJ cZ cQ a_t a_t_a a_t_b a_t_c t_count t_meetX t_meetY t_meetD t_a t_b t_c) H → va_D A (w_X1_addSquare cI cJ cZ cQ a_t a_t_a a_t_b a_t_c t_count t_meetX t_meetY t_meetD t_a t_b t_c) → va_S A s.heap H locs → ∀ ls : Array Slot, lv_has ls 1 [(0, .ref a_t)] → W p l e (headSpec wsX1_addSquare rm_X1_addSquare).room s m args below meth c H locs 0 0 (MQ below (qV D (tys4 cI cJ cZ cQ) (w_X1_addSquare cI cJ cZ cQ a_t a_t_a a_t_b a_t_c res.1 t_meetX t_meetY t_meetD res.2.1 res.2.2.1 res.2.2.2) A) args s 0 0 A) (F0 m 0 ls [])
set_option maxHeartbeats 4000000 in
set_option maxRecDepth 100000 in
theorem t_X1_addSquare_0 {p : Program} {l : Launch} {e : Env} {s : State} {m : MethodId} {args : Array Value} {below : List Frame} {meth : Method} {c : Code} {A : Nat → Prop} {D : va_G} {cI cJ cZ cQ : ClassId} {a_t a_t_a a_t_b a_t_c : Nat} {t_meetX : Int32} {t_meetY : Int32} {t_meetD : Int32} {res : R_X1_addSquare}   (hC : mcx RX1 cX1_addSquare none 1 wsX1_addSquare p s m args meth c A D (tys4 cI cJ cZ cQ))   : S_X1_addSquare_0 p l e s m args below meth c A D cI cJ cZ cQ a_t a_t_a a_t_b a_t_c t_meetX t_meetY t_meetD res (f_X1_addSquare_0  ) := by
  intro t_count t_a t_b t_c hf H locs hP hD hS ls hl
  obtain ⟨hx, hb, hr, hml, hown, hts, hlocks, hA, hK, hN⟩ := id hC
  unfold f_X1_addSquare_0 at hf
  refine lv_aload_n hx hb dX1_addSquare_0 rfl (lv_at hl 0 rfl) ?_
  refine lv_iconst (v := (-1 : Int32)) hx hb dX1_addSquare_1 (by decide) ?_
  refine lv_iconst (v := (0 : Int32)) hx hb dX1_addSquare_2 (by decide) ?_
  refine lv_iconst (v := (0 : Int32)) hx hb dX1_addSquare_3 (by decide) ?_
  obtain ⟨u1, u2, u3, u4, hq5, hf⟩ := bnd4_of hf
  refine jnV (WB := (w_X1_addSquare cI cJ cZ cQ a_t a_t_a a_t_b a_t_c u1 t_meetX t_meetY t_meetD u2 u3 u4)) (rnV (As := [.int (-1 : Int32), .int (0 : Int32), .int (0 : Int32)]) (rest := []) (ci := 1) (q0 := 0) (W0 := (w_X1_put cI cJ cZ cQ a_t a_t_a a_t_b a_t_c t_count t_meetX t_meetY t_meetD t_a t_b t_c)) hx hb hml hown hts hK hN (c_X1_put l D cI cJ cZ cQ a_t a_t_a a_t_b a_t_c t_count t_meetX t_meetY t_meetD t_a t_b t_c (-1 : Int32) (0 : Int32) (0 : Int32) (u1, u2, u3, u4) hq5 H.size) (cwV 3 hts gX1_addSquare_X1_put rfl rfl rfl e_X1_put ⟨Nat.le_of_ble_eq_true rfl, Nat.le_of_ble_eq_true rfl⟩) hP hD [0, 1, 2, 3] rfl (by decide) rfl rfl rfl rfl hl (Nat.le_of_ble_eq_true rfl) dX1_addSquare_4 ⟨Nat.zero_le _, Nat.zero_le _⟩ rfl) hP hD hS hA [0, 1, 2, 3] [] [0, 1, 2, 3] rfl rfl (by decide) (by decide) rfl (by decide) (fun H locs hP hD hS => ?_)
  refine lv_aload_n hx hb dX1_addSquare_7 rfl (lv_at hl 0 rfl) ?_
  refine lv_iconst (v := (0 : Int32)) hx hb dX1_addSquare_8 (by decide) ?_
  refine lv_iconst (v := (-1 : Int32)) hx hb dX1_addSquare_9 (by decide) ?_
  refine lv_iconst (v := (0 : Int32)) hx hb dX1_addSquare_10 (by decide) ?_
  obtain ⟨u6, u7, u8, u9, hq10, hf⟩ := bnd4_of hf
  refine jnV (WB := (w_X1_addSquare cI cJ cZ cQ a_t a_t_a a_t_b a_t_c u6 t_meetX t_meetY t_meetD u7 u8 u9)) (rnV (As := [.int (0 : Int32), .int (-1 : Int32), .int (0 : Int32)]) (rest := []) (ci := 1) (q0 := 0) (W0 := (w_X1_put cI cJ cZ cQ a_t a_t_a a_t_b a_t_c u1 t_meetX t_meetY t_meetD u2 u3 u4)) hx hb hml hown hts hK hN (c_X1_put l D cI cJ cZ cQ a_t a_t_a a_t_b a_t_c u1 t_meetX t_meetY t_meetD u2 u3 u4 (0 : Int32) (-1 : Int32) (0 : Int32) (u6, u7, u8, u9) hq10 H.size) (cwV 3 hts gX1_addSquare_X1_put rfl rfl rfl e_X1_put ⟨Nat.le_of_ble_eq_true rfl, Nat.le_of_ble_eq_true rfl⟩) hP hD [0, 1, 2, 3] rfl (by decide) rfl rfl rfl rfl hl (Nat.le_of_ble_eq_true rfl) dX1_addSquare_11 ⟨Nat.zero_le _, Nat.zero_le _⟩ rfl) hP hD hS hA [0, 1, 2, 3] [] [0, 1, 2, 3] rfl rfl (by decide) (by decide) rfl (by decide) (fun H locs hP hD hS => ?_)
  refine lv_aload_n hx hb dX1_addSquare_14 rfl (lv_at hl 0 rfl) ?_
  refine lv_iconst (v := (1 : Int32)) hx hb dX1_addSquare_15 (by decide) ?_
  refine lv_iconst (v := (0 : Int32)) hx hb dX1_addSquare_16 (by decide) ?_
  refine lv_bipush (v := (20 : Int32)) hx hb dX1_addSquare_17 (by decide) ?_
  obtain ⟨u11, u12, u13, u14, hq15, hf⟩ := bnd4_of hf
  refine jnV (WB := (w_X1_addSquare cI cJ cZ cQ a_t a_t_a a_t_b a_t_c u11 t_meetX t_meetY t_meetD u12 u13 u14)) (rnV (As := [.int (1 : Int32), .int (0 : Int32), .int (20 : Int32)]) (rest := []) (ci := 1) (q0 := 0) (W0 := (w_X1_put cI cJ cZ cQ a_t a_t_a a_t_b a_t_c u6 t_meetX t_meetY t_meetD u7 u8 u9)) hx hb hml hown hts hK hN (c_X1_put l D cI cJ cZ cQ a_t a_t_a a_t_b a_t_c u6 t_meetX t_meetY t_meetD u7 u8 u9 (1 : Int32) (0 : Int32) (20 : Int32) (u11, u12, u13, u14) hq15 H.size) (cwV 3 hts gX1_addSquare_X1_put rfl rfl rfl e_X1_put ⟨Nat.le_of_ble_eq_true rfl, Nat.le_of_ble_eq_true rfl⟩) hP hD [0, 1, 2, 3] rfl (by decide) rfl rfl rfl rfl hl (Nat.le_of_ble_eq_true rfl) dX1_addSquare_19 ⟨Nat.zero_le _, Nat.zero_le _⟩ rfl) hP hD hS hA [0, 1, 2, 3] [] [0, 1, 2, 3] rfl rfl (by decide) (by decide) rfl (by decide) (fun H locs hP hD hS => ?_)
  refine lv_aload_n hx hb dX1_addSquare_22 rfl (lv_at hl 0 rfl) ?_
  refine lv_iconst (v := (0 : Int32)) hx hb dX1_addSquare_23 (by decide) ?_
  refine lv_iconst (v := (1 : Int32)) hx hb dX1_addSquare_24 (by decide) ?_
  refine lv_bipush (v := (20 : Int32)) hx hb dX1_addSquare_25 (by decide) ?_
  obtain ⟨u16, u17, u18, u19, hq20, hf⟩ := bnd4_of hf
  refine jnV (WB := (w_X1_addSquare cI cJ cZ cQ a_t a_t_a a_t_b a_t_c u16 t_meetX t_meetY t_meetD u17 u18 u19)) (rnV (As := [.int (0 : Int32), .int (1 : Int32), .int (20 : Int32)]) (rest := []) (ci := 1) (q0 := 0) (W0 := (w_X1_put cI cJ cZ cQ a_t a_t_a a_t_b a_t_c u11 t_meetX t_meetY t_meetD u12 u13 u14)) hx hb hml hown hts hK hN (c_X1_put l D cI cJ cZ cQ a_t a_t_a a_t_b a_t_c u11 t_meetX t_meetY t_meetD u12 u13 u14 (0 : Int32) (1 : Int32) (20 : Int32) (u16, u17, u18, u19) hq20 H.size) (cwV 3 hts gX1_addSquare_X1_put rfl rfl rfl e_X1_put ⟨Nat.le_of_ble_eq_true rfl, Nat.le_of_ble_eq_true rfl⟩) hP hD [0, 1, 2, 3] rfl (by decide) rfl rfl rfl rfl hl (Nat.le_of_ble_eq_true rfl) dX1_addSquare_27 ⟨Nat.zero_le _, Nat.zero_le _⟩ rfl) hP hD hS hA [0, 1, 2, 3] [] [0, 1, 2, 3] rfl rfl (by decide) (by decide) rfl (by decide) (fun H locs hP hD hS => ?_)
  obtain rfl := Option.some.inj hf
  exact endV hC hP hD hS dX1_addSquare_30
theorem c_X1_addSquare (l : Launch) (D : va_G) (cI cJ cZ cQ : ClassId) (a_t a_t_a a_t_b a_t_c : Nat) (t_count : Int32) (t_meetX : Int32) (t_meetY : Int32) (t_meetD : Int32) (t_a : Nat → Int32) (t_b : Nat → Int32) (t_c : Nat → Int32)   (res : R_X1_addSquare)  (hf : f_X1_addSquare_0  t_count t_a t_b t_c = some res) : MetV l D (tys4 cI cJ cZ cQ) yX1_addSquare wsX1_addSquare rm_X1_addSquare [.ref a_t] (w_X1_addSquare cI cJ cZ cQ a_t a_t_a a_t_b a_t_c t_count t_meetX t_meetY t_meetD t_a t_b t_c) (w_X1_addSquare cI cJ cZ cQ a_t a_t_a a_t_b a_t_c res.1 t_meetX t_meetY t_meetD res.2.1 res.2.2.1 res.2.2.2) := by
  intro sz
  exact metW (own := RX1) (cc := cX1_addSquare) (nL := 1) (ret := none) (Qc := fun A => qV D (tys4 cI cJ cZ cQ) (w_X1_addSquare cI cJ cZ cQ a_t a_t_a a_t_b a_t_c res.1 t_meetX t_meetY t_meetD res.2.1 res.2.2.1 res.2.2.2) A) (by decide) rfl rfl (Nat.le_of_ble_eq_true rfl) (fun p e s m args below meth c A hC hP hD hS ls hl => t_X1_addSquare_0 hC  t_count t_a t_b t_c hf _ _ hP hD hS _ (lv_sub hl [0] rfl)) sz
theorem e_X1_addSquare : yX1_addSquare.cls = RX1 ∧ yX1_addSquare.cls ≠ "java/lang/invoke/MethodHandle" ∧ yX1_addSquare.cls ≠ "java/lang/invoke/VarHandle" ∧ (parseMethodDescriptor yX1_addSquare.desc).map (fun d => d.parameters.length) = some 0 := by decide +kernel
/-! X1_has -/
theorem iw_X1_has_1 : ∀ w ∈ wsX10, w ∈ wsX1_has := fun _ h => List.mem_cons_of_mem _ (List.mem_append_right _ h)
def w_X1_has (cI cJ cZ cQ : ClassId) (a_t a_t_a a_t_b a_t_c : Nat) (t_count : Int32) (t_meetX : Int32) (t_meetY : Int32) (t_meetD : Int32) : va_W := [(a_t, .inr (1, [.ref a_t_a, .ref a_t_b, .ref a_t_c, .int t_count, .int t_meetX, .int t_meetY, .int t_meetD]))]
abbrev rm_X1_has : Room := { frames := 0, cells := 0, slots := 0, locals := 0 }
def S_X1_has_0 (p : Program) (l : Launch) (e : Env) (s : State) (m : MethodId) (args : Array Value) (below : List Frame) (meth : Method) (c : Code) (A : Nat → Prop) (D : va_G) (cI cJ cZ cQ : ClassId) (a_t a_t_a a_t_b a_t_c : Nat) (t_count : Int32) (t_meetX : Int32) (t_meetY : Int32) (t_meetD : Int32) (res : R_X1_has) (k : Int32 → Option R_X1_has) : Prop := ∀ (x1 : Int32), k x1 = some res → ∀ (H : Heap) (locs : List Loc), va_P D vwCl (w_X1_has cI cJ cZ cQ a_t a_t_a a_t_b a_t_c t_count t_meetX t_meetY t_meetD) H → va_D A (w_X1_has cI cJ cZ cQ a_t a_t_a a_t_b a_t_c t_count t_meetX t_meetY t_meetD) → va_S A s.heap H locs → ∀ ls : Array Slot, lv_has ls 2 [(0, .ref a_t), (1, .int x1)] → W p l e (headSpec wsX1_has rm_X1_has).room s m args below meth c H locs 0 0 (MQ below (qI D (tys4 cI cJ cZ cQ) (w_X1_has cI cJ cZ cQ a_t a_t_a a_t_b a_t_c t_count t_meetX t_meetY t_meetD) A res) args s 0 0 A) (F0 m 0 ls [])
set_option maxHeartbeats 4000000 in
set_option maxRecDepth 100000 in
theorem t_X1_has_0 {p : Program} {l : Launch} {e : Env} {s : State} {m : MethodId} {args : Array Value} {below : List Frame} {meth : Method} {c : Code} {A : Nat → Prop} {D : va_G} {cI cJ cZ cQ : ClassId} {a_t a_t_a a_t_b a_t_c : Nat} {t_count : Int32} {t_meetX : Int32} {t_meetY : Int32} {t_meetD : Int32} {res : R_X1_has}   (hC : mcx RX1 cX1_has (some .boolean) 2 wsX1_has p s m args meth c A D (tys4 cI cJ cZ cQ))   : S_X1_has_0 p l e s m args below meth c A D cI cJ cZ cQ a_t a_t_a a_t_b a_t_c t_count t_meetX t_meetY t_meetD res (f_X1_has_0  t_count) := by
  intro x1 hf H locs hP hD hS ls hl
  obtain ⟨hx, hb, hr, hml, hown, hts, hlocks, hA, hK, hN⟩ := id hC
  unfold f_X1_has_0 at hf
  refine lv_iload_n hx hb dX1_has_0 rfl (lv_at hl 1 rfl) ?_
  refine lv_if_lt (tgt := 16) hx hb dX1_has_1 (by decide) (fun c1 => ?_) (fun c1 => ?_)
  · replace hf := brT c1 hf
    refine lv_iconst (v := (0 : Int32)) hx hb dX1_has_16 (by decide) ?_
    obtain rfl := Option.some.inj hf
    exact endI (ty := .boolean) hC rfl rfl hP hD hS dX1_has_17
  · replace hf := brF c1 hf
    refine lv_iload_n hx hb dX1_has_4 rfl (lv_at hl 1 rfl) ?_
    refine lv_aload_n hx hb dX1_has_5 rfl (lv_at hl 0 rfl) ?_
    refine va_get (D := D) (ci := 1) (v := .int t_count) (C := RX1) (T := TX1) (N := 7) hx hb hts iw_X1_has_1 hown hK hP 0 rfl rfl 3 (by decide) (hts (.fieldLink RX1 21 "PowerDiagram$HalfPlanes" "count" "I") (List.mem_of_getElem? (i := 1) rfl)) (fun _ h9 => h9) rfl dX1_has_6 ?_
    refine lv_icmp_ge (tgt := 16) hx hb dX1_has_9 (by decide) (fun c2 => ?_) (fun c2 => ?_)
    · replace hf := brT c2 hf
      refine lv_iconst (v := (0 : Int32)) hx hb dX1_has_16 (by decide) ?_
      obtain rfl := Option.some.inj hf
      exact endI (ty := .boolean) hC rfl rfl hP hD hS dX1_has_17
    · replace hf := brF c2 hf
      refine lv_iconst (v := (1 : Int32)) hx hb dX1_has_12 (by decide) ?_
      refine lv_goto (tgt := 17) hx hb dX1_has_13 (by decide) ?_
      obtain rfl := Option.some.inj hf
      exact endI (ty := .boolean) hC rfl rfl hP hD hS dX1_has_17
theorem c_X1_has (l : Launch) (D : va_G) (cI cJ cZ cQ : ClassId) (a_t a_t_a a_t_b a_t_c : Nat) (t_count : Int32) (t_meetX : Int32) (t_meetY : Int32) (t_meetD : Int32) (p0 : Int32)  (res : R_X1_has)  (hf : f_X1_has_0 t_count p0 = some res) : MetI l D (tys4 cI cJ cZ cQ) yX1_has wsX1_has rm_X1_has [.ref a_t, .int p0] (w_X1_has cI cJ cZ cQ a_t a_t_a a_t_b a_t_c t_count t_meetX t_meetY t_meetD) (w_X1_has cI cJ cZ cQ a_t a_t_a a_t_b a_t_c t_count t_meetX t_meetY t_meetD) res := by
  intro sz
  exact metW (own := RX1) (cc := cX1_has) (nL := 2) (ret := (some .boolean)) (Qc := fun A => qI D (tys4 cI cJ cZ cQ) (w_X1_has cI cJ cZ cQ a_t a_t_a a_t_b a_t_c t_count t_meetX t_meetY t_meetD) A res) (by decide) rfl rfl (Nat.le_of_ble_eq_true rfl) (fun p e s m args below meth c A hC hP hD hS ls hl => t_X1_has_0 hC  p0 hf _ _ hP hD hS _ (lv_sub hl [0, 1] rfl)) sz
theorem e_X1_has : yX1_has.cls = RX1 ∧ yX1_has.cls ≠ "java/lang/invoke/MethodHandle" ∧ yX1_has.cls ≠ "java/lang/invoke/VarHandle" ∧ (parseMethodDescriptor yX1_has.desc).map (fun d => d.parameters.length) = some 1 := by decide +kernel
/-! X1_meet -/
theorem iw_X1_meet_1 : ∀ w ∈ wsX10, w ∈ wsX1_meet := fun _ h => List.mem_cons_of_mem _ (List.mem_append_right _ h)
def w_X1_meet (cI cJ cZ cQ : ClassId) (a_t a_t_a a_t_b a_t_c : Nat) (t_count : Int32) (t_meetX : Int32) (t_meetY : Int32) (t_meetD : Int32) (t_a : Nat → Int32) (t_b : Nat → Int32) (t_c : Nat → Int32) : va_W := [(a_t, .inr (1, [.ref a_t_a, .ref a_t_b, .ref a_t_c, .int t_count, .int t_meetX, .int t_meetY, .int t_meetD])), (a_t_a, .inl (cI, 14, .inl t_a)), (a_t_b, .inl (cI, 14, .inl t_b)), (a_t_c, .inl (cI, 14, .inl t_c))]
abbrev rm_X1_meet : Room := { frames := 1, cells := 0, slots := 0, locals := 21 }
def S_X1_meet_61 (p : Program) (l : Launch) (e : Env) (s : State) (m : MethodId) (args : Array Value) (below : List Frame) (meth : Method) (c : Code) (A : Nat → Prop) (D : va_G) (cI cJ cZ cQ : ClassId) (a_t a_t_a a_t_b a_t_c : Nat) (t_count : Int32) (t_a : Nat → Int32) (t_b : Nat → Int32) (t_c : Nat → Int32) (res : R_X1_meet) (k : Int32 → Int32 → Int32 → Int32 → Int32 → Int32 → Int32 → Option R_X1_meet) : Prop := ∀ (t_meetX : Int32) (t_meetY : Int32) (t_meetD : Int32) (x1 : Int32) (x2 : Int32) (x3 : Int32) (y0 : Int32), k t_meetX t_meetY t_meetD x1 x2 x3 y0 = some res → ∀ (H : Heap) (locs : List Loc), va_P D vwCl (w_X1_meet cI cJ cZ cQ a_t a_t_a a_t_b a_t_c t_count t_meetX t_meetY t_meetD t_a t_b t_c) H → va_D A (w_X1_meet cI cJ cZ cQ a_t a_t_a a_t_b a_t_c t_count t_meetX t_meetY t_meetD t_a t_b t_c) → va_S A s.heap H locs → ∀ ls : Array Slot, lv_has ls 5 [(0, .ref a_t), (1, .int x1), (2, .int x2), (3, .int x3)] → W p l e (headSpec wsX1_meet rm_X1_meet).room s m args below meth c H locs 0 0 (MQ below (qI D (tys4 cI cJ cZ cQ) (w_X1_meet cI cJ cZ cQ a_t a_t_a a_t_b a_t_c t_count res.2.1 res.2.2.1 res.2.2.2 t_a t_b t_c) A res.1) args s 0 0 A) (F0 m 61 ls [.int y0])
def S_X1_meet_0 (p : Program) (l : Launch) (e : Env) (s : State) (m : MethodId) (args : Array Value) (below : List Frame) (meth : Method) (c : Code) (A : Nat → Prop) (D : va_G) (cI cJ cZ cQ : ClassId) (a_t a_t_a a_t_b a_t_c : Nat) (t_count : Int32) (t_a : Nat → Int32) (t_b : Nat → Int32) (t_c : Nat → Int32) (res : R_X1_meet) (k : Int32 → Int32 → Int32 → Int32 → Int32 → Option R_X1_meet) : Prop := ∀ (t_meetX : Int32) (t_meetY : Int32) (t_meetD : Int32) (x1 : Int32) (x2 : Int32), k t_meetX t_meetY t_meetD x1 x2 = some res → ∀ (H : Heap) (locs : List Loc), va_P D vwCl (w_X1_meet cI cJ cZ cQ a_t a_t_a a_t_b a_t_c t_count t_meetX t_meetY t_meetD t_a t_b t_c) H → va_D A (w_X1_meet cI cJ cZ cQ a_t a_t_a a_t_b a_t_c t_count t_meetX t_meetY t_meetD t_a t_b t_c) → va_S A s.heap H locs → ∀ ls : Array Slot, lv_has ls 5 [(0, .ref a_t), (1, .int x1), (2, .int x2)] → W p l e (headSpec wsX1_meet rm_X1_meet).room s m args below meth c H locs 0 0 (MQ below (qI D (tys4 cI cJ cZ cQ) (w_X1_meet cI cJ cZ cQ a_t a_t_a a_t_b a_t_c t_count res.2.1 res.2.2.1 res.2.2.2 t_a t_b t_c) A res.1) args s 0 0 A) (F0 m 0 ls [])
set_option maxHeartbeats 4000000 in
set_option maxRecDepth 100000 in
theorem t_X1_meet_61 {p : Program} {l : Launch} {e : Env} {s : State} {m : MethodId} {args : Array Value} {below : List Frame} {meth : Method} {c : Code} {A : Nat → Prop} {D : va_G} {cI cJ cZ cQ : ClassId} {a_t a_t_a a_t_b a_t_c : Nat} {t_count : Int32} {t_a : Nat → Int32} {t_b : Nat → Int32} {t_c : Nat → Int32} {res : R_X1_meet}   (hC : mcx RX1 cX1_meet (some .boolean) 5 wsX1_meet p s m args meth c A D (tys4 cI cJ cZ cQ))   : S_X1_meet_61 p l e s m args below meth c A D cI cJ cZ cQ a_t a_t_a a_t_b a_t_c t_count t_a t_b t_c res (f_X1_meet_61  t_count t_a t_b t_c) := by
  intro t_meetX t_meetY t_meetD x1 x2 x3 y0 hf H locs hP hD hS ls hl
  obtain ⟨hx, hb, hr, hml, hown, hts, hlocks, hA, hK, hN⟩ := id hC
  unfold f_X1_meet_61 at hf
  refine lv_istore (lv' := [(4, .int y0), (0, .ref a_t), (1, .int x1), (2, .int x2), (3, .int x3)]) hx hb dX1_meet_61 hl (by decide) rfl (fun ls hl => ?_)
  refine lv_aload_n hx hb dX1_meet_63 rfl (lv_at hl 1 rfl) ?_
  refine lv_iload hx hb dX1_meet_64 (lv_at hl 0 rfl) ?_
  refine lv_aload_n hx hb dX1_meet_66 rfl (lv_at hl 1 rfl) ?_
  refine va_get (D := D) (ci := 1) (v := .ref a_t_c) (C := RX1) (T := TX1) (N := 7) hx hb hts iw_X1_meet_1 hown hK hP 0 rfl rfl 2 (by decide) (hts (.fieldLink RX1 18 "PowerDiagram$HalfPlanes" "c" "[I") (List.mem_of_getElem? (i := 3) rfl)) (fun _ h9 => h9) rfl dX1_meet_67 ?_
  refine lv_iload_n hx hb dX1_meet_70 rfl (lv_at hl 2 rfl) ?_
  obtain ⟨h1, hf⟩ := gIx_of hf
  refine va_iald hx hb hK hP 3 0 rfl rfl h1 dX1_meet_71 ?_
  refine lv_aload_n hx hb dX1_meet_72 rfl (lv_at hl 1 rfl) ?_
  refine va_get (D := D) (ci := 1) (v := .ref a_t_b) (C := RX1) (T := TX1) (N := 7) hx hb hts iw_X1_meet_1 hown hK hP 0 rfl rfl 1 (by decide) (hts (.fieldLink RX1 15 "PowerDiagram$HalfPlanes" "b" "[I") (List.mem_of_getElem? (i := 2) rfl)) (fun _ h9 => h9) rfl dX1_meet_73 ?_
  refine lv_iload_n hx hb dX1_meet_76 rfl (lv_at hl 3 rfl) ?_
  obtain ⟨h2, hf⟩ := gIx_of hf
  refine va_iald hx hb hK hP 2 0 rfl rfl h2 dX1_meet_77 ?_
  refine lv_imul hx hb dX1_meet_78 ?_
  refine lv_aload_n hx hb dX1_meet_79 rfl (lv_at hl 1 rfl) ?_
  refine va_get (D := D) (ci := 1) (v := .ref a_t_c) (C := RX1) (T := TX1) (N := 7) hx hb hts iw_X1_meet_1 hown hK hP 0 rfl rfl 2 (by decide) (hts (.fieldLink RX1 18 "PowerDiagram$HalfPlanes" "c" "[I") (List.mem_of_getElem? (i := 3) rfl)) (fun _ h9 => h9) rfl dX1_meet_80 ?_
  refine lv_iload_n hx hb dX1_meet_83 rfl (lv_at hl 3 rfl) ?_
  refine va_iald hx hb hK hP 3 0 rfl rfl h2 dX1_meet_84 ?_
  refine lv_aload_n hx hb dX1_meet_85 rfl (lv_at hl 1 rfl) ?_
  refine va_get (D := D) (ci := 1) (v := .ref a_t_b) (C := RX1) (T := TX1) (N := 7) hx hb hts iw_X1_meet_1 hown hK hP 0 rfl rfl 1 (by decide) (hts (.fieldLink RX1 15 "PowerDiagram$HalfPlanes" "b" "[I") (List.mem_of_getElem? (i := 2) rfl)) (fun _ h9 => h9) rfl dX1_meet_86 ?_
  refine lv_iload_n hx hb dX1_meet_89 rfl (lv_at hl 2 rfl) ?_
  refine va_iald hx hb hK hP 2 0 rfl rfl h1 dX1_meet_90 ?_
  refine lv_imul hx hb dX1_meet_91 ?_
  refine lv_isub hx hb dX1_meet_92 ?_
  refine lv_imul hx hb dX1_meet_93 ?_
  refine lv_topi (fun v3 ev3 => ?_)
  replace hf := nm_of ev3 hf
  refine wrF (D := D) (ci := 1) (v := .int v3) (ty := .int) (C := RX1) (T := TX1) (N := 7) (WB := (w_X1_meet cI cJ cZ cQ a_t a_t_a a_t_b a_t_c t_count v3 t_meetY t_meetD t_a t_b t_c)) hx hb hts iw_X1_meet_1 tyX1 tyX1_ok nmX1 hown hK hP hD hS 0 rfl rfl 4 (by decide) (hts (.fieldLink RX1 25 "PowerDiagram$HalfPlanes" "meetX" "I") (List.mem_of_getElem? (i := 4) rfl)) (fun _ h9 => h9) rfl rfl rfl rfl (Nat.le_of_ble_eq_true rfl) dX1_meet_94 rfl (fun H locs hP hD hS => ?_)
  refine lv_aload_n hx hb dX1_meet_97 rfl (lv_at hl 1 rfl) ?_
  refine lv_iload hx hb dX1_meet_98 (lv_at hl 0 rfl) ?_
  refine lv_aload_n hx hb dX1_meet_100 rfl (lv_at hl 1 rfl) ?_
  refine va_get (D := D) (ci := 1) (v := .ref a_t_a) (C := RX1) (T := TX1) (N := 7) hx hb hts iw_X1_meet_1 hown hK hP 0 rfl rfl 0 (by decide) (hts (.fieldLink RX1 11 "PowerDiagram$HalfPlanes" "a" "[I") (List.mem_of_getElem? (i := 1) rfl)) (fun _ h9 => h9) rfl dX1_meet_101 ?_
  refine lv_iload_n hx hb dX1_meet_104 rfl (lv_at hl 2 rfl) ?_
  refine va_iald hx hb hK hP 1 0 rfl rfl h1 dX1_meet_105 ?_
  refine lv_aload_n hx hb dX1_meet_106 rfl (lv_at hl 1 rfl) ?_
  refine va_get (D := D) (ci := 1) (v := .ref a_t_c) (C := RX1) (T := TX1) (N := 7) hx hb hts iw_X1_meet_1 hown hK hP 0 rfl rfl 2 (by decide) (hts (.fieldLink RX1 18 "PowerDiagram$HalfPlanes" "c" "[I") (List.mem_of_getElem? (i := 3) rfl)) (fun _ h9 => h9) rfl dX1_meet_107 ?_
  refine lv_iload_n hx hb dX1_meet_110 rfl (lv_at hl 3 rfl) ?_
  refine va_iald hx hb hK hP 3 0 rfl rfl h2 dX1_meet_111 ?_
  refine lv_imul hx hb dX1_meet_112 ?_
  refine lv_aload_n hx hb dX1_meet_113 rfl (lv_at hl 1 rfl) ?_
  refine va_get (D := D) (ci := 1) (v := .ref a_t_a) (C := RX1) (T := TX1) (N := 7) hx hb hts iw_X1_meet_1 hown hK hP 0 rfl rfl 0 (by decide) (hts (.fieldLink RX1 11 "PowerDiagram$HalfPlanes" "a" "[I") (List.mem_of_getElem? (i := 1) rfl)) (fun _ h9 => h9) rfl dX1_meet_114 ?_
  refine lv_iload_n hx hb dX1_meet_117 rfl (lv_at hl 3 rfl) ?_
  refine va_iald hx hb hK hP 1 0 rfl rfl h2 dX1_meet_118 ?_
  refine lv_aload_n hx hb dX1_meet_119 rfl (lv_at hl 1 rfl) ?_
  refine va_get (D := D) (ci := 1) (v := .ref a_t_c) (C := RX1) (T := TX1) (N := 7) hx hb hts iw_X1_meet_1 hown hK hP 0 rfl rfl 2 (by decide) (hts (.fieldLink RX1 18 "PowerDiagram$HalfPlanes" "c" "[I") (List.mem_of_getElem? (i := 3) rfl)) (fun _ h9 => h9) rfl dX1_meet_120 ?_
  refine lv_iload_n hx hb dX1_meet_123 rfl (lv_at hl 2 rfl) ?_
  refine va_iald hx hb hK hP 3 0 rfl rfl h1 dX1_meet_124 ?_
  refine lv_imul hx hb dX1_meet_125 ?_
  refine lv_isub hx hb dX1_meet_126 ?_
  refine lv_imul hx hb dX1_meet_127 ?_
  refine lv_topi (fun v4 ev4 => ?_)
  replace hf := nm_of ev4 hf
  refine wrF (D := D) (ci := 1) (v := .int v4) (ty := .int) (C := RX1) (T := TX1) (N := 7) (WB := (w_X1_meet cI cJ cZ cQ a_t a_t_a a_t_b a_t_c t_count v3 v4 t_meetD t_a t_b t_c)) hx hb hts iw_X1_meet_1 tyX1 tyX1_ok nmX1 hown hK hP hD hS 0 rfl rfl 5 (by decide) (hts (.fieldLink RX1 28 "PowerDiagram$HalfPlanes" "meetY" "I") (List.mem_of_getElem? (i := 5) rfl)) (fun _ h9 => h9) rfl rfl rfl rfl (Nat.le_of_ble_eq_true rfl) dX1_meet_128 rfl (fun H locs hP hD hS => ?_)
  refine lv_aload_n hx hb dX1_meet_131 rfl (lv_at hl 1 rfl) ?_
  refine lv_iload hx hb dX1_meet_132 (lv_at hl 0 rfl) ?_
  refine lv_iload_n hx hb dX1_meet_134 rfl (lv_at hl 4 rfl) ?_
  refine lv_imul hx hb dX1_meet_135 ?_
  refine lv_topi (fun v5 ev5 => ?_)
  replace hf := nm_of ev5 hf
  refine wrF (D := D) (ci := 1) (v := .int v5) (ty := .int) (C := RX1) (T := TX1) (N := 7) (WB := (w_X1_meet cI cJ cZ cQ a_t a_t_a a_t_b a_t_c t_count v3 v4 v5 t_a t_b t_c)) hx hb hts iw_X1_meet_1 tyX1 tyX1_ok nmX1 hown hK hP hD hS 0 rfl rfl 6 (by decide) (hts (.fieldLink RX1 31 "PowerDiagram$HalfPlanes" "meetD" "I") (List.mem_of_getElem? (i := 6) rfl)) (fun _ h9 => h9) rfl rfl rfl rfl (Nat.le_of_ble_eq_true rfl) dX1_meet_136 rfl (fun H locs hP hD hS => ?_)
  refine lv_iconst (v := (1 : Int32)) hx hb dX1_meet_139 (by decide) ?_
  obtain rfl := Option.some.inj hf
  exact endI (ty := .boolean) hC rfl rfl hP hD hS dX1_meet_140
set_option maxHeartbeats 4000000 in
set_option maxRecDepth 100000 in
theorem t_X1_meet_0 {p : Program} {l : Launch} {e : Env} {s : State} {m : MethodId} {args : Array Value} {below : List Frame} {meth : Method} {c : Code} {A : Nat → Prop} {D : va_G} {cI cJ cZ cQ : ClassId} {a_t a_t_a a_t_b a_t_c : Nat} {t_count : Int32} {t_a : Nat → Int32} {t_b : Nat → Int32} {t_c : Nat → Int32} {res : R_X1_meet}   (hC : mcx RX1 cX1_meet (some .boolean) 5 wsX1_meet p s m args meth c A D (tys4 cI cJ cZ cQ))   : S_X1_meet_0 p l e s m args below meth c A D cI cJ cZ cQ a_t a_t_a a_t_b a_t_c t_count t_a t_b t_c res (f_X1_meet_0  t_count t_a t_b t_c) := by
  intro t_meetX t_meetY t_meetD x1 x2 hf H locs hP hD hS ls hl
  obtain ⟨hx, hb, hr, hml, hown, hts, hlocks, hA, hK, hN⟩ := id hC
  unfold f_X1_meet_0 at hf
  refine lv_aload_n hx hb dX1_meet_0 rfl (lv_at hl 0 rfl) ?_
  refine lv_iload_n hx hb dX1_meet_1 rfl (lv_at hl 1 rfl) ?_
  obtain ⟨r1, hq2, hf⟩ := bnd_of hf
  refine jnI (WB := (w_X1_meet cI cJ cZ cQ a_t a_t_a a_t_b a_t_c t_count t_meetX t_meetY t_meetD t_a t_b t_c)) (rnV (As := [.int x1]) (rest := []) (ci := 1) (q0 := 0) (W0 := (w_X1_has cI cJ cZ cQ a_t a_t_a a_t_b a_t_c t_count t_meetX t_meetY t_meetD)) hx hb hml hown hts hK hN (c_X1_has l D cI cJ cZ cQ a_t a_t_a a_t_b a_t_c t_count t_meetX t_meetY t_meetD x1 r1 hq2 H.size) (cwV 1 hts gX1_meet_X1_has rfl rfl rfl e_X1_has ⟨Nat.le_of_ble_eq_true rfl, Nat.le_of_ble_eq_true rfl⟩) hP hD [0] rfl (by decide) rfl rfl rfl rfl hl (Nat.le_of_ble_eq_true rfl) dX1_meet_2 ⟨Nat.zero_le _, Nat.zero_le _⟩ rfl) hP hD hS hA [0] [1, 2, 3] [3, 0, 1, 2] rfl rfl (by decide) (by decide) rfl (by decide) (fun H locs hP hD hS => ?_)
  refine lv_if_eq (tgt := 16) hx hb dX1_meet_5 (by decide) (fun c3 => ?_) (fun c3 => ?_)
  · replace hf := brT c3 hf
    refine lv_iconst (v := (0 : Int32)) hx hb dX1_meet_16 (by decide) ?_
    obtain rfl := Option.some.inj hf
    exact endI (ty := .boolean) hC rfl rfl hP hD hS dX1_meet_17
  · replace hf := brF c3 hf
    refine lv_aload_n hx hb dX1_meet_8 rfl (lv_at hl 0 rfl) ?_
    refine lv_iload_n hx hb dX1_meet_9 rfl (lv_at hl 2 rfl) ?_
    obtain ⟨r4, hq5, hf⟩ := bnd_of hf
    refine jnI (WB := (w_X1_meet cI cJ cZ cQ a_t a_t_a a_t_b a_t_c t_count t_meetX t_meetY t_meetD t_a t_b t_c)) (rnV (As := [.int x2]) (rest := []) (ci := 1) (q0 := 0) (W0 := (w_X1_has cI cJ cZ cQ a_t a_t_a a_t_b a_t_c t_count t_meetX t_meetY t_meetD)) hx hb hml hown hts hK hN (c_X1_has l D cI cJ cZ cQ a_t a_t_a a_t_b a_t_c t_count t_meetX t_meetY t_meetD x2 r4 hq5 H.size) (cwV 1 hts gX1_meet_X1_has rfl rfl rfl e_X1_has ⟨Nat.le_of_ble_eq_true rfl, Nat.le_of_ble_eq_true rfl⟩) hP hD [0] rfl (by decide) rfl rfl rfl rfl hl (Nat.le_of_ble_eq_true rfl) dX1_meet_10 ⟨Nat.zero_le _, Nat.zero_le _⟩ rfl) hP hD hS hA [0] [1, 2, 3] [3, 0, 1, 2] rfl rfl (by decide) (by decide) rfl (by decide) (fun H locs hP hD hS => ?_)
    refine lv_if_ne (tgt := 18) hx hb dX1_meet_13 (by decide) (fun c6 => ?_) (fun c6 => ?_)
    · replace hf := brF c6 hf
      refine lv_aload_n hx hb dX1_meet_18 rfl (lv_at hl 0 rfl) ?_
      refine va_get (D := D) (ci := 1) (v := .ref a_t_a) (C := RX1) (T := TX1) (N := 7) hx hb hts iw_X1_meet_1 hown hK hP 0 rfl rfl 0 (by decide) (hts (.fieldLink RX1 11 "PowerDiagram$HalfPlanes" "a" "[I") (List.mem_of_getElem? (i := 1) rfl)) (fun _ h9 => h9) rfl dX1_meet_19 ?_
      refine lv_iload_n hx hb dX1_meet_22 rfl (lv_at hl 1 rfl) ?_
      obtain ⟨h7, hf⟩ := gIx_of hf
      refine va_iald hx hb hK hP 1 0 rfl rfl h7 dX1_meet_23 ?_
      refine lv_aload_n hx hb dX1_meet_24 rfl (lv_at hl 0 rfl) ?_
      refine va_get (D := D) (ci := 1) (v := .ref a_t_b) (C := RX1) (T := TX1) (N := 7) hx hb hts iw_X1_meet_1 hown hK hP 0 rfl rfl 1 (by decide) (hts (.fieldLink RX1 15 "PowerDiagram$HalfPlanes" "b" "[I") (List.mem_of_getElem? (i := 2) rfl)) (fun _ h9 => h9) rfl dX1_meet_25 ?_
      refine lv_iload_n hx hb dX1_meet_28 rfl (lv_at hl 2 rfl) ?_
      obtain ⟨h8, hf⟩ := gIx_of hf
      refine va_iald hx hb hK hP 2 0 rfl rfl h8 dX1_meet_29 ?_
      refine lv_imul hx hb dX1_meet_30 ?_
      refine lv_aload_n hx hb dX1_meet_31 rfl (lv_at hl 0 rfl) ?_
      refine va_get (D := D) (ci := 1) (v := .ref a_t_a) (C := RX1) (T := TX1) (N := 7) hx hb hts iw_X1_meet_1 hown hK hP 0 rfl rfl 0 (by decide) (hts (.fieldLink RX1 11 "PowerDiagram$HalfPlanes" "a" "[I") (List.mem_of_getElem? (i := 1) rfl)) (fun _ h9 => h9) rfl dX1_meet_32 ?_
      refine lv_iload_n hx hb dX1_meet_35 rfl (lv_at hl 2 rfl) ?_
      refine va_iald hx hb hK hP 1 0 rfl rfl h8 dX1_meet_36 ?_
      refine lv_aload_n hx hb dX1_meet_37 rfl (lv_at hl 0 rfl) ?_
      refine va_get (D := D) (ci := 1) (v := .ref a_t_b) (C := RX1) (T := TX1) (N := 7) hx hb hts iw_X1_meet_1 hown hK hP 0 rfl rfl 1 (by decide) (hts (.fieldLink RX1 15 "PowerDiagram$HalfPlanes" "b" "[I") (List.mem_of_getElem? (i := 2) rfl)) (fun _ h9 => h9) rfl dX1_meet_38 ?_
      refine lv_iload_n hx hb dX1_meet_41 rfl (lv_at hl 1 rfl) ?_
      refine va_iald hx hb hK hP 2 0 rfl rfl h7 dX1_meet_42 ?_
      refine lv_imul hx hb dX1_meet_43 ?_
      refine lv_isub hx hb dX1_meet_44 ?_
      refine lv_topi (fun v9 ev9 => ?_)
      replace hf := nm_of ev9 hf
      refine lv_istore_n (lv' := [(3, .int v9), (0, .ref a_t), (1, .int x1), (2, .int x2)]) hx hb dX1_meet_45 rfl hl (by decide) rfl (fun ls hl => ?_)
      refine lv_iload_n hx hb dX1_meet_46 rfl (lv_at hl 0 rfl) ?_
      refine lv_if_ne (tgt := 52) hx hb dX1_meet_47 (by decide) (fun c10 => ?_) (fun c10 => ?_)
      · replace hf := brF c10 hf
        refine lv_iload_n hx hb dX1_meet_52 rfl (lv_at hl 0 rfl) ?_
        refine lv_if_le (tgt := 60) hx hb dX1_meet_53 (by decide) (fun c11 => ?_) (fun c11 => ?_)
        · replace hf := brT c11 hf
          refine lv_iconst (v := (-1 : Int32)) hx hb dX1_meet_60 (by decide) ?_
          exact (t_X1_meet_61 hC  ) t_meetX t_meetY t_meetD x1 x2 v9 (-1 : Int32) hf _ _ hP hD hS _ (lv_sub hl [1, 2, 3, 0] rfl)
        · replace hf := brF c11 hf
          refine lv_iconst (v := (1 : Int32)) hx hb dX1_meet_56 (by decide) ?_
          refine lv_goto (tgt := 61) hx hb dX1_meet_57 (by decide) ?_
          exact (t_X1_meet_61 hC  ) t_meetX t_meetY t_meetD x1 x2 v9 (1 : Int32) hf _ _ hP hD hS _ (lv_sub hl [1, 2, 3, 0] rfl)
      · replace hf := brT c10 hf
        refine lv_iconst (v := (0 : Int32)) hx hb dX1_meet_50 (by decide) ?_
        obtain rfl := Option.some.inj hf
        exact endI (ty := .boolean) hC rfl rfl hP hD hS dX1_meet_51
    · replace hf := brT c6 hf
      refine lv_iconst (v := (0 : Int32)) hx hb dX1_meet_16 (by decide) ?_
      obtain rfl := Option.some.inj hf
      exact endI (ty := .boolean) hC rfl rfl hP hD hS dX1_meet_17
theorem c_X1_meet (l : Launch) (D : va_G) (cI cJ cZ cQ : ClassId) (a_t a_t_a a_t_b a_t_c : Nat) (t_count : Int32) (t_meetX : Int32) (t_meetY : Int32) (t_meetD : Int32) (t_a : Nat → Int32) (t_b : Nat → Int32) (t_c : Nat → Int32) (p0 : Int32) (p1 : Int32)  (res : R_X1_meet)  (hf : f_X1_meet_0 t_count t_a t_b t_c t_meetX t_meetY t_meetD p0 p1 = some res) : MetI l D (tys4 cI cJ cZ cQ) yX1_meet wsX1_meet rm_X1_meet [.ref a_t, .int p0, .int p1] (w_X1_meet cI cJ cZ cQ a_t a_t_a a_t_b a_t_c t_count t_meetX t_meetY t_meetD t_a t_b t_c) (w_X1_meet cI cJ cZ cQ a_t a_t_a a_t_b a_t_c t_count res.2.1 res.2.2.1 res.2.2.2 t_a t_b t_c) res.1 := by
  intro sz
  exact metW (own := RX1) (cc := cX1_meet) (nL := 5) (ret := (some .boolean)) (Qc := fun A => qI D (tys4 cI cJ cZ cQ) (w_X1_meet cI cJ cZ cQ a_t a_t_a a_t_b a_t_c t_count res.2.1 res.2.2.1 res.2.2.2 t_a t_b t_c) A res.1) (by decide) rfl rfl (Nat.le_of_ble_eq_true rfl) (fun p e s m args below meth c A hC hP hD hS ls hl => t_X1_meet_0 hC  t_meetX t_meetY t_meetD p0 p1 hf _ _ hP hD hS _ (lv_sub hl [0, 1, 2] rfl)) sz
theorem e_X1_meet : yX1_meet.cls = RX1 ∧ yX1_meet.cls ≠ "java/lang/invoke/MethodHandle" ∧ yX1_meet.cls ≠ "java/lang/invoke/VarHandle" ∧ (parseMethodDescriptor yX1_meet.desc).map (fun d => d.parameters.length) = some 2 := by decide +kernel
/-! X1_meetingIsBeyond -/
theorem iw_X1_meetingIsBeyond_1 : ∀ w ∈ wsX10, w ∈ wsX1_meetingIsBeyond := fun _ h => List.mem_cons_of_mem _ (List.mem_append_right _ h)
def w_X1_meetingIsBeyond (cI cJ cZ cQ : ClassId) (a_t a_t_a a_t_b a_t_c : Nat) (t_count : Int32) (t_meetX : Int32) (t_meetY : Int32) (t_meetD : Int32) : va_W := [(a_t, .inr (1, [.ref a_t_a, .ref a_t_b, .ref a_t_c, .int t_count, .int t_meetX, .int t_meetY, .int t_meetD]))]
abbrev rm_X1_meetingIsBeyond : Room := { frames := 0, cells := 0, slots := 0, locals := 0 }
def S_X1_meetingIsBeyond_0 (p : Program) (l : Launch) (e : Env) (s : State) (m : MethodId) (args : Array Value) (below : List Frame) (meth : Method) (c : Code) (A : Nat → Prop) (D : va_G) (cI cJ cZ cQ : ClassId) (a_t a_t_a a_t_b a_t_c : Nat) (t_count : Int32) (t_meetX : Int32) (t_meetY : Int32) (t_meetD : Int32) (res : R_X1_meetingIsBeyond) (k : Int32 → Int32 → Int32 → Option R_X1_meetingIsBeyond) : Prop := ∀ (x1 : Int32) (x2 : Int32) (x3 : Int32), k x1 x2 x3 = some res → ∀ (H : Heap) (locs : List Loc), va_P D vwCl (w_X1_meetingIsBeyond cI cJ cZ cQ a_t a_t_a a_t_b a_t_c t_count t_meetX t_meetY t_meetD) H → va_D A (w_X1_meetingIsBeyond cI cJ cZ cQ a_t a_t_a a_t_b a_t_c t_count t_meetX t_meetY t_meetD) → va_S A s.heap H locs → ∀ ls : Array Slot, lv_has ls 4 [(0, .ref a_t), (1, .int x1), (2, .int x2), (3, .int x3)] → W p l e (headSpec wsX1_meetingIsBeyond rm_X1_meetingIsBeyond).room s m args below meth c H locs 0 0 (MQ below (qI D (tys4 cI cJ cZ cQ) (w_X1_meetingIsBeyond cI cJ cZ cQ a_t a_t_a a_t_b a_t_c t_count t_meetX t_meetY t_meetD) A res) args s 0 0 A) (F0 m 0 ls [])
set_option maxHeartbeats 4000000 in
set_option maxRecDepth 100000 in
theorem t_X1_meetingIsBeyond_0 {p : Program} {l : Launch} {e : Env} {s : State} {m : MethodId} {args : Array Value} {below : List Frame} {meth : Method} {c : Code} {A : Nat → Prop} {D : va_G} {cI cJ cZ cQ : ClassId} {a_t a_t_a a_t_b a_t_c : Nat} {t_count : Int32} {t_meetX : Int32} {t_meetY : Int32} {t_meetD : Int32} {res : R_X1_meetingIsBeyond}   (hC : mcx RX1 cX1_meetingIsBeyond (some .boolean) 4 wsX1_meetingIsBeyond p s m args meth c A D (tys4 cI cJ cZ cQ))   : S_X1_meetingIsBeyond_0 p l e s m args below meth c A D cI cJ cZ cQ a_t a_t_a a_t_b a_t_c t_count t_meetX t_meetY t_meetD res (f_X1_meetingIsBeyond_0  t_meetX t_meetY t_meetD) := by
  intro x1 x2 x3 hf H locs hP hD hS ls hl
  obtain ⟨hx, hb, hr, hml, hown, hts, hlocks, hA, hK, hN⟩ := id hC
  unfold f_X1_meetingIsBeyond_0 at hf
  refine lv_iload_n hx hb dX1_meetingIsBeyond_0 rfl (lv_at hl 1 rfl) ?_
  refine lv_aload_n hx hb dX1_meetingIsBeyond_1 rfl (lv_at hl 0 rfl) ?_
  refine va_get (D := D) (ci := 1) (v := .int t_meetX) (C := RX1) (T := TX1) (N := 7) hx hb hts iw_X1_meetingIsBeyond_1 hown hK hP 0 rfl rfl 4 (by decide) (hts (.fieldLink RX1 25 "PowerDiagram$HalfPlanes" "meetX" "I") (List.mem_of_getElem? (i := 1) rfl)) (fun _ h9 => h9) rfl dX1_meetingIsBeyond_2 ?_
  refine lv_imul hx hb dX1_meetingIsBeyond_5 ?_
  refine lv_iload_n hx hb dX1_meetingIsBeyond_6 rfl (lv_at hl 2 rfl) ?_
  refine lv_aload_n hx hb dX1_meetingIsBeyond_7 rfl (lv_at hl 0 rfl) ?_
  refine va_get (D := D) (ci := 1) (v := .int t_meetY) (C := RX1) (T := TX1) (N := 7) hx hb hts iw_X1_meetingIsBeyond_1 hown hK hP 0 rfl rfl 5 (by decide) (hts (.fieldLink RX1 28 "PowerDiagram$HalfPlanes" "meetY" "I") (List.mem_of_getElem? (i := 2) rfl)) (fun _ h9 => h9) rfl dX1_meetingIsBeyond_8 ?_
  refine lv_imul hx hb dX1_meetingIsBeyond_11 ?_
  refine lv_iadd hx hb dX1_meetingIsBeyond_12 ?_
  refine lv_iload_n hx hb dX1_meetingIsBeyond_13 rfl (lv_at hl 3 rfl) ?_
  refine lv_aload_n hx hb dX1_meetingIsBeyond_14 rfl (lv_at hl 0 rfl) ?_
  refine va_get (D := D) (ci := 1) (v := .int t_meetD) (C := RX1) (T := TX1) (N := 7) hx hb hts iw_X1_meetingIsBeyond_1 hown hK hP 0 rfl rfl 6 (by decide) (hts (.fieldLink RX1 31 "PowerDiagram$HalfPlanes" "meetD" "I") (List.mem_of_getElem? (i := 3) rfl)) (fun _ h9 => h9) rfl dX1_meetingIsBeyond_15 ?_
  refine lv_imul hx hb dX1_meetingIsBeyond_18 ?_
  refine lv_icmp_le (tgt := 26) hx hb dX1_meetingIsBeyond_19 (by decide) (fun c1 => ?_) (fun c1 => ?_)
  · replace hf := brT c1 hf
    refine lv_iconst (v := (0 : Int32)) hx hb dX1_meetingIsBeyond_26 (by decide) ?_
    obtain rfl := Option.some.inj hf
    exact endI (ty := .boolean) hC rfl rfl hP hD hS dX1_meetingIsBeyond_27
  · replace hf := brF c1 hf
    refine lv_iconst (v := (1 : Int32)) hx hb dX1_meetingIsBeyond_22 (by decide) ?_
    refine lv_goto (tgt := 27) hx hb dX1_meetingIsBeyond_23 (by decide) ?_
    obtain rfl := Option.some.inj hf
    exact endI (ty := .boolean) hC rfl rfl hP hD hS dX1_meetingIsBeyond_27
theorem c_X1_meetingIsBeyond (l : Launch) (D : va_G) (cI cJ cZ cQ : ClassId) (a_t a_t_a a_t_b a_t_c : Nat) (t_count : Int32) (t_meetX : Int32) (t_meetY : Int32) (t_meetD : Int32) (p0 : Int32) (p1 : Int32) (p2 : Int32)  (res : R_X1_meetingIsBeyond)  (hf : f_X1_meetingIsBeyond_0 t_meetX t_meetY t_meetD p0 p1 p2 = some res) : MetI l D (tys4 cI cJ cZ cQ) yX1_meetingIsBeyond wsX1_meetingIsBeyond rm_X1_meetingIsBeyond [.ref a_t, .int p0, .int p1, .int p2] (w_X1_meetingIsBeyond cI cJ cZ cQ a_t a_t_a a_t_b a_t_c t_count t_meetX t_meetY t_meetD) (w_X1_meetingIsBeyond cI cJ cZ cQ a_t a_t_a a_t_b a_t_c t_count t_meetX t_meetY t_meetD) res := by
  intro sz
  exact metW (own := RX1) (cc := cX1_meetingIsBeyond) (nL := 4) (ret := (some .boolean)) (Qc := fun A => qI D (tys4 cI cJ cZ cQ) (w_X1_meetingIsBeyond cI cJ cZ cQ a_t a_t_a a_t_b a_t_c t_count t_meetX t_meetY t_meetD) A res) (by decide) rfl rfl (Nat.le_of_ble_eq_true rfl) (fun p e s m args below meth c A hC hP hD hS ls hl => t_X1_meetingIsBeyond_0 hC  p0 p1 p2 hf _ _ hP hD hS _ (lv_sub hl [0, 1, 2, 3] rfl)) sz
theorem e_X1_meetingIsBeyond : yX1_meetingIsBeyond.cls = RX1 ∧ yX1_meetingIsBeyond.cls ≠ "java/lang/invoke/MethodHandle" ∧ yX1_meetingIsBeyond.cls ≠ "java/lang/invoke/VarHandle" ∧ (parseMethodDescriptor yX1_meetingIsBeyond.desc).map (fun d => d.parameters.length) = some 3 := by decide +kernel
/-! X1_holdMeeting -/
theorem iw_X1_holdMeeting_1 : ∀ w ∈ wsX10, w ∈ wsX1_holdMeeting := fun _ h => List.mem_cons_of_mem _ (List.mem_append_right _ h)
def w_X1_holdMeeting (cI cJ cZ cQ : ClassId) (a_t a_t_a a_t_b a_t_c : Nat) (t_count : Int32) (t_meetX : Int32) (t_meetY : Int32) (t_meetD : Int32) (t_a : Nat → Int32) (t_b : Nat → Int32) (t_c : Nat → Int32) : va_W := [(a_t, .inr (1, [.ref a_t_a, .ref a_t_b, .ref a_t_c, .int t_count, .int t_meetX, .int t_meetY, .int t_meetD])), (a_t_a, .inl (cI, 14, .inl t_a)), (a_t_b, .inl (cI, 14, .inl t_b)), (a_t_c, .inl (cI, 14, .inl t_c))]
abbrev rm_X1_holdMeeting : Room := { frames := 1, cells := 0, slots := 0, locals := 23 }
def S_X1_holdMeeting_2 (p : Program) (l : Launch) (e : Env) (s : State) (m : MethodId) (args : Array Value) (below : List Frame) (meth : Method) (c : Code) (A : Nat → Prop) (D : va_G) (cI cJ cZ cQ : ClassId) (a_t a_t_a a_t_b a_t_c : Nat) (t_count : Int32) (t_meetX : Int32) (t_meetY : Int32) (t_meetD : Int32) (t_a : Nat → Int32) (t_b : Nat → Int32) (t_c : Nat → Int32) (res : R_X1_holdMeeting) (k : Int32 → Option R_X1_holdMeeting) : Prop := ∀ (x1 : Int32), k x1 = some res → ∀ (H : Heap) (locs : List Loc), va_P D vwCl (w_X1_holdMeeting cI cJ cZ cQ a_t a_t_a a_t_b a_t_c t_count t_meetX t_meetY t_meetD t_a t_b t_c) H → va_D A (w_X1_holdMeeting cI cJ cZ cQ a_t a_t_a a_t_b a_t_c t_count t_meetX t_meetY t_meetD t_a t_b t_c) → va_S A s.heap H locs → ∀ ls : Array Slot, lv_has ls 2 [(0, .ref a_t), (1, .int x1)] → W p l e (headSpec wsX1_holdMeeting rm_X1_holdMeeting).room s m args below meth c H locs 0 0 (MQ below (qI D (tys4 cI cJ cZ cQ) (w_X1_holdMeeting cI cJ cZ cQ a_t a_t_a a_t_b a_t_c t_count t_meetX t_meetY t_meetD t_a t_b t_c) A res) args s 0 0 A) (F0 m 2 ls [])
def S_X1_holdMeeting_0 (p : Program) (l : Launch) (e : Env) (s : State) (m : MethodId) (args : Array Value) (below : List Frame) (meth : Method) (c : Code) (A : Nat → Prop) (D : va_G) (cI cJ cZ cQ : ClassId) (a_t a_t_a a_t_b a_t_c : Nat) (t_count : Int32) (t_meetX : Int32) (t_meetY : Int32) (t_meetD : Int32) (t_a : Nat → Int32) (t_b : Nat → Int32) (t_c : Nat → Int32) (res : R_X1_holdMeeting) (k : Option R_X1_holdMeeting) : Prop := k  = some res → ∀ (H : Heap) (locs : List Loc), va_P D vwCl (w_X1_holdMeeting cI cJ cZ cQ a_t a_t_a a_t_b a_t_c t_count t_meetX t_meetY t_meetD t_a t_b t_c) H → va_D A (w_X1_holdMeeting cI cJ cZ cQ a_t a_t_a a_t_b a_t_c t_count t_meetX t_meetY t_meetD t_a t_b t_c) → va_S A s.heap H locs → ∀ ls : Array Slot, lv_has ls 2 [(0, .ref a_t)] → W p l e (headSpec wsX1_holdMeeting rm_X1_holdMeeting).room s m args below meth c H locs 0 0 (MQ below (qI D (tys4 cI cJ cZ cQ) (w_X1_holdMeeting cI cJ cZ cQ a_t a_t_a a_t_b a_t_c t_count t_meetX t_meetY t_meetD t_a t_b t_c) A res) args s 0 0 A) (F0 m 0 ls [])
set_option maxHeartbeats 4000000 in
set_option maxRecDepth 100000 in
theorem i_X1_holdMeeting_2 {p : Program} {l : Launch} {e : Env} {s : State} {m : MethodId} {args : Array Value} {below : List Frame} {meth : Method} {c : Code} {A : Nat → Prop} {D : va_G} {cI cJ cZ cQ : ClassId} {a_t a_t_a a_t_b a_t_c : Nat} {t_count : Int32} {t_meetX : Int32} {t_meetY : Int32} {t_meetD : Int32} {t_a : Nat → Int32} {t_b : Nat → Int32} {t_c : Nat → Int32} {res : R_X1_holdMeeting}   {k2 : Int32 → Option R_X1_holdMeeting} (hC : mcx RX1 cX1_holdMeeting (some .boolean) 2 wsX1_holdMeeting p s m args meth c A D (tys4 cI cJ cZ cQ))   (hk2 : S_X1_holdMeeting_2 p l e s m args below meth c A D cI cJ cZ cQ a_t a_t_a a_t_b a_t_c t_count t_meetX t_meetY t_meetD t_a t_b t_c res k2) : S_X1_holdMeeting_2 p l e s m args below meth c A D cI cJ cZ cQ a_t a_t_a a_t_b a_t_c t_count t_meetX t_meetY t_meetD t_a t_b t_c res (g_X1_holdMeeting_2  t_count t_meetX t_meetY t_meetD t_a t_b t_c k2) := by
  intro x1 hf H locs hP hD hS ls hl
  obtain ⟨hx, hb, hr, hml, hown, hts, hlocks, hA, hK, hN⟩ := id hC
  unfold g_X1_holdMeeting_2 at hf
  refine lv_iload_n hx hb dX1_holdMeeting_2 rfl (lv_at hl 1 rfl) ?_
  refine lv_aload_n hx hb dX1_holdMeeting_3 rfl (lv_at hl 0 rfl) ?_
  refine va_get (D := D) (ci := 1) (v := .int t_count) (C := RX1) (T := TX1) (N := 7) hx hb hts iw_X1_holdMeeting_1 hown hK hP 0 rfl rfl 3 (by decide) (hts (.fieldLink RX1 21 "PowerDiagram$HalfPlanes" "count" "I") (List.mem_of_getElem? (i := 1) rfl)) (fun _ h9 => h9) rfl dX1_holdMeeting_4 ?_
  refine lv_icmp_ge (tgt := 43) hx hb dX1_holdMeeting_7 (by decide) (fun c1 => ?_) (fun c1 => ?_)
  · replace hf := brT c1 hf
    refine lv_iconst (v := (1 : Int32)) hx hb dX1_holdMeeting_43 (by decide) ?_
    obtain rfl := Option.some.inj hf
    exact endI (ty := .boolean) hC rfl rfl hP hD hS dX1_holdMeeting_44
  · replace hf := brF c1 hf
    refine lv_aload_n hx hb dX1_holdMeeting_10 rfl (lv_at hl 0 rfl) ?_
    refine lv_aload_n hx hb dX1_holdMeeting_11 rfl (lv_at hl 0 rfl) ?_
    refine va_get (D := D) (ci := 1) (v := .ref a_t_a) (C := RX1) (T := TX1) (N := 7) hx hb hts iw_X1_holdMeeting_1 hown hK hP 0 rfl rfl 0 (by decide) (hts (.fieldLink RX1 11 "PowerDiagram$HalfPlanes" "a" "[I") (List.mem_of_getElem? (i := 2) rfl)) (fun _ h9 => h9) rfl dX1_holdMeeting_12 ?_
    refine lv_iload_n hx hb dX1_holdMeeting_15 rfl (lv_at hl 1 rfl) ?_
    obtain ⟨h2, hf⟩ := gIx_of hf
    refine va_iald hx hb hK hP 1 0 rfl rfl h2 dX1_holdMeeting_16 ?_
    refine lv_aload_n hx hb dX1_holdMeeting_17 rfl (lv_at hl 0 rfl) ?_
    refine va_get (D := D) (ci := 1) (v := .ref a_t_b) (C := RX1) (T := TX1) (N := 7) hx hb hts iw_X1_holdMeeting_1 hown hK hP 0 rfl rfl 1 (by decide) (hts (.fieldLink RX1 15 "PowerDiagram$HalfPlanes" "b" "[I") (List.mem_of_getElem? (i := 3) rfl)) (fun _ h9 => h9) rfl dX1_holdMeeting_18 ?_
    refine lv_iload_n hx hb dX1_holdMeeting_21 rfl (lv_at hl 1 rfl) ?_
    refine va_iald hx hb hK hP 2 0 rfl rfl h2 dX1_holdMeeting_22 ?_
    refine lv_aload_n hx hb dX1_holdMeeting_23 rfl (lv_at hl 0 rfl) ?_
    refine va_get (D := D) (ci := 1) (v := .ref a_t_c) (C := RX1) (T := TX1) (N := 7) hx hb hts iw_X1_holdMeeting_1 hown hK hP 0 rfl rfl 2 (by decide) (hts (.fieldLink RX1 18 "PowerDiagram$HalfPlanes" "c" "[I") (List.mem_of_getElem? (i := 4) rfl)) (fun _ h9 => h9) rfl dX1_holdMeeting_24 ?_
    refine lv_iload_n hx hb dX1_holdMeeting_27 rfl (lv_at hl 1 rfl) ?_
    refine va_iald hx hb hK hP 3 0 rfl rfl h2 dX1_holdMeeting_28 ?_
    obtain ⟨r3, hq4, hf⟩ := bnd_of hf
    refine jnI (WB := (w_X1_holdMeeting cI cJ cZ cQ a_t a_t_a a_t_b a_t_c t_count t_meetX t_meetY t_meetD t_a t_b t_c)) (rnV (As := [.int (t_a x1.toNatClampNeg), .int (t_b x1.toNatClampNeg), .int (t_c x1.toNatClampNeg)]) (rest := []) (ci := 1) (q0 := 0) (W0 := (w_X1_meetingIsBeyond cI cJ cZ cQ a_t a_t_a a_t_b a_t_c t_count t_meetX t_meetY t_meetD)) hx hb hml hown hts hK hN (c_X1_meetingIsBeyond l D cI cJ cZ cQ a_t a_t_a a_t_b a_t_c t_count t_meetX t_meetY t_meetD (t_a x1.toNatClampNeg) (t_b x1.toNatClampNeg) (t_c x1.toNatClampNeg) r3 hq4 H.size) (cwV 3 hts gX1_holdMeeting_X1_meetingIsBeyond rfl rfl rfl e_X1_meetingIsBeyond ⟨Nat.le_of_ble_eq_true rfl, Nat.le_of_ble_eq_true rfl⟩) hP hD [0] rfl (by decide) rfl rfl rfl rfl hl (Nat.le_of_ble_eq_true rfl) dX1_holdMeeting_29 ⟨Nat.zero_le _, Nat.zero_le _⟩ rfl) hP hD hS hA [0] [1, 2, 3] [3, 0, 1, 2] rfl rfl (by decide) (by decide) rfl (by decide) (fun H locs hP hD hS => ?_)
    refine lv_if_eq (tgt := 37) hx hb dX1_holdMeeting_32 (by decide) (fun c5 => ?_) (fun c5 => ?_)
    · replace hf := brT c5 hf
      refine lv_iinc (v := (x1 + (1 : Int32))) (lv' := [(1, .int (x1 + (1 : Int32))), (0, .ref a_t)]) hx hb dX1_holdMeeting_37 hl (k := 1) rfl rfl (by decide) rfl (fun ls hl => ?_)
      refine lv_goto (tgt := 2) hx hb dX1_holdMeeting_40 (by decide) ?_
      exact (hk2) (x1 + (1 : Int32)) hf _ _ hP hD hS _ (lv_sub hl [1, 0] rfl)
    · replace hf := brF c5 hf
      refine lv_iconst (v := (0 : Int32)) hx hb dX1_holdMeeting_35 (by decide) ?_
      obtain rfl := Option.some.inj hf
      exact endI (ty := .boolean) hC rfl rfl hP hD hS dX1_holdMeeting_36
theorem t_X1_holdMeeting_2 {p : Program} {l : Launch} {e : Env} {s : State} {m : MethodId} {args : Array Value} {below : List Frame} {meth : Method} {c : Code} {A : Nat → Prop} {D : va_G} {cI cJ cZ cQ : ClassId} {a_t a_t_a a_t_b a_t_c : Nat} {t_count : Int32} {t_meetX : Int32} {t_meetY : Int32} {t_meetD : Int32} {t_a : Nat → Int32} {t_b : Nat → Int32} {t_c : Nat → Int32} {res : R_X1_holdMeeting}   (hC : mcx RX1 cX1_holdMeeting (some .boolean) 2 wsX1_holdMeeting p s m args meth c A D (tys4 cI cJ cZ cQ))   (n : Nat) : S_X1_holdMeeting_2 p l e s m args below meth c A D cI cJ cZ cQ a_t a_t_a a_t_b a_t_c t_count t_meetX t_meetY t_meetD t_a t_b t_c res (f_X1_holdMeeting_2  t_count t_meetX t_meetY t_meetD t_a t_b t_c n) := by
  induction n with
  | zero =>
    intro x1 hf
    exact nomatch (show (none : Option R_X1_holdMeeting) = some res from hf)
  | succ n ih => exact i_X1_holdMeeting_2 hC   ih
set_option maxHeartbeats 4000000 in
set_option maxRecDepth 100000 in
theorem t_X1_holdMeeting_0 {p : Program} {l : Launch} {e : Env} {s : State} {m : MethodId} {args : Array Value} {below : List Frame} {meth : Method} {c : Code} {A : Nat → Prop} {D : va_G} {cI cJ cZ cQ : ClassId} {a_t a_t_a a_t_b a_t_c : Nat} {t_count : Int32} {t_meetX : Int32} {t_meetY : Int32} {t_meetD : Int32} {t_a : Nat → Int32} {t_b : Nat → Int32} {t_c : Nat → Int32} {res : R_X1_holdMeeting}   (hC : mcx RX1 cX1_holdMeeting (some .boolean) 2 wsX1_holdMeeting p s m args meth c A D (tys4 cI cJ cZ cQ))   : S_X1_holdMeeting_0 p l e s m args below meth c A D cI cJ cZ cQ a_t a_t_a a_t_b a_t_c t_count t_meetX t_meetY t_meetD t_a t_b t_c res (f_X1_holdMeeting_0  t_count t_meetX t_meetY t_meetD t_a t_b t_c) := by
  intro hf H locs hP hD hS ls hl
  obtain ⟨hx, hb, hr, hml, hown, hts, hlocks, hA, hK, hN⟩ := id hC
  unfold f_X1_holdMeeting_0 at hf
  refine lv_iconst (v := (0 : Int32)) hx hb dX1_holdMeeting_0 (by decide) ?_
  refine lv_istore_n (lv' := [(1, .int (0 : Int32)), (0, .ref a_t)]) hx hb dX1_holdMeeting_1 rfl hl (by decide) rfl (fun ls hl => ?_)
  exact (t_X1_holdMeeting_2 hC   fuel) (0 : Int32) hf _ _ hP hD hS _ (lv_sub hl [1, 0] rfl)
theorem c_X1_holdMeeting (l : Launch) (D : va_G) (cI cJ cZ cQ : ClassId) (a_t a_t_a a_t_b a_t_c : Nat) (t_count : Int32) (t_meetX : Int32) (t_meetY : Int32) (t_meetD : Int32) (t_a : Nat → Int32) (t_b : Nat → Int32) (t_c : Nat → Int32)   (res : R_X1_holdMeeting)  (hf : f_X1_holdMeeting_0 t_count t_meetX t_meetY t_meetD t_a t_b t_c = some res) : MetI l D (tys4 cI cJ cZ cQ) yX1_holdMeeting wsX1_holdMeeting rm_X1_holdMeeting [.ref a_t] (w_X1_holdMeeting cI cJ cZ cQ a_t a_t_a a_t_b a_t_c t_count t_meetX t_meetY t_meetD t_a t_b t_c) (w_X1_holdMeeting cI cJ cZ cQ a_t a_t_a a_t_b a_t_c t_count t_meetX t_meetY t_meetD t_a t_b t_c) res := by
  intro sz
  exact metW (own := RX1) (cc := cX1_holdMeeting) (nL := 2) (ret := (some .boolean)) (Qc := fun A => qI D (tys4 cI cJ cZ cQ) (w_X1_holdMeeting cI cJ cZ cQ a_t a_t_a a_t_b a_t_c t_count t_meetX t_meetY t_meetD t_a t_b t_c) A res) (by decide) rfl rfl (Nat.le_of_ble_eq_true rfl) (fun p e s m args below meth c A hC hP hD hS ls hl => t_X1_holdMeeting_0 hC   hf _ _ hP hD hS _ (lv_sub hl [0] rfl)) sz
theorem e_X1_holdMeeting : yX1_holdMeeting.cls = RX1 ∧ yX1_holdMeeting.cls ≠ "java/lang/invoke/MethodHandle" ∧ yX1_holdMeeting.cls ≠ "java/lang/invoke/VarHandle" ∧ (parseMethodDescriptor yX1_holdMeeting.desc).map (fun d => d.parameters.length) = some 0 := by decide +kernel
/-! X1_borderHolds -/
theorem iw_X1_borderHolds_1 : ∀ w ∈ wsX10, w ∈ wsX1_borderHolds := fun _ h => List.mem_cons_of_mem _ (List.mem_append_right _ h)
def w_X1_borderHolds (cI cJ cZ cQ : ClassId) (a_t a_t_a a_t_b a_t_c : Nat) (t_count : Int32) (t_meetX : Int32) (t_meetY : Int32) (t_meetD : Int32) (t_a : Nat → Int32) (t_b : Nat → Int32) (t_c : Nat → Int32) : va_W := [(a_t, .inr (1, [.ref a_t_a, .ref a_t_b, .ref a_t_c, .int t_count, .int t_meetX, .int t_meetY, .int t_meetD])), (a_t_a, .inl (cI, 14, .inl t_a)), (a_t_b, .inl (cI, 14, .inl t_b)), (a_t_c, .inl (cI, 14, .inl t_c))]
abbrev rm_X1_borderHolds : Room := { frames := 1, cells := 0, slots := 0, locals := 21 }
def S_X1_borderHolds_0 (p : Program) (l : Launch) (e : Env) (s : State) (m : MethodId) (args : Array Value) (below : List Frame) (meth : Method) (c : Code) (A : Nat → Prop) (D : va_G) (cI cJ cZ cQ : ClassId) (a_t a_t_a a_t_b a_t_c : Nat) (t_count : Int32) (t_meetX : Int32) (t_meetY : Int32) (t_meetD : Int32) (t_a : Nat → Int32) (t_b : Nat → Int32) (t_c : Nat → Int32) (res : R_X1_borderHolds) (k : Int32 → Int32 → Int32 → Int32 → Option R_X1_borderHolds) : Prop := ∀ (x1 : Int32) (x2 : Int32) (x3 : Int32) (x4 : Int32), k x1 x2 x3 x4 = some res → ∀ (H : Heap) (locs : List Loc), va_P D vwCl (w_X1_borderHolds cI cJ cZ cQ a_t a_t_a a_t_b a_t_c t_count t_meetX t_meetY t_meetD t_a t_b t_c) H → va_D A (w_X1_borderHolds cI cJ cZ cQ a_t a_t_a a_t_b a_t_c t_count t_meetX t_meetY t_meetD t_a t_b t_c) → va_S A s.heap H locs → ∀ ls : Array Slot, lv_has ls 5 [(0, .ref a_t), (1, .int x1), (2, .int x2), (3, .int x3), (4, .int x4)] → W p l e (headSpec wsX1_borderHolds rm_X1_borderHolds).room s m args below meth c H locs 0 0 (MQ below (qI D (tys4 cI cJ cZ cQ) (w_X1_borderHolds cI cJ cZ cQ a_t a_t_a a_t_b a_t_c t_count t_meetX t_meetY t_meetD t_a t_b t_c) A res) args s 0 0 A) (F0 m 0 ls [])
set_option maxHeartbeats 4000000 in
set_option maxRecDepth 100000 in
theorem t_X1_borderHolds_0 {p : Program} {l : Launch} {e : Env} {s : State} {m : MethodId} {args : Array Value} {below : List Frame} {meth : Method} {c : Code} {A : Nat → Prop} {D : va_G} {cI cJ cZ cQ : ClassId} {a_t a_t_a a_t_b a_t_c : Nat} {t_count : Int32} {t_meetX : Int32} {t_meetY : Int32} {t_meetD : Int32} {t_a : Nat → Int32} {t_b : Nat → Int32} {t_c : Nat → Int32} {res : R_X1_borderHolds}   (hC : mcx RX1 cX1_borderHolds (some .boolean) 5 wsX1_borderHolds p s m args meth c A D (tys4 cI cJ cZ cQ))   : S_X1_borderHolds_0 p l e s m args below meth c A D cI cJ cZ cQ a_t a_t_a a_t_b a_t_c t_count t_meetX t_meetY t_meetD t_a t_b t_c res (f_X1_borderHolds_0  t_count t_a t_b t_c) := by
  intro x1 x2 x3 x4 hf H locs hP hD hS ls hl
  obtain ⟨hx, hb, hr, hml, hown, hts, hlocks, hA, hK, hN⟩ := id hC
  unfold f_X1_borderHolds_0 at hf
  refine lv_aload_n hx hb dX1_borderHolds_0 rfl (lv_at hl 0 rfl) ?_
  refine lv_iload_n hx hb dX1_borderHolds_1 rfl (lv_at hl 1 rfl) ?_
  obtain ⟨r1, hq2, hf⟩ := bnd_of hf
  refine jnI (WB := (w_X1_borderHolds cI cJ cZ cQ a_t a_t_a a_t_b a_t_c t_count t_meetX t_meetY t_meetD t_a t_b t_c)) (rnV (As := [.int x1]) (rest := []) (ci := 1) (q0 := 0) (W0 := (w_X1_has cI cJ cZ cQ a_t a_t_a a_t_b a_t_c t_count t_meetX t_meetY t_meetD)) hx hb hml hown hts hK hN (c_X1_has l D cI cJ cZ cQ a_t a_t_a a_t_b a_t_c t_count t_meetX t_meetY t_meetD x1 r1 hq2 H.size) (cwV 1 hts gX1_borderHolds_X1_has rfl rfl rfl e_X1_has ⟨Nat.le_of_ble_eq_true rfl, Nat.le_of_ble_eq_true rfl⟩) hP hD [0] rfl (by decide) rfl rfl rfl rfl hl (Nat.le_of_ble_eq_true rfl) dX1_borderHolds_2 ⟨Nat.zero_le _, Nat.zero_le _⟩ rfl) hP hD hS hA [0] [1, 2, 3] [3, 0, 1, 2] rfl rfl (by decide) (by decide) rfl (by decide) (fun H locs hP hD hS => ?_)
  refine lv_if_eq (tgt := 41) hx hb dX1_borderHolds_5 (by decide) (fun c3 => ?_) (fun c3 => ?_)
  · replace hf := brT c3 hf
    refine lv_iconst (v := (0 : Int32)) hx hb dX1_borderHolds_41 (by decide) ?_
    obtain rfl := Option.some.inj hf
    exact endI (ty := .boolean) hC rfl rfl hP hD hS dX1_borderHolds_42
  · replace hf := brF c3 hf
    refine lv_aload_n hx hb dX1_borderHolds_8 rfl (lv_at hl 0 rfl) ?_
    refine va_get (D := D) (ci := 1) (v := .ref a_t_a) (C := RX1) (T := TX1) (N := 7) hx hb hts iw_X1_borderHolds_1 hown hK hP 0 rfl rfl 0 (by decide) (hts (.fieldLink RX1 11 "PowerDiagram$HalfPlanes" "a" "[I") (List.mem_of_getElem? (i := 1) rfl)) (fun _ h9 => h9) rfl dX1_borderHolds_9 ?_
    refine lv_iload_n hx hb dX1_borderHolds_12 rfl (lv_at hl 1 rfl) ?_
    obtain ⟨h4, hf⟩ := gIx_of hf
    refine va_iald hx hb hK hP 1 0 rfl rfl h4 dX1_borderHolds_13 ?_
    refine lv_iload_n hx hb dX1_borderHolds_14 rfl (lv_at hl 2 rfl) ?_
    refine lv_imul hx hb dX1_borderHolds_15 ?_
    refine lv_aload_n hx hb dX1_borderHolds_16 rfl (lv_at hl 0 rfl) ?_
    refine va_get (D := D) (ci := 1) (v := .ref a_t_b) (C := RX1) (T := TX1) (N := 7) hx hb hts iw_X1_borderHolds_1 hown hK hP 0 rfl rfl 1 (by decide) (hts (.fieldLink RX1 15 "PowerDiagram$HalfPlanes" "b" "[I") (List.mem_of_getElem? (i := 2) rfl)) (fun _ h9 => h9) rfl dX1_borderHolds_17 ?_
    refine lv_iload_n hx hb dX1_borderHolds_20 rfl (lv_at hl 1 rfl) ?_
    refine va_iald hx hb hK hP 2 0 rfl rfl h4 dX1_borderHolds_21 ?_
    refine lv_iload_n hx hb dX1_borderHolds_22 rfl (lv_at hl 3 rfl) ?_
    refine lv_imul hx hb dX1_borderHolds_23 ?_
    refine lv_iadd hx hb dX1_borderHolds_24 ?_
    refine lv_aload_n hx hb dX1_borderHolds_25 rfl (lv_at hl 0 rfl) ?_
    refine va_get (D := D) (ci := 1) (v := .ref a_t_c) (C := RX1) (T := TX1) (N := 7) hx hb hts iw_X1_borderHolds_1 hown hK hP 0 rfl rfl 2 (by decide) (hts (.fieldLink RX1 18 "PowerDiagram$HalfPlanes" "c" "[I") (List.mem_of_getElem? (i := 3) rfl)) (fun _ h9 => h9) rfl dX1_borderHolds_26 ?_
    refine lv_iload_n hx hb dX1_borderHolds_29 rfl (lv_at hl 1 rfl) ?_
    refine va_iald hx hb hK hP 3 0 rfl rfl h4 dX1_borderHolds_30 ?_
    refine lv_iload hx hb dX1_borderHolds_31 (lv_at hl 4 rfl) ?_
    refine lv_imul hx hb dX1_borderHolds_33 ?_
    refine lv_icmp_ne (tgt := 41) hx hb dX1_borderHolds_34 (by decide) (fun c5 => ?_) (fun c5 => ?_)
    · replace hf := brF c5 hf
      refine lv_iconst (v := (0 : Int32)) hx hb dX1_borderHolds_41 (by decide) ?_
      obtain rfl := Option.some.inj hf
      exact endI (ty := .boolean) hC rfl rfl hP hD hS dX1_borderHolds_42
    · replace hf := brT c5 hf
      refine lv_iconst (v := (1 : Int32)) hx hb dX1_borderHolds_37 (by decide) ?_
      refine lv_goto (tgt := 42) hx hb dX1_borderHolds_38 (by decide) ?_
      obtain rfl := Option.some.inj hf
      exact endI (ty := .boolean) hC rfl rfl hP hD hS dX1_borderHolds_42
theorem c_X1_borderHolds (l : Launch) (D : va_G) (cI cJ cZ cQ : ClassId) (a_t a_t_a a_t_b a_t_c : Nat) (t_count : Int32) (t_meetX : Int32) (t_meetY : Int32) (t_meetD : Int32) (t_a : Nat → Int32) (t_b : Nat → Int32) (t_c : Nat → Int32) (p0 : Int32) (p1 : Int32) (p2 : Int32) (p3 : Int32)  (res : R_X1_borderHolds)  (hf : f_X1_borderHolds_0 t_count t_a t_b t_c p0 p1 p2 p3 = some res) : MetI l D (tys4 cI cJ cZ cQ) yX1_borderHolds wsX1_borderHolds rm_X1_borderHolds [.ref a_t, .int p0, .int p1, .int p2, .int p3] (w_X1_borderHolds cI cJ cZ cQ a_t a_t_a a_t_b a_t_c t_count t_meetX t_meetY t_meetD t_a t_b t_c) (w_X1_borderHolds cI cJ cZ cQ a_t a_t_a a_t_b a_t_c t_count t_meetX t_meetY t_meetD t_a t_b t_c) res := by
  intro sz
  exact metW (own := RX1) (cc := cX1_borderHolds) (nL := 5) (ret := (some .boolean)) (Qc := fun A => qI D (tys4 cI cJ cZ cQ) (w_X1_borderHolds cI cJ cZ cQ a_t a_t_a a_t_b a_t_c t_count t_meetX t_meetY t_meetD t_a t_b t_c) A res) (by decide) rfl rfl (Nat.le_of_ble_eq_true rfl) (fun p e s m args below meth c A hC hP hD hS ls hl => t_X1_borderHolds_0 hC  p0 p1 p2 p3 hf _ _ hP hD hS _ (lv_sub hl [0, 1, 2, 3, 4] rfl)) sz
theorem e_X1_borderHolds : yX1_borderHolds.cls = RX1 ∧ yX1_borderHolds.cls ≠ "java/lang/invoke/MethodHandle" ∧ yX1_borderHolds.cls ≠ "java/lang/invoke/VarHandle" ∧ (parseMethodDescriptor yX1_borderHolds.desc).map (fun d => d.parameters.length) = some 4 := by decide +kernel
/-! X1_holdSomeOf -/
theorem iw_X1_holdSomeOf_1 : ∀ w ∈ wsX10, w ∈ wsX1_holdSomeOf := fun _ h => List.mem_cons_of_mem _ (List.mem_append_right _ h)
def w_X1_holdSomeOf (cI cJ cZ cQ : ClassId) (a_t a_t_a a_t_b a_t_c : Nat) (t_count : Int32) (t_meetX : Int32) (t_meetY : Int32) (t_meetD : Int32) (t_a : Nat → Int32) (t_b : Nat → Int32) (t_c : Nat → Int32) : va_W := [(a_t, .inr (1, [.ref a_t_a, .ref a_t_b, .ref a_t_c, .int t_count, .int t_meetX, .int t_meetY, .int t_meetD])), (a_t_a, .inl (cI, 14, .inl t_a)), (a_t_b, .inl (cI, 14, .inl t_b)), (a_t_c, .inl (cI, 14, .inl t_c))]
abbrev rm_X1_holdSomeOf : Room := { frames := 0, cells := 0, slots := 0, locals := 0 }
def S_X1_holdSomeOf_117 (p : Program) (l : Launch) (e : Env) (s : State) (m : MethodId) (args : Array Value) (below : List Frame) (meth : Method) (c : Code) (A : Nat → Prop) (D : va_G) (cI cJ cZ cQ : ClassId) (a_t a_t_a a_t_b a_t_c : Nat) (t_count : Int32) (t_meetX : Int32) (t_meetY : Int32) (t_meetD : Int32) (t_a : Nat → Int32) (t_b : Nat → Int32) (t_c : Nat → Int32) (res : R_X1_holdSomeOf) (k : Int32 → Int32 → Int32 → Int32 → Int32 → Int32 → Int32 → Int32 → Int32 → Int32 → Int32 → Option R_X1_holdSomeOf) : Prop := ∀ (x1 : Int32) (x2 : Int32) (x3 : Int32) (x4 : Int32) (x5 : Int32) (x6 : Int32) (x7 : Int32) (x8 : Int32) (x9 : Int32) (x10 : Int32) (x11 : Int32), k x1 x2 x3 x4 x5 x6 x7 x8 x9 x10 x11 = some res → ∀ (H : Heap) (locs : List Loc), va_P D vwCl (w_X1_holdSomeOf cI cJ cZ cQ a_t a_t_a a_t_b a_t_c t_count t_meetX t_meetY t_meetD t_a t_b t_c) H → va_D A (w_X1_holdSomeOf cI cJ cZ cQ a_t a_t_a a_t_b a_t_c t_count t_meetX t_meetY t_meetD t_a t_b t_c) → va_S A s.heap H locs → ∀ ls : Array Slot, lv_has ls 12 [(0, .ref a_t), (1, .int x1), (2, .int x2), (3, .int x3), (4, .int x4), (5, .int x5), (6, .int x6), (7, .int x7), (8, .int x8), (9, .int x9), (10, .int x10), (11, .int x11)] → W p l e (headSpec wsX1_holdSomeOf rm_X1_holdSomeOf).room s m args below meth c H locs 0 0 (MQ below (qI D (tys4 cI cJ cZ cQ) (w_X1_holdSomeOf cI cJ cZ cQ a_t a_t_a a_t_b a_t_c t_count t_meetX t_meetY t_meetD t_a t_b t_c) A res) args s 0 0 A) (F0 m 117 ls [])
def S_X1_holdSomeOf_91 (p : Program) (l : Launch) (e : Env) (s : State) (m : MethodId) (args : Array Value) (below : List Frame) (meth : Method) (c : Code) (A : Nat → Prop) (D : va_G) (cI cJ cZ cQ : ClassId) (a_t a_t_a a_t_b a_t_c : Nat) (t_count : Int32) (t_meetX : Int32) (t_meetY : Int32) (t_meetD : Int32) (t_a : Nat → Int32) (t_b : Nat → Int32) (t_c : Nat → Int32) (res : R_X1_holdSomeOf) (k : Int32 → Int32 → Int32 → Int32 → Int32 → Int32 → Int32 → Int32 → Int32 → Int32 → Int32 → Option R_X1_holdSomeOf) : Prop := ∀ (x1 : Int32) (x2 : Int32) (x3 : Int32) (x4 : Int32) (x5 : Int32) (x6 : Int32) (x7 : Int32) (x8 : Int32) (x9 : Int32) (x10 : Int32) (x11 : Int32), k x1 x2 x3 x4 x5 x6 x7 x8 x9 x10 x11 = some res → ∀ (H : Heap) (locs : List Loc), va_P D vwCl (w_X1_holdSomeOf cI cJ cZ cQ a_t a_t_a a_t_b a_t_c t_count t_meetX t_meetY t_meetD t_a t_b t_c) H → va_D A (w_X1_holdSomeOf cI cJ cZ cQ a_t a_t_a a_t_b a_t_c t_count t_meetX t_meetY t_meetD t_a t_b t_c) → va_S A s.heap H locs → ∀ ls : Array Slot, lv_has ls 12 [(0, .ref a_t), (1, .int x1), (2, .int x2), (3, .int x3), (4, .int x4), (5, .int x5), (6, .int x6), (7, .int x7), (8, .int x8), (9, .int x9), (10, .int x10), (11, .int x11)] → W p l e (headSpec wsX1_holdSomeOf rm_X1_holdSomeOf).room s m args below meth c H locs 0 0 (MQ below (qI D (tys4 cI cJ cZ cQ) (w_X1_holdSomeOf cI cJ cZ cQ a_t a_t_a a_t_b a_t_c t_count t_meetX t_meetY t_meetD t_a t_b t_c) A res) args s 0 0 A) (F0 m 91 ls [])
def S_X1_holdSomeOf_15 (p : Program) (l : Launch) (e : Env) (s : State) (m : MethodId) (args : Array Value) (below : List Frame) (meth : Method) (c : Code) (A : Nat → Prop) (D : va_G) (cI cJ cZ cQ : ClassId) (a_t a_t_a a_t_b a_t_c : Nat) (t_count : Int32) (t_meetX : Int32) (t_meetY : Int32) (t_meetD : Int32) (t_a : Nat → Int32) (t_b : Nat → Int32) (t_c : Nat → Int32) (res : R_X1_holdSomeOf) (k : Int32 → Int32 → Int32 → Int32 → Int32 → Int32 → Int32 → Int32 → Int32 → Option R_X1_holdSomeOf) : Prop := ∀ (x1 : Int32) (x2 : Int32) (x3 : Int32) (x4 : Int32) (x5 : Int32) (x6 : Int32) (x7 : Int32) (x8 : Int32) (x9 : Int32), k x1 x2 x3 x4 x5 x6 x7 x8 x9 = some res → ∀ (H : Heap) (locs : List Loc), va_P D vwCl (w_X1_holdSomeOf cI cJ cZ cQ a_t a_t_a a_t_b a_t_c t_count t_meetX t_meetY t_meetD t_a t_b t_c) H → va_D A (w_X1_holdSomeOf cI cJ cZ cQ a_t a_t_a a_t_b a_t_c t_count t_meetX t_meetY t_meetD t_a t_b t_c) → va_S A s.heap H locs → ∀ ls : Array Slot, lv_has ls 12 [(0, .ref a_t), (1, .int x1), (2, .int x2), (3, .int x3), (4, .int x4), (5, .int x5), (6, .int x6), (7, .int x7), (8, .int x8), (9, .int x9)] → W p l e (headSpec wsX1_holdSomeOf rm_X1_holdSomeOf).room s m args below meth c H locs 0 0 (MQ below (qI D (tys4 cI cJ cZ cQ) (w_X1_holdSomeOf cI cJ cZ cQ a_t a_t_a a_t_b a_t_c t_count t_meetX t_meetY t_meetD t_a t_b t_c) A res) args s 0 0 A) (F0 m 15 ls [])
def S_X1_holdSomeOf_0 (p : Program) (l : Launch) (e : Env) (s : State) (m : MethodId) (args : Array Value) (below : List Frame) (meth : Method) (c : Code) (A : Nat → Prop) (D : va_G) (cI cJ cZ cQ : ClassId) (a_t a_t_a a_t_b a_t_c : Nat) (t_count : Int32) (t_meetX : Int32) (t_meetY : Int32) (t_meetD : Int32) (t_a : Nat → Int32) (t_b : Nat → Int32) (t_c : Nat → Int32) (res : R_X1_holdSomeOf) (k : Int32 → Int32 → Int32 → Int32 → Option R_X1_holdSomeOf) : Prop := ∀ (x1 : Int32) (x2 : Int32) (x3 : Int32) (x4 : Int32), k x1 x2 x3 x4 = some res → ∀ (H : Heap) (locs : List Loc), va_P D vwCl (w_X1_holdSomeOf cI cJ cZ cQ a_t a_t_a a_t_b a_t_c t_count t_meetX t_meetY t_meetD t_a t_b t_c) H → va_D A (w_X1_holdSomeOf cI cJ cZ cQ a_t a_t_a a_t_b a_t_c t_count t_meetX t_meetY t_meetD t_a t_b t_c) → va_S A s.heap H locs → ∀ ls : Array Slot, lv_has ls 12 [(0, .ref a_t), (1, .int x1), (2, .int x2), (3, .int x3), (4, .int x4)] → W p l e (headSpec wsX1_holdSomeOf rm_X1_holdSomeOf).room s m args below meth c H locs 0 0 (MQ below (qI D (tys4 cI cJ cZ cQ) (w_X1_holdSomeOf cI cJ cZ cQ a_t a_t_a a_t_b a_t_c t_count t_meetX t_meetY t_meetD t_a t_b t_c) A res) args s 0 0 A) (F0 m 0 ls [])
set_option maxHeartbeats 4000000 in
set_option maxRecDepth 100000 in
theorem t_X1_holdSomeOf_117 {p : Program} {l : Launch} {e : Env} {s : State} {m : MethodId} {args : Array Value} {below : List Frame} {meth : Method} {c : Code} {A : Nat → Prop} {D : va_G} {cI cJ cZ cQ : ClassId} {a_t a_t_a a_t_b a_t_c : Nat} {t_count : Int32} {t_meetX : Int32} {t_meetY : Int32} {t_meetD : Int32} {t_a : Nat → Int32} {t_b : Nat → Int32} {t_c : Nat → Int32} {res : R_X1_holdSomeOf}  {k15 : Int32 → Int32 → Int32 → Int32 → Int32 → Int32 → Int32 → Int32 → Int32 → Option R_X1_holdSomeOf} (hC : mcx RX1 cX1_holdSomeOf (some .boolean) 12 wsX1_holdSomeOf p s m args meth c A D (tys4 cI cJ cZ cQ))  (hk15 : S_X1_holdSomeOf_15 p l e s m args below meth c A D cI cJ cZ cQ a_t a_t_a a_t_b a_t_c t_count t_meetX t_meetY t_meetD t_a t_b t_c res k15) : S_X1_holdSomeOf_117 p l e s m args below meth c A D cI cJ cZ cQ a_t a_t_a a_t_b a_t_c t_count t_meetX t_meetY t_meetD t_a t_b t_c res (f_X1_holdSomeOf_117 k15 t_count t_a t_b t_c) := by
  intro x1 x2 x3 x4 x5 x6 x7 x8 x9 x10 x11 hf H locs hP hD hS ls hl
  obtain ⟨hx, hb, hr, hml, hown, hts, hlocks, hA, hK, hN⟩ := id hC
  unfold f_X1_holdSomeOf_117 at hf
  refine lv_iload hx hb dX1_holdSomeOf_117 (lv_at hl 10 rfl) ?_
  refine lv_if_ge (tgt := 147) hx hb dX1_holdSomeOf_119 (by decide) (fun c1 => ?_) (fun c1 => ?_)
  · replace hf := brT c1 hf
    refine lv_iinc (v := (x9 + (1 : Int32))) (lv' := [(9, .int (x9 + (1 : Int32))), (0, .ref a_t), (1, .int x1), (2, .int x2), (3, .int x3), (4, .int x4), (5, .int x5), (6, .int x6), (7, .int x7), (8, .int x8), (10, .int x10), (11, .int x11)]) hx hb dX1_holdSomeOf_147 hl (k := 9) rfl rfl (by decide) rfl (fun ls hl => ?_)
    refine lv_goto (tgt := 15) hx hb dX1_holdSomeOf_150 (by decide) ?_
    exact (hk15) x1 x2 x3 x4 x5 x6 x7 x8 (x9 + (1 : Int32)) hf _ _ hP hD hS _ (lv_sub hl [1, 2, 3, 4, 5, 6, 7, 8, 9, 0] rfl)
  · replace hf := brF c1 hf
    refine lv_iload hx hb dX1_holdSomeOf_122 (lv_at hl 11 rfl) ?_
    refine lv_ineg hx hb dX1_holdSomeOf_124 ?_
    refine lv_iload hx hb dX1_holdSomeOf_125 (lv_at hl 6 rfl) ?_
    refine lv_imul hx hb dX1_holdSomeOf_127 ?_
    refine lv_iload hx hb dX1_holdSomeOf_128 (lv_at hl 5 rfl) ?_
    refine lv_iload hx hb dX1_holdSomeOf_130 (lv_at hl 10 rfl) ?_
    refine lv_ineg hx hb dX1_holdSomeOf_132 ?_
    refine lv_imul hx hb dX1_holdSomeOf_133 ?_
    refine lv_icmp_le (tgt := 147) hx hb dX1_holdSomeOf_134 (by decide) (fun c2 => ?_) (fun c2 => ?_)
    · replace hf := brT c2 hf
      refine lv_iinc (v := (x9 + (1 : Int32))) (lv' := [(9, .int (x9 + (1 : Int32))), (0, .ref a_t), (1, .int x1), (2, .int x2), (3, .int x3), (4, .int x4), (5, .int x5), (6, .int x6), (7, .int x7), (8, .int x8), (10, .int x10), (11, .int x11)]) hx hb dX1_holdSomeOf_147 hl (k := 9) rfl rfl (by decide) rfl (fun ls hl => ?_)
      refine lv_goto (tgt := 15) hx hb dX1_holdSomeOf_150 (by decide) ?_
      exact (hk15) x1 x2 x3 x4 x5 x6 x7 x8 (x9 + (1 : Int32)) hf _ _ hP hD hS _ (lv_sub hl [1, 2, 3, 4, 5, 6, 7, 8, 9, 0] rfl)
    · replace hf := brF c2 hf
      refine lv_iload hx hb dX1_holdSomeOf_137 (lv_at hl 11 rfl) ?_
      refine lv_ineg hx hb dX1_holdSomeOf_139 ?_
      refine lv_topi (fun v3 ev3 => ?_)
      replace hf := nm_of ev3 hf
      refine lv_istore (lv' := [(5, .int v3), (0, .ref a_t), (1, .int x1), (2, .int x2), (3, .int x3), (4, .int x4), (6, .int x6), (7, .int x7), (8, .int x8), (9, .int x9), (10, .int x10), (11, .int x11)]) hx hb dX1_holdSomeOf_140 hl (by decide) rfl (fun ls hl => ?_)
      refine lv_iload hx hb dX1_holdSomeOf_142 (lv_at hl 10 rfl) ?_
      refine lv_ineg hx hb dX1_holdSomeOf_144 ?_
      refine lv_topi (fun v4 ev4 => ?_)
      replace hf := nm_of ev4 hf
      refine lv_istore (lv' := [(6, .int v4), (5, .int v3), (0, .ref a_t), (1, .int x1), (2, .int x2), (3, .int x3), (4, .int x4), (7, .int x7), (8, .int x8), (9, .int x9), (10, .int x10), (11, .int x11)]) hx hb dX1_holdSomeOf_145 hl (by decide) rfl (fun ls hl => ?_)
      refine lv_iinc (v := (x9 + (1 : Int32))) (lv' := [(9, .int (x9 + (1 : Int32))), (6, .int v4), (5, .int v3), (0, .ref a_t), (1, .int x1), (2, .int x2), (3, .int x3), (4, .int x4), (7, .int x7), (8, .int x8), (10, .int x10), (11, .int x11)]) hx hb dX1_holdSomeOf_147 hl (k := 9) rfl rfl (by decide) rfl (fun ls hl => ?_)
      refine lv_goto (tgt := 15) hx hb dX1_holdSomeOf_150 (by decide) ?_
      exact (hk15) x1 x2 x3 x4 v3 v4 x7 x8 (x9 + (1 : Int32)) hf _ _ hP hD hS _ (lv_sub hl [3, 4, 5, 6, 7, 2, 1, 8, 9, 0] rfl)
set_option maxHeartbeats 4000000 in
set_option maxRecDepth 100000 in
theorem t_X1_holdSomeOf_91 {p : Program} {l : Launch} {e : Env} {s : State} {m : MethodId} {args : Array Value} {below : List Frame} {meth : Method} {c : Code} {A : Nat → Prop} {D : va_G} {cI cJ cZ cQ : ClassId} {a_t a_t_a a_t_b a_t_c : Nat} {t_count : Int32} {t_meetX : Int32} {t_meetY : Int32} {t_meetD : Int32} {t_a : Nat → Int32} {t_b : Nat → Int32} {t_c : Nat → Int32} {res : R_X1_holdSomeOf}  {k15 : Int32 → Int32 → Int32 → Int32 → Int32 → Int32 → Int32 → Int32 → Int32 → Option R_X1_holdSomeOf} (hC : mcx RX1 cX1_holdSomeOf (some .boolean) 12 wsX1_holdSomeOf p s m args meth c A D (tys4 cI cJ cZ cQ))  (hk15 : S_X1_holdSomeOf_15 p l e s m args below meth c A D cI cJ cZ cQ a_t a_t_a a_t_b a_t_c t_count t_meetX t_meetY t_meetD t_a t_b t_c res k15) : S_X1_holdSomeOf_91 p l e s m args below meth c A D cI cJ cZ cQ a_t a_t_a a_t_b a_t_c t_count t_meetX t_meetY t_meetD t_a t_b t_c res (f_X1_holdSomeOf_91 k15 t_count t_a t_b t_c) := by
  intro x1 x2 x3 x4 x5 x6 x7 x8 x9 x10 x11 hf H locs hP hD hS ls hl
  obtain ⟨hx, hb, hr, hml, hown, hts, hlocks, hA, hK, hN⟩ := id hC
  unfold f_X1_holdSomeOf_91 at hf
  refine lv_iload hx hb dX1_holdSomeOf_91 (lv_at hl 10 rfl) ?_
  refine lv_if_le (tgt := 117) hx hb dX1_holdSomeOf_93 (by decide) (fun c1 => ?_) (fun c1 => ?_)
  · replace hf := brT c1 hf
    exact (t_X1_holdSomeOf_117 hC  hk15) x1 x2 x3 x4 x5 x6 x7 x8 x9 x10 x11 hf _ _ hP hD hS _ (lv_sub hl [0, 1, 2, 3, 4, 5, 6, 7, 8, 9, 10, 11] rfl)
  · replace hf := brF c1 hf
    refine lv_iload hx hb dX1_holdSomeOf_96 (lv_at hl 11 rfl) ?_
    refine lv_iload hx hb dX1_holdSomeOf_98 (lv_at hl 8 rfl) ?_
    refine lv_imul hx hb dX1_holdSomeOf_100 ?_
    refine lv_iload hx hb dX1_holdSomeOf_101 (lv_at hl 7 rfl) ?_
    refine lv_iload hx hb dX1_holdSomeOf_103 (lv_at hl 10 rfl) ?_
    refine lv_imul hx hb dX1_holdSomeOf_105 ?_
    refine lv_icmp_ge (tgt := 117) hx hb dX1_holdSomeOf_106 (by decide) (fun c2 => ?_) (fun c2 => ?_)
    · replace hf := brT c2 hf
      exact (t_X1_holdSomeOf_117 hC  hk15) x1 x2 x3 x4 x5 x6 x7 x8 x9 x10 x11 hf _ _ hP hD hS _ (lv_sub hl [0, 1, 2, 3, 4, 5, 6, 7, 8, 9, 10, 11] rfl)
    · replace hf := brF c2 hf
      refine lv_iload hx hb dX1_holdSomeOf_109 (lv_at hl 11 rfl) ?_
      refine lv_istore (lv' := [(7, .int x11), (0, .ref a_t), (1, .int x1), (2, .int x2), (3, .int x3), (4, .int x4), (5, .int x5), (6, .int x6), (8, .int x8), (9, .int x9), (10, .int x10), (11, .int x11)]) hx hb dX1_holdSomeOf_111 hl (by decide) rfl (fun ls hl => ?_)
      refine lv_iload hx hb dX1_holdSomeOf_113 (lv_at hl 10 rfl) ?_
      refine lv_istore (lv' := [(8, .int x10), (7, .int x11), (0, .ref a_t), (1, .int x1), (2, .int x2), (3, .int x3), (4, .int x4), (5, .int x5), (6, .int x6), (9, .int x9), (10, .int x10), (11, .int x11)]) hx hb dX1_holdSomeOf_115 hl (by decide) rfl (fun ls hl => ?_)
      exact (t_X1_holdSomeOf_117 hC  hk15) x1 x2 x3 x4 x5 x6 x11 x10 x9 x10 x11 hf _ _ hP hD hS _ (lv_sub hl [2, 3, 4, 5, 6, 7, 8, 1, 0, 9, 10, 11] rfl)
set_option maxHeartbeats 4000000 in
set_option maxRecDepth 100000 in
theorem i_X1_holdSomeOf_15 {p : Program} {l : Launch} {e : Env} {s : State} {m : MethodId} {args : Array Value} {below : List Frame} {meth : Method} {c : Code} {A : Nat → Prop} {D : va_G} {cI cJ cZ cQ : ClassId} {a_t a_t_a a_t_b a_t_c : Nat} {t_count : Int32} {t_meetX : Int32} {t_meetY : Int32} {t_meetD : Int32} {t_a : Nat → Int32} {t_b : Nat → Int32} {t_c : Nat → Int32} {res : R_X1_holdSomeOf}   {k15 : Int32 → Int32 → Int32 → Int32 → Int32 → Int32 → Int32 → Int32 → Int32 → Option R_X1_holdSomeOf} (hC : mcx RX1 cX1_holdSomeOf (some .boolean) 12 wsX1_holdSomeOf p s m args meth c A D (tys4 cI cJ cZ cQ))   (hk15 : S_X1_holdSomeOf_15 p l e s m args below meth c A D cI cJ cZ cQ a_t a_t_a a_t_b a_t_c t_count t_meetX t_meetY t_meetD t_a t_b t_c res k15) : S_X1_holdSomeOf_15 p l e s m args below meth c A D cI cJ cZ cQ a_t a_t_a a_t_b a_t_c t_count t_meetX t_meetY t_meetD t_a t_b t_c res (g_X1_holdSomeOf_15  t_count t_a t_b t_c k15) := by
  intro x1 x2 x3 x4 x5 x6 x7 x8 x9 hf H locs hP hD hS ls hl
  obtain ⟨hx, hb, hr, hml, hown, hts, hlocks, hA, hK, hN⟩ := id hC
  unfold g_X1_holdSomeOf_15 at hf
  refine lv_iload hx hb dX1_holdSomeOf_15 (lv_at hl 9 rfl) ?_
  refine lv_aload_n hx hb dX1_holdSomeOf_17 rfl (lv_at hl 0 rfl) ?_
  refine va_get (D := D) (ci := 1) (v := .int t_count) (C := RX1) (T := TX1) (N := 7) hx hb hts iw_X1_holdSomeOf_1 hown hK hP 0 rfl rfl 3 (by decide) (hts (.fieldLink RX1 21 "PowerDiagram$HalfPlanes" "count" "I") (List.mem_of_getElem? (i := 1) rfl)) (fun _ h9 => h9) rfl dX1_holdSomeOf_18 ?_
  refine lv_icmp_ge (tgt := 153) hx hb dX1_holdSomeOf_21 (by decide) (fun c1 => ?_) (fun c1 => ?_)
  · replace hf := brT c1 hf
    refine lv_iload hx hb dX1_holdSomeOf_153 (lv_at hl 5 rfl) ?_
    refine lv_iload hx hb dX1_holdSomeOf_155 (lv_at hl 8 rfl) ?_
    refine lv_imul hx hb dX1_holdSomeOf_157 ?_
    refine lv_iload hx hb dX1_holdSomeOf_158 (lv_at hl 7 rfl) ?_
    refine lv_iload hx hb dX1_holdSomeOf_160 (lv_at hl 6 rfl) ?_
    refine lv_imul hx hb dX1_holdSomeOf_162 ?_
    refine lv_icmp_gt (tgt := 170) hx hb dX1_holdSomeOf_163 (by decide) (fun c2 => ?_) (fun c2 => ?_)
    · replace hf := brT c2 hf
      refine lv_iconst (v := (0 : Int32)) hx hb dX1_holdSomeOf_170 (by decide) ?_
      obtain rfl := Option.some.inj hf
      exact endI (ty := .boolean) hC rfl rfl hP hD hS dX1_holdSomeOf_171
    · replace hf := brF c2 hf
      refine lv_iconst (v := (1 : Int32)) hx hb dX1_holdSomeOf_166 (by decide) ?_
      refine lv_goto (tgt := 171) hx hb dX1_holdSomeOf_167 (by decide) ?_
      obtain rfl := Option.some.inj hf
      exact endI (ty := .boolean) hC rfl rfl hP hD hS dX1_holdSomeOf_171
  · replace hf := brF c1 hf
    refine lv_aload_n hx hb dX1_holdSomeOf_24 rfl (lv_at hl 0 rfl) ?_
    refine va_get (D := D) (ci := 1) (v := .ref a_t_a) (C := RX1) (T := TX1) (N := 7) hx hb hts iw_X1_holdSomeOf_1 hown hK hP 0 rfl rfl 0 (by decide) (hts (.fieldLink RX1 11 "PowerDiagram$HalfPlanes" "a" "[I") (List.mem_of_getElem? (i := 2) rfl)) (fun _ h9 => h9) rfl dX1_holdSomeOf_25 ?_
    refine lv_iload hx hb dX1_holdSomeOf_28 (lv_at hl 9 rfl) ?_
    obtain ⟨h3, hf⟩ := gIx_of hf
    refine va_iald hx hb hK hP 1 0 rfl rfl h3 dX1_holdSomeOf_30 ?_
    refine lv_iload_n hx hb dX1_holdSomeOf_31 rfl (lv_at hl 3 rfl) ?_
    refine lv_iload_n hx hb dX1_holdSomeOf_32 rfl (lv_at hl 1 rfl) ?_
    refine lv_isub hx hb dX1_holdSomeOf_33 ?_
    refine lv_imul hx hb dX1_holdSomeOf_34 ?_
    refine lv_aload_n hx hb dX1_holdSomeOf_35 rfl (lv_at hl 0 rfl) ?_
    refine va_get (D := D) (ci := 1) (v := .ref a_t_b) (C := RX1) (T := TX1) (N := 7) hx hb hts iw_X1_holdSomeOf_1 hown hK hP 0 rfl rfl 1 (by decide) (hts (.fieldLink RX1 15 "PowerDiagram$HalfPlanes" "b" "[I") (List.mem_of_getElem? (i := 3) rfl)) (fun _ h9 => h9) rfl dX1_holdSomeOf_36 ?_
    refine lv_iload hx hb dX1_holdSomeOf_39 (lv_at hl 9 rfl) ?_
    refine va_iald hx hb hK hP 2 0 rfl rfl h3 dX1_holdSomeOf_41 ?_
    refine lv_iload hx hb dX1_holdSomeOf_42 (lv_at hl 4 rfl) ?_
    refine lv_iload_n hx hb dX1_holdSomeOf_44 rfl (lv_at hl 2 rfl) ?_
    refine lv_isub hx hb dX1_holdSomeOf_45 ?_
    refine lv_imul hx hb dX1_holdSomeOf_46 ?_
    refine lv_iadd hx hb dX1_holdSomeOf_47 ?_
    refine lv_topi (fun v4 ev4 => ?_)
    replace hf := nm_of ev4 hf
    refine lv_istore (lv' := [(10, .int v4), (0, .ref a_t), (1, .int x1), (2, .int x2), (3, .int x3), (4, .int x4), (5, .int x5), (6, .int x6), (7, .int x7), (8, .int x8), (9, .int x9)]) hx hb dX1_holdSomeOf_48 hl (by decide) rfl (fun ls hl => ?_)
    refine lv_aload_n hx hb dX1_holdSomeOf_50 rfl (lv_at hl 1 rfl) ?_
    refine va_get (D := D) (ci := 1) (v := .ref a_t_c) (C := RX1) (T := TX1) (N := 7) hx hb hts iw_X1_holdSomeOf_1 hown hK hP 0 rfl rfl 2 (by decide) (hts (.fieldLink RX1 18 "PowerDiagram$HalfPlanes" "c" "[I") (List.mem_of_getElem? (i := 4) rfl)) (fun _ h9 => h9) rfl dX1_holdSomeOf_51 ?_
    refine lv_iload hx hb dX1_holdSomeOf_54 (lv_at hl 10 rfl) ?_
    refine va_iald hx hb hK hP 3 0 rfl rfl h3 dX1_holdSomeOf_56 ?_
    refine lv_aload_n hx hb dX1_holdSomeOf_57 rfl (lv_at hl 1 rfl) ?_
    refine va_get (D := D) (ci := 1) (v := .ref a_t_a) (C := RX1) (T := TX1) (N := 7) hx hb hts iw_X1_holdSomeOf_1 hown hK hP 0 rfl rfl 0 (by decide) (hts (.fieldLink RX1 11 "PowerDiagram$HalfPlanes" "a" "[I") (List.mem_of_getElem? (i := 2) rfl)) (fun _ h9 => h9) rfl dX1_holdSomeOf_58 ?_
    refine lv_iload hx hb dX1_holdSomeOf_61 (lv_at hl 10 rfl) ?_
    refine va_iald hx hb hK hP 1 0 rfl rfl h3 dX1_holdSomeOf_63 ?_
    refine lv_iload_n hx hb dX1_holdSomeOf_64 rfl (lv_at hl 2 rfl) ?_
    refine lv_imul hx hb dX1_holdSomeOf_65 ?_
    refine lv_isub hx hb dX1_holdSomeOf_66 ?_
    refine lv_aload_n hx hb dX1_holdSomeOf_67 rfl (lv_at hl 1 rfl) ?_
    refine va_get (D := D) (ci := 1) (v := .ref a_t_b) (C := RX1) (T := TX1) (N := 7) hx hb hts iw_X1_holdSomeOf_1 hown hK hP 0 rfl rfl 1 (by decide) (hts (.fieldLink RX1 15 "PowerDiagram$HalfPlanes" "b" "[I") (List.mem_of_getElem? (i := 3) rfl)) (fun _ h9 => h9) rfl dX1_holdSomeOf_68 ?_
    refine lv_iload hx hb dX1_holdSomeOf_71 (lv_at hl 10 rfl) ?_
    refine va_iald hx hb hK hP 2 0 rfl rfl h3 dX1_holdSomeOf_73 ?_
    refine lv_iload_n hx hb dX1_holdSomeOf_74 rfl (lv_at hl 3 rfl) ?_
    refine lv_imul hx hb dX1_holdSomeOf_75 ?_
    refine lv_isub hx hb dX1_holdSomeOf_76 ?_
    refine lv_topi (fun v5 ev5 => ?_)
    replace hf := nm_of ev5 hf
    refine lv_istore (lv' := [(11, .int v5), (10, .int v4), (0, .ref a_t), (1, .int x1), (2, .int x2), (3, .int x3), (4, .int x4), (5, .int x5), (6, .int x6), (7, .int x7), (8, .int x8), (9, .int x9)]) hx hb dX1_holdSomeOf_77 hl (by decide) rfl (fun ls hl => ?_)
    refine lv_iload hx hb dX1_holdSomeOf_79 (lv_at hl 1 rfl) ?_
    refine lv_if_ne (tgt := 91) hx hb dX1_holdSomeOf_81 (by decide) (fun c6 => ?_) (fun c6 => ?_)
    · replace hf := brF c6 hf
      exact (t_X1_holdSomeOf_91 hC  hk15) x1 x2 x3 x4 x5 x6 x7 x8 x9 v4 v5 hf _ _ hP hD hS _ (lv_sub hl [2, 3, 4, 5, 6, 7, 8, 9, 10, 11, 1, 0] rfl)
    · replace hf := brT c6 hf
      refine lv_iload hx hb dX1_holdSomeOf_84 (lv_at hl 0 rfl) ?_
      refine lv_if_ge (tgt := 91) hx hb dX1_holdSomeOf_86 (by decide) (fun c7 => ?_) (fun c7 => ?_)
      · replace hf := brT c7 hf
        exact (t_X1_holdSomeOf_91 hC  hk15) x1 x2 x3 x4 x5 x6 x7 x8 x9 v4 v5 hf _ _ hP hD hS _ (lv_sub hl [2, 3, 4, 5, 6, 7, 8, 9, 10, 11, 1, 0] rfl)
      · replace hf := brF c7 hf
        refine lv_iconst (v := (0 : Int32)) hx hb dX1_holdSomeOf_89 (by decide) ?_
        obtain rfl := Option.some.inj hf
        exact endI (ty := .boolean) hC rfl rfl hP hD hS dX1_holdSomeOf_90
theorem t_X1_holdSomeOf_15 {p : Program} {l : Launch} {e : Env} {s : State} {m : MethodId} {args : Array Value} {below : List Frame} {meth : Method} {c : Code} {A : Nat → Prop} {D : va_G} {cI cJ cZ cQ : ClassId} {a_t a_t_a a_t_b a_t_c : Nat} {t_count : Int32} {t_meetX : Int32} {t_meetY : Int32} {t_meetD : Int32} {t_a : Nat → Int32} {t_b : Nat → Int32} {t_c : Nat → Int32} {res : R_X1_holdSomeOf}   (hC : mcx RX1 cX1_holdSomeOf (some .boolean) 12 wsX1_holdSomeOf p s m args meth c A D (tys4 cI cJ cZ cQ))   (n : Nat) : S_X1_holdSomeOf_15 p l e s m args below meth c A D cI cJ cZ cQ a_t a_t_a a_t_b a_t_c t_count t_meetX t_meetY t_meetD t_a t_b t_c res (f_X1_holdSomeOf_15  t_count t_a t_b t_c n) := by
  induction n with
  | zero =>
    intro x1 x2 x3 x4 x5 x6 x7 x8 x9 hf
    exact nomatch (show (none : Option R_X1_holdSomeOf) = some res from hf)
  | succ n ih => exact i_X1_holdSomeOf_15 hC   ih
set_option maxHeartbeats 4000000 in
set_option maxRecDepth 100000 in
theorem t_X1_holdSomeOf_0 {p : Program} {l : Launch} {e : Env} {s : State} {m : MethodId} {args : Array Value} {below : List Frame} {meth : Method} {c : Code} {A : Nat → Prop} {D : va_G} {cI cJ cZ cQ : ClassId} {a_t a_t_a a_t_b a_t_c : Nat} {t_count : Int32} {t_meetX : Int32} {t_meetY : Int32} {t_meetD : Int32} {t_a : Nat → Int32} {t_b : Nat → Int32} {t_c : Nat → Int32} {res : R_X1_holdSomeOf}   (hC : mcx RX1 cX1_holdSomeOf (some .boolean) 12 wsX1_holdSomeOf p s m args meth c A D (tys4 cI cJ cZ cQ))   : S_X1_holdSomeOf_0 p l e s m args below meth c A D cI cJ cZ cQ a_t a_t_a a_t_b a_t_c t_count t_meetX t_meetY t_meetD t_a t_b t_c res (f_X1_holdSomeOf_0  t_count t_a t_b t_c) := by
  intro x1 x2 x3 x4 hf H locs hP hD hS ls hl
  obtain ⟨hx, hb, hr, hml, hown, hts, hlocks, hA, hK, hN⟩ := id hC
  unfold f_X1_holdSomeOf_0 at hf
  refine lv_iconst (v := (0 : Int32)) hx hb dX1_holdSomeOf_0 (by decide) ?_
  refine lv_istore (lv' := [(5, .int (0 : Int32)), (0, .ref a_t), (1, .int x1), (2, .int x2), (3, .int x3), (4, .int x4)]) hx hb dX1_holdSomeOf_1 hl (by decide) rfl (fun ls hl => ?_)
  refine lv_iconst (v := (1 : Int32)) hx hb dX1_holdSomeOf_3 (by decide) ?_
  refine lv_istore (lv' := [(6, .int (1 : Int32)), (5, .int (0 : Int32)), (0, .ref a_t), (1, .int x1), (2, .int x2), (3, .int x3), (4, .int x4)]) hx hb dX1_holdSomeOf_4 hl (by decide) rfl (fun ls hl => ?_)
  refine lv_iconst (v := (1 : Int32)) hx hb dX1_holdSomeOf_6 (by decide) ?_
  refine lv_istore (lv' := [(7, .int (1 : Int32)), (6, .int (1 : Int32)), (5, .int (0 : Int32)), (0, .ref a_t), (1, .int x1), (2, .int x2), (3, .int x3), (4, .int x4)]) hx hb dX1_holdSomeOf_7 hl (by decide) rfl (fun ls hl => ?_)
  refine lv_iconst (v := (1 : Int32)) hx hb dX1_holdSomeOf_9 (by decide) ?_
  refine lv_istore (lv' := [(8, .int (1 : Int32)), (7, .int (1 : Int32)), (6, .int (1 : Int32)), (5, .int (0 : Int32)), (0, .ref a_t), (1, .int x1), (2, .int x2), (3, .int x3), (4, .int x4)]) hx hb dX1_holdSomeOf_10 hl (by decide) rfl (fun ls hl => ?_)
  refine lv_iconst (v := (0 : Int32)) hx hb dX1_holdSomeOf_12 (by decide) ?_
  refine lv_istore (lv' := [(9, .int (0 : Int32)), (8, .int (1 : Int32)), (7, .int (1 : Int32)), (6, .int (1 : Int32)), (5, .int (0 : Int32)), (0, .ref a_t), (1, .int x1), (2, .int x2), (3, .int x3), (4, .int x4)]) hx hb dX1_holdSomeOf_13 hl (by decide) rfl (fun ls hl => ?_)
  exact (t_X1_holdSomeOf_15 hC   fuel) x1 x2 x3 x4 (0 : Int32) (1 : Int32) (1 : Int32) (1 : Int32) (0 : Int32) hf _ _ hP hD hS _ (lv_sub hl [5, 6, 7, 8, 9, 4, 3, 2, 1, 0] rfl)
theorem c_X1_holdSomeOf (l : Launch) (D : va_G) (cI cJ cZ cQ : ClassId) (a_t a_t_a a_t_b a_t_c : Nat) (t_count : Int32) (t_meetX : Int32) (t_meetY : Int32) (t_meetD : Int32) (t_a : Nat → Int32) (t_b : Nat → Int32) (t_c : Nat → Int32) (p0 : Int32) (p1 : Int32) (p2 : Int32) (p3 : Int32)  (res : R_X1_holdSomeOf)  (hf : f_X1_holdSomeOf_0 t_count t_a t_b t_c p0 p1 p2 p3 = some res) : MetI l D (tys4 cI cJ cZ cQ) yX1_holdSomeOf wsX1_holdSomeOf rm_X1_holdSomeOf [.ref a_t, .int p0, .int p1, .int p2, .int p3] (w_X1_holdSomeOf cI cJ cZ cQ a_t a_t_a a_t_b a_t_c t_count t_meetX t_meetY t_meetD t_a t_b t_c) (w_X1_holdSomeOf cI cJ cZ cQ a_t a_t_a a_t_b a_t_c t_count t_meetX t_meetY t_meetD t_a t_b t_c) res := by
  intro sz
  exact metW (own := RX1) (cc := cX1_holdSomeOf) (nL := 12) (ret := (some .boolean)) (Qc := fun A => qI D (tys4 cI cJ cZ cQ) (w_X1_holdSomeOf cI cJ cZ cQ a_t a_t_a a_t_b a_t_c t_count t_meetX t_meetY t_meetD t_a t_b t_c) A res) (by decide) rfl rfl (Nat.le_of_ble_eq_true rfl) (fun p e s m args below meth c A hC hP hD hS ls hl => t_X1_holdSomeOf_0 hC  p0 p1 p2 p3 hf _ _ hP hD hS _ (lv_sub hl [0, 1, 2, 3, 4] rfl)) sz
theorem e_X1_holdSomeOf : yX1_holdSomeOf.cls = RX1 ∧ yX1_holdSomeOf.cls ≠ "java/lang/invoke/MethodHandle" ∧ yX1_holdSomeOf.cls ≠ "java/lang/invoke/VarHandle" ∧ (parseMethodDescriptor yX1_holdSomeOf.desc).map (fun d => d.parameters.length) = some 4 := by decide +kernel
