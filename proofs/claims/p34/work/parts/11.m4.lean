/-! X4_has -/
theorem iw_X4_has_4 : ∀ w ∈ wsX40, w ∈ wsX4_has := fun _ h => List.mem_cons_of_mem _ (List.mem_append_right _ h)
def w_X4_has (cI cJ cZ cQ : ClassId) (a_t a_t_x a_t_y a_t_w : Nat) (t_count : Int32) : va_W := [(a_t, .inr (4, [.ref a_t_x, .ref a_t_y, .ref a_t_w, .int t_count]))]
abbrev rm_X4_has : Room := { frames := 0, cells := 0, slots := 0, locals := 0 }
def S_X4_has_0 (p : Program) (l : Launch) (e : Env) (s : State) (m : MethodId) (args : Array Value) (below : List Frame) (meth : Method) (c : Code) (A : Nat → Prop) (D : va_G) (cI cJ cZ cQ : ClassId) (a_t a_t_x a_t_y a_t_w : Nat) (t_count : Int32) (res : R_X4_has) (k : Int32 → Option R_X4_has) : Prop := ∀ (x1 : Int32), k x1 = some res → ∀ (H : Heap) (locs : List Loc), va_P D vwCl (w_X4_has cI cJ cZ cQ a_t a_t_x a_t_y a_t_w t_count) H → va_D A (w_X4_has cI cJ cZ cQ a_t a_t_x a_t_y a_t_w t_count) → va_S A s.heap H locs → ∀ ls : Array Slot, lv_has ls 2 [(0, .ref a_t), (1, .int x1)] → W p l e (headSpec wsX4_has rm_X4_has).room s m args below meth c H locs 0 0 (MQ below (qI D (tys4 cI cJ cZ cQ) (w_X4_has cI cJ cZ cQ a_t a_t_x a_t_y a_t_w t_count) A res) args s 0 0 A) (F0 m 0 ls [])
set_option maxHeartbeats 4000000 in
set_option maxRecDepth 100000 in
theorem t_X4_has_0 {p : Program} {l : Launch} {e : Env} {s : State} {m : MethodId} {args : Array Value} {below : List Frame} {meth : Method} {c : Code} {A : Nat → Prop} {D : va_G} {cI cJ cZ cQ : ClassId} {a_t a_t_x a_t_y a_t_w : Nat} {t_count : Int32} {res : R_X4_has}   (hC : mcx RX4 cX4_has (some .boolean) 2 wsX4_has p s m args meth c A D (tys4 cI cJ cZ cQ))   : S_X4_has_0 p l e s m args below meth c A D cI cJ cZ cQ a_t a_t_x a_t_y a_t_w t_count res (f_X4_has_0  t_count) := by
  intro x1 hf H locs hP hD hS ls hl
  obtain ⟨hx, hb, hr, hml, hown, hts, hlocks, hA, hK, hN⟩ := id hC
  unfold f_X4_has_0 at hf
  refine lv_iload_n hx hb dX4_has_0 rfl (lv_at hl 1 rfl) ?_
  refine lv_if_lt (tgt := 16) hx hb dX4_has_1 (by decide) (fun c1 => ?_) (fun c1 => ?_)
  · replace hf := brT c1 hf
    refine lv_iconst (v := (0 : Int32)) hx hb dX4_has_16 (by decide) ?_
    obtain rfl := Option.some.inj hf
    exact endI (ty := .boolean) hC rfl rfl hP hD hS dX4_has_17
  · replace hf := brF c1 hf
    refine lv_iload_n hx hb dX4_has_4 rfl (lv_at hl 1 rfl) ?_
    refine lv_aload_n hx hb dX4_has_5 rfl (lv_at hl 0 rfl) ?_
    refine va_get (D := D) (ci := 4) (v := .int t_count) (C := RX4) (T := TX4) (N := 4) hx hb hts iw_X4_has_4 hown hK hP 0 rfl rfl 3 (by decide) (hts (.fieldLink RX4 21 "PowerDiagram$Sites" "count" "I") (List.mem_of_getElem? (i := 1) rfl)) (fun _ h9 => h9) rfl dX4_has_6 ?_
    refine lv_icmp_ge (tgt := 16) hx hb dX4_has_9 (by decide) (fun c2 => ?_) (fun c2 => ?_)
    · replace hf := brT c2 hf
      refine lv_iconst (v := (0 : Int32)) hx hb dX4_has_16 (by decide) ?_
      obtain rfl := Option.some.inj hf
      exact endI (ty := .boolean) hC rfl rfl hP hD hS dX4_has_17
    · replace hf := brF c2 hf
      refine lv_iconst (v := (1 : Int32)) hx hb dX4_has_12 (by decide) ?_
      refine lv_goto (tgt := 17) hx hb dX4_has_13 (by decide) ?_
      obtain rfl := Option.some.inj hf
      exact endI (ty := .boolean) hC rfl rfl hP hD hS dX4_has_17
theorem c_X4_has (l : Launch) (D : va_G) (cI cJ cZ cQ : ClassId) (a_t a_t_x a_t_y a_t_w : Nat) (t_count : Int32) (p0 : Int32)  (res : R_X4_has)  (hf : f_X4_has_0 t_count p0 = some res) : MetI l D (tys4 cI cJ cZ cQ) yX4_has wsX4_has rm_X4_has [.ref a_t, .int p0] (w_X4_has cI cJ cZ cQ a_t a_t_x a_t_y a_t_w t_count) (w_X4_has cI cJ cZ cQ a_t a_t_x a_t_y a_t_w t_count) res := by
  intro sz
  exact metW (own := RX4) (cc := cX4_has) (nL := 2) (ret := (some .boolean)) (Qc := fun A => qI D (tys4 cI cJ cZ cQ) (w_X4_has cI cJ cZ cQ a_t a_t_x a_t_y a_t_w t_count) A res) (by decide) rfl rfl (Nat.le_of_ble_eq_true rfl) (fun p e s m args below meth c A hC hP hD hS ls hl => t_X4_has_0 hC  p0 hf _ _ hP hD hS _ (lv_sub hl [0, 1] rfl)) sz
theorem e_X4_has : yX4_has.cls = RX4 ∧ yX4_has.cls ≠ "java/lang/invoke/MethodHandle" ∧ yX4_has.cls ≠ "java/lang/invoke/VarHandle" ∧ (parseMethodDescriptor yX4_has.desc).map (fun d => d.parameters.length) = some 1 := by decide +kernel
/-! X4_level -/
def w_X4_level (cI cJ cZ cQ : ClassId)  : va_W := []
abbrev rm_X4_level : Room := { frames := 0, cells := 0, slots := 0, locals := 0 }
def S_X4_level_0 (p : Program) (l : Launch) (e : Env) (s : State) (m : MethodId) (args : Array Value) (below : List Frame) (meth : Method) (c : Code) (A : Nat → Prop) (D : va_G) (cI cJ cZ cQ : ClassId)  (res : R_X4_level) (k : Int32 → Int32 → Int32 → Option R_X4_level) : Prop := ∀ (x0 : Int32) (x1 : Int32) (x2 : Int32), k x0 x1 x2 = some res → ∀ (H : Heap) (locs : List Loc), va_P D vwCl (w_X4_level cI cJ cZ cQ) H → va_D A (w_X4_level cI cJ cZ cQ) → va_S A s.heap H locs → ∀ ls : Array Slot, lv_has ls 3 [(0, .int x0), (1, .int x1), (2, .int x2)] → W p l e (headSpec wsX4_level rm_X4_level).room s m args below meth c H locs 0 0 (MQ below (qI D (tys4 cI cJ cZ cQ) (w_X4_level cI cJ cZ cQ) A res) args s 0 0 A) (F0 m 0 ls [])
set_option maxHeartbeats 4000000 in
set_option maxRecDepth 100000 in
theorem t_X4_level_0 {p : Program} {l : Launch} {e : Env} {s : State} {m : MethodId} {args : Array Value} {below : List Frame} {meth : Method} {c : Code} {A : Nat → Prop} {D : va_G} {cI cJ cZ cQ : ClassId}   {res : R_X4_level}   (hC : mcx RX4 cX4_level (some .int) 3 wsX4_level p s m args meth c A D (tys4 cI cJ cZ cQ))   : S_X4_level_0 p l e s m args below meth c A D cI cJ cZ cQ  res (f_X4_level_0  ) := by
  intro x0 x1 x2 hf H locs hP hD hS ls hl
  obtain ⟨hx, hb, hr, hml, hown, hts, hlocks, hA, hK, hN⟩ := id hC
  unfold f_X4_level_0 at hf
  refine lv_iload_n hx hb dX4_level_0 rfl (lv_at hl 0 rfl) ?_
  refine lv_iload_n hx hb dX4_level_1 rfl (lv_at hl 0 rfl) ?_
  refine lv_imul hx hb dX4_level_2 ?_
  refine lv_iload_n hx hb dX4_level_3 rfl (lv_at hl 1 rfl) ?_
  refine lv_iload_n hx hb dX4_level_4 rfl (lv_at hl 1 rfl) ?_
  refine lv_imul hx hb dX4_level_5 ?_
  refine lv_iadd hx hb dX4_level_6 ?_
  refine lv_iload_n hx hb dX4_level_7 rfl (lv_at hl 2 rfl) ?_
  refine lv_isub hx hb dX4_level_8 ?_
  obtain rfl := Option.some.inj hf
  exact endI (ty := .int) hC (nzI _) rfl hP hD hS dX4_level_9
theorem c_X4_level (l : Launch) (D : va_G) (cI cJ cZ cQ : ClassId)  (p0 : Int32) (p1 : Int32) (p2 : Int32)  (res : R_X4_level)  (hf : f_X4_level_0  p0 p1 p2 = some res) : MetI l D (tys4 cI cJ cZ cQ) yX4_level wsX4_level rm_X4_level [.int p0, .int p1, .int p2] (w_X4_level cI cJ cZ cQ) (w_X4_level cI cJ cZ cQ) res := by
  intro sz
  exact metW (own := RX4) (cc := cX4_level) (nL := 3) (ret := (some .int)) (Qc := fun A => qI D (tys4 cI cJ cZ cQ) (w_X4_level cI cJ cZ cQ) A res) (by decide) rfl rfl (Nat.le_of_ble_eq_true rfl) (fun p e s m args below meth c A hC hP hD hS ls hl => t_X4_level_0 hC  p0 p1 p2 hf _ _ hP hD hS _ (lv_sub hl [0, 1, 2] rfl)) sz
theorem e_X4_level : yX4_level.cls ≠ "java/lang/invoke/MethodHandle" ∧ yX4_level.cls ≠ "java/lang/invoke/VarHandle" ∧ (parseMethodDescriptor yX4_level.desc).map (fun d => d.parameters.length) = some 3 := by decide +kernel
/-! X4_levelOf -/
theorem iw_X4_levelOf_4 : ∀ w ∈ wsX40, w ∈ wsX4_levelOf := fun _ h => List.mem_cons_of_mem _ (List.mem_append_right _ h)
def w_X4_levelOf (cI cJ cZ cQ : ClassId) (a_t a_t_x a_t_y a_t_w : Nat) (t_count : Int32) (t_x : Nat → Int32) (t_y : Nat → Int32) (t_w : Nat → Int32) : va_W := [(a_t, .inr (4, [.ref a_t_x, .ref a_t_y, .ref a_t_w, .int t_count])), (a_t_x, .inl (cI, 10, .inl t_x)), (a_t_y, .inl (cI, 10, .inl t_y)), (a_t_w, .inl (cI, 10, .inl t_w))]
abbrev rm_X4_levelOf : Room := { frames := 1, cells := 0, slots := 0, locals := 22 }
def S_X4_levelOf_0 (p : Program) (l : Launch) (e : Env) (s : State) (m : MethodId) (args : Array Value) (below : List Frame) (meth : Method) (c : Code) (A : Nat → Prop) (D : va_G) (cI cJ cZ cQ : ClassId) (a_t a_t_x a_t_y a_t_w : Nat) (t_count : Int32) (t_x : Nat → Int32) (t_y : Nat → Int32) (t_w : Nat → Int32) (res : R_X4_levelOf) (k : Int32 → Option R_X4_levelOf) : Prop := ∀ (x1 : Int32), k x1 = some res → ∀ (H : Heap) (locs : List Loc), va_P D vwCl (w_X4_levelOf cI cJ cZ cQ a_t a_t_x a_t_y a_t_w t_count t_x t_y t_w) H → va_D A (w_X4_levelOf cI cJ cZ cQ a_t a_t_x a_t_y a_t_w t_count t_x t_y t_w) → va_S A s.heap H locs → ∀ ls : Array Slot, lv_has ls 2 [(0, .ref a_t), (1, .int x1)] → W p l e (headSpec wsX4_levelOf rm_X4_levelOf).room s m args below meth c H locs 0 0 (MQ below (qI D (tys4 cI cJ cZ cQ) (w_X4_levelOf cI cJ cZ cQ a_t a_t_x a_t_y a_t_w t_count t_x t_y t_w) A res) args s 0 0 A) (F0 m 0 ls [])
set_option maxHeartbeats 4000000 in
set_option maxRecDepth 100000 in
theorem t_X4_levelOf_0 {p : Program} {l : Launch} {e : Env} {s : State} {m : MethodId} {args : Array Value} {below : List Frame} {meth : Method} {c : Code} {A : Nat → Prop} {D : va_G} {cI cJ cZ cQ : ClassId} {a_t a_t_x a_t_y a_t_w : Nat} {t_count : Int32} {t_x : Nat → Int32} {t_y : Nat → Int32} {t_w : Nat → Int32} {res : R_X4_levelOf}   (hC : mcx RX4 cX4_levelOf (some .int) 2 wsX4_levelOf p s m args meth c A D (tys4 cI cJ cZ cQ))   : S_X4_levelOf_0 p l e s m args below meth c A D cI cJ cZ cQ a_t a_t_x a_t_y a_t_w t_count t_x t_y t_w res (f_X4_levelOf_0  t_x t_y t_w) := by
  intro x1 hf H locs hP hD hS ls hl
  obtain ⟨hx, hb, hr, hml, hown, hts, hlocks, hA, hK, hN⟩ := id hC
  unfold f_X4_levelOf_0 at hf
  refine lv_aload_n hx hb dX4_levelOf_0 rfl (lv_at hl 0 rfl) ?_
  refine va_get (D := D) (ci := 4) (v := .ref a_t_x) (C := RX4) (T := TX4) (N := 4) hx hb hts iw_X4_levelOf_4 hown hK hP 0 rfl rfl 0 (by decide) (hts (.fieldLink RX4 9 "PowerDiagram$Sites" "x" "[I") (List.mem_of_getElem? (i := 1) rfl)) (fun _ h9 => h9) rfl dX4_levelOf_1 ?_
  refine lv_iload_n hx hb dX4_levelOf_4 rfl (lv_at hl 1 rfl) ?_
  obtain ⟨h1, hf⟩ := gIx_of hf
  refine va_iald hx hb hK hP 1 0 rfl rfl h1 dX4_levelOf_5 ?_
  refine lv_aload_n hx hb dX4_levelOf_6 rfl (lv_at hl 0 rfl) ?_
  refine va_get (D := D) (ci := 4) (v := .ref a_t_y) (C := RX4) (T := TX4) (N := 4) hx hb hts iw_X4_levelOf_4 hown hK hP 0 rfl rfl 1 (by decide) (hts (.fieldLink RX4 15 "PowerDiagram$Sites" "y" "[I") (List.mem_of_getElem? (i := 2) rfl)) (fun _ h9 => h9) rfl dX4_levelOf_7 ?_
  refine lv_iload_n hx hb dX4_levelOf_10 rfl (lv_at hl 1 rfl) ?_
  refine va_iald hx hb hK hP 2 0 rfl rfl h1 dX4_levelOf_11 ?_
  refine lv_aload_n hx hb dX4_levelOf_12 rfl (lv_at hl 0 rfl) ?_
  refine va_get (D := D) (ci := 4) (v := .ref a_t_w) (C := RX4) (T := TX4) (N := 4) hx hb hts iw_X4_levelOf_4 hown hK hP 0 rfl rfl 2 (by decide) (hts (.fieldLink RX4 18 "PowerDiagram$Sites" "w" "[I") (List.mem_of_getElem? (i := 3) rfl)) (fun _ h9 => h9) rfl dX4_levelOf_13 ?_
  refine lv_iload_n hx hb dX4_levelOf_16 rfl (lv_at hl 1 rfl) ?_
  refine va_iald hx hb hK hP 3 0 rfl rfl h1 dX4_levelOf_17 ?_
  obtain ⟨r2, hq3, hf⟩ := bnd_of hf
  refine jnI (WB := (w_X4_levelOf cI cJ cZ cQ a_t a_t_x a_t_y a_t_w t_count t_x t_y t_w)) (rnS (As := [.int (t_x x1.toNatClampNeg), .int (t_y x1.toNatClampNeg), .int (t_w x1.toNatClampNeg)]) (rest := []) (W0 := (w_X4_level cI cJ cZ cQ )) hx hb hml hown hts hK hN (c_X4_level l D cI cJ cZ cQ (t_x x1.toNatClampNeg) (t_y x1.toNatClampNeg) (t_w x1.toNatClampNeg) r2 hq3 H.size) (va_cwS 3 hts gX4_levelOf_X4_level rfl rfl rfl e_X4_level ⟨Nat.le_of_ble_eq_true rfl, Nat.le_of_ble_eq_true rfl⟩) hP hD [] rfl (by decide) rfl hl (Nat.le_of_ble_eq_true rfl) dX4_levelOf_18 ⟨Nat.zero_le _, Nat.zero_le _⟩ rfl) hP hD hS hA [] [0, 1, 2, 3] [0, 1, 2, 3] rfl rfl (by decide) (by decide) rfl (by decide) (fun H locs hP hD hS => ?_)
  obtain rfl := Option.some.inj hf
  exact endI (ty := .int) hC (nzI _) rfl hP hD hS dX4_levelOf_21
theorem c_X4_levelOf (l : Launch) (D : va_G) (cI cJ cZ cQ : ClassId) (a_t a_t_x a_t_y a_t_w : Nat) (t_count : Int32) (t_x : Nat → Int32) (t_y : Nat → Int32) (t_w : Nat → Int32) (p0 : Int32)  (res : R_X4_levelOf)  (hf : f_X4_levelOf_0 t_x t_y t_w p0 = some res) : MetI l D (tys4 cI cJ cZ cQ) yX4_levelOf wsX4_levelOf rm_X4_levelOf [.ref a_t, .int p0] (w_X4_levelOf cI cJ cZ cQ a_t a_t_x a_t_y a_t_w t_count t_x t_y t_w) (w_X4_levelOf cI cJ cZ cQ a_t a_t_x a_t_y a_t_w t_count t_x t_y t_w) res := by
  intro sz
  exact metW (own := RX4) (cc := cX4_levelOf) (nL := 2) (ret := (some .int)) (Qc := fun A => qI D (tys4 cI cJ cZ cQ) (w_X4_levelOf cI cJ cZ cQ a_t a_t_x a_t_y a_t_w t_count t_x t_y t_w) A res) (by decide) rfl rfl (Nat.le_of_ble_eq_true rfl) (fun p e s m args below meth c A hC hP hD hS ls hl => t_X4_levelOf_0 hC  p0 hf _ _ hP hD hS _ (lv_sub hl [0, 1] rfl)) sz
theorem e_X4_levelOf : yX4_levelOf.cls = RX4 ∧ yX4_levelOf.cls ≠ "java/lang/invoke/MethodHandle" ∧ yX4_levelOf.cls ≠ "java/lang/invoke/VarHandle" ∧ (parseMethodDescriptor yX4_levelOf.desc).map (fun d => d.parameters.length) = some 1 := by decide +kernel
/-! X4_copy -/
theorem iw_X4_copy_4 : ∀ w ∈ wsX40, w ∈ wsX4_copy := fun _ h => List.mem_cons_of_mem _ (List.mem_append_right _ h)
def w_X4_copy (cI cJ cZ cQ : ClassId) (a_p1 a_p1_x a_p1_y a_p1_w a_p0 a_p0_x a_p0_y a_p0_w : Nat) (p1_count : Int32) (p0_count : Int32) (p0_x : Nat → Int32) (p1_x : Nat → Int32) (p0_y : Nat → Int32) (p1_y : Nat → Int32) (p0_w : Nat → Int32) (p1_w : Nat → Int32) : va_W := [(a_p1, .inr (4, [.ref a_p1_x, .ref a_p1_y, .ref a_p1_w, .int p1_count])), (a_p0, .inr (4, [.ref a_p0_x, .ref a_p0_y, .ref a_p0_w, .int p0_count])), (a_p0_x, .inl (cI, 10, .inl p0_x)), (a_p1_x, .inl (cI, 10, .inl p1_x)), (a_p0_y, .inl (cI, 10, .inl p0_y)), (a_p1_y, .inl (cI, 10, .inl p1_y)), (a_p0_w, .inl (cI, 10, .inl p0_w)), (a_p1_w, .inl (cI, 10, .inl p1_w))]
abbrev rm_X4_copy : Room := { frames := 0, cells := 0, slots := 0, locals := 0 }
def S_X4_copy_11 (p : Program) (l : Launch) (e : Env) (s : State) (m : MethodId) (args : Array Value) (below : List Frame) (meth : Method) (c : Code) (A : Nat → Prop) (D : va_G) (cI cJ cZ cQ : ClassId) (a_p1 a_p1_x a_p1_y a_p1_w a_p0 a_p0_x a_p0_y a_p0_w : Nat) (p0_count : Int32) (p0_x : Nat → Int32) (p0_y : Nat → Int32) (p0_w : Nat → Int32) (res : R_X4_copy) (k : Int32 → (Nat → Int32) → (Nat → Int32) → (Nat → Int32) → Int32 → Option R_X4_copy) : Prop := ∀ (p1_count : Int32) (p1_x : Nat → Int32) (p1_y : Nat → Int32) (p1_w : Nat → Int32) (x2 : Int32), k p1_count p1_x p1_y p1_w x2 = some res → ∀ (H : Heap) (locs : List Loc), va_P D vwCl (w_X4_copy cI cJ cZ cQ a_p1 a_p1_x a_p1_y a_p1_w a_p0 a_p0_x a_p0_y a_p0_w p1_count p0_count p0_x p1_x p0_y p1_y p0_w p1_w) H → va_D A (w_X4_copy cI cJ cZ cQ a_p1 a_p1_x a_p1_y a_p1_w a_p0 a_p0_x a_p0_y a_p0_w p1_count p0_count p0_x p1_x p0_y p1_y p0_w p1_w) → va_S A s.heap H locs → ∀ ls : Array Slot, lv_has ls 3 [(0, .ref a_p0), (1, .ref a_p1), (2, .int x2)] → W p l e (headSpec wsX4_copy rm_X4_copy).room s m args below meth c H locs 0 0 (MQ below (qV D (tys4 cI cJ cZ cQ) (w_X4_copy cI cJ cZ cQ a_p1 a_p1_x a_p1_y a_p1_w a_p0 a_p0_x a_p0_y a_p0_w res.1 p0_count p0_x res.2.1 p0_y res.2.2.1 p0_w res.2.2.2) A) args s 0 0 A) (F0 m 11 ls [])
def S_X4_copy_0 (p : Program) (l : Launch) (e : Env) (s : State) (m : MethodId) (args : Array Value) (below : List Frame) (meth : Method) (c : Code) (A : Nat → Prop) (D : va_G) (cI cJ cZ cQ : ClassId) (a_p1 a_p1_x a_p1_y a_p1_w a_p0 a_p0_x a_p0_y a_p0_w : Nat) (p0_count : Int32) (p0_x : Nat → Int32) (p0_y : Nat → Int32) (p0_w : Nat → Int32) (res : R_X4_copy) (k : Int32 → (Nat → Int32) → (Nat → Int32) → (Nat → Int32) → Option R_X4_copy) : Prop := ∀ (p1_count : Int32) (p1_x : Nat → Int32) (p1_y : Nat → Int32) (p1_w : Nat → Int32), k p1_count p1_x p1_y p1_w = some res → ∀ (H : Heap) (locs : List Loc), va_P D vwCl (w_X4_copy cI cJ cZ cQ a_p1 a_p1_x a_p1_y a_p1_w a_p0 a_p0_x a_p0_y a_p0_w p1_count p0_count p0_x p1_x p0_y p1_y p0_w p1_w) H → va_D A (w_X4_copy cI cJ cZ cQ a_p1 a_p1_x a_p1_y a_p1_w a_p0 a_p0_x a_p0_y a_p0_w p1_count p0_count p0_x p1_x p0_y p1_y p0_w p1_w) → va_S A s.heap H locs → ∀ ls : Array Slot, lv_has ls 3 [(0, .ref a_p0), (1, .ref a_p1)] → W p l e (headSpec wsX4_copy rm_X4_copy).room s m args below meth c H locs 0 0 (MQ below (qV D (tys4 cI cJ cZ cQ) (w_X4_copy cI cJ cZ cQ a_p1 a_p1_x a_p1_y a_p1_w a_p0 a_p0_x a_p0_y a_p0_w res.1 p0_count p0_x res.2.1 p0_y res.2.2.1 p0_w res.2.2.2) A) args s 0 0 A) (F0 m 0 ls [])
set_option maxHeartbeats 4000000 in
set_option maxRecDepth 100000 in
theorem i_X4_copy_11 {p : Program} {l : Launch} {e : Env} {s : State} {m : MethodId} {args : Array Value} {below : List Frame} {meth : Method} {c : Code} {A : Nat → Prop} {D : va_G} {cI cJ cZ cQ : ClassId} {a_p1 a_p1_x a_p1_y a_p1_w a_p0 a_p0_x a_p0_y a_p0_w : Nat} {p0_count : Int32} {p0_x : Nat → Int32} {p0_y : Nat → Int32} {p0_w : Nat → Int32} {res : R_X4_copy}   {k11 : Int32 → (Nat → Int32) → (Nat → Int32) → (Nat → Int32) → Int32 → Option R_X4_copy} (hC : mcx RX4 cX4_copy none 3 wsX4_copy p s m args meth c A D (tys4 cI cJ cZ cQ))   (hk11 : S_X4_copy_11 p l e s m args below meth c A D cI cJ cZ cQ a_p1 a_p1_x a_p1_y a_p1_w a_p0 a_p0_x a_p0_y a_p0_w p0_count p0_x p0_y p0_w res k11) : S_X4_copy_11 p l e s m args below meth c A D cI cJ cZ cQ a_p1 a_p1_x a_p1_y a_p1_w a_p0 a_p0_x a_p0_y a_p0_w p0_count p0_x p0_y p0_w res (g_X4_copy_11  p0_count p0_x p0_y p0_w k11) := by
  intro p1_count p1_x p1_y p1_w x2 hf H locs hP hD hS ls hl
  obtain ⟨hx, hb, hr, hml, hown, hts, hlocks, hA, hK, hN⟩ := id hC
  unfold g_X4_copy_11 at hf
  refine lv_iload_n hx hb dX4_copy_11 rfl (lv_at hl 2 rfl) ?_
  refine lv_bipush (v := (10 : Int32)) hx hb dX4_copy_12 (by decide) ?_
  refine lv_icmp_ge (tgt := 59) hx hb dX4_copy_14 (by decide) (fun c1 => ?_) (fun c1 => ?_)
  · replace hf := brT c1 hf
    refine lv_aload_n hx hb dX4_copy_59 rfl (lv_at hl 1 rfl) ?_
    refine lv_aload_n hx hb dX4_copy_60 rfl (lv_at hl 0 rfl) ?_
    refine va_get (D := D) (ci := 4) (v := .int p0_count) (C := RX4) (T := TX4) (N := 4) hx hb hts iw_X4_copy_4 hown hK hP 1 rfl rfl 3 (by decide) (hts (.fieldLink RX4 21 "PowerDiagram$Sites" "count" "I") (List.mem_of_getElem? (i := 4) rfl)) (fun _ h9 => h9) rfl dX4_copy_61 ?_
    refine wrF (D := D) (ci := 4) (v := .int p0_count) (ty := .int) (C := RX4) (T := TX4) (N := 4) (WB := (w_X4_copy cI cJ cZ cQ a_p1 a_p1_x a_p1_y a_p1_w a_p0 a_p0_x a_p0_y a_p0_w p0_count p0_count p0_x p1_x p0_y p1_y p0_w p1_w)) hx hb hts iw_X4_copy_4 tyX4 tyX4_ok nmX4 hown hK hP hD hS 0 rfl rfl 3 (by decide) (hts (.fieldLink RX4 21 "PowerDiagram$Sites" "count" "I") (List.mem_of_getElem? (i := 4) rfl)) (fun _ h9 => h9) rfl rfl rfl rfl (Nat.le_of_ble_eq_true rfl) dX4_copy_64 rfl (fun H locs hP hD hS => ?_)
    obtain rfl := Option.some.inj hf
    exact endV hC hP hD hS dX4_copy_67
  · replace hf := brF c1 hf
    refine lv_aload_n hx hb dX4_copy_17 rfl (lv_at hl 1 rfl) ?_
    refine va_get (D := D) (ci := 4) (v := .ref a_p1_x) (C := RX4) (T := TX4) (N := 4) hx hb hts iw_X4_copy_4 hown hK hP 0 rfl rfl 0 (by decide) (hts (.fieldLink RX4 9 "PowerDiagram$Sites" "x" "[I") (List.mem_of_getElem? (i := 1) rfl)) (fun _ h9 => h9) rfl dX4_copy_18 ?_
    refine lv_iload_n hx hb dX4_copy_21 rfl (lv_at hl 2 rfl) ?_
    refine lv_aload_n hx hb dX4_copy_22 rfl (lv_at hl 0 rfl) ?_
    refine va_get (D := D) (ci := 4) (v := .ref a_p0_x) (C := RX4) (T := TX4) (N := 4) hx hb hts iw_X4_copy_4 hown hK hP 1 rfl rfl 0 (by decide) (hts (.fieldLink RX4 9 "PowerDiagram$Sites" "x" "[I") (List.mem_of_getElem? (i := 1) rfl)) (fun _ h9 => h9) rfl dX4_copy_23 ?_
    refine lv_iload_n hx hb dX4_copy_26 rfl (lv_at hl 2 rfl) ?_
    obtain ⟨h2, hf⟩ := gIx_of hf
    refine va_iald hx hb hK hP 2 0 rfl rfl h2 dX4_copy_27 ?_
    refine wrI (WB := (w_X4_copy cI cJ cZ cQ a_p1 a_p1_x a_p1_y a_p1_w a_p0 a_p0_x a_p0_y a_p0_w p1_count p0_count p0_x (upd p1_x x2.toNatClampNeg (p0_x x2.toNatClampNeg)) p0_y p1_y p0_w p1_w)) hx hb hK hP hD hS 3 0 rfl rfl h2 dX4_copy_28 rfl (fun H locs hP hD hS => ?_)
    refine lv_aload_n hx hb dX4_copy_29 rfl (lv_at hl 1 rfl) ?_
    refine va_get (D := D) (ci := 4) (v := .ref a_p1_y) (C := RX4) (T := TX4) (N := 4) hx hb hts iw_X4_copy_4 hown hK hP 0 rfl rfl 1 (by decide) (hts (.fieldLink RX4 15 "PowerDiagram$Sites" "y" "[I") (List.mem_of_getElem? (i := 2) rfl)) (fun _ h9 => h9) rfl dX4_copy_30 ?_
    refine lv_iload_n hx hb dX4_copy_33 rfl (lv_at hl 2 rfl) ?_
    refine lv_aload_n hx hb dX4_copy_34 rfl (lv_at hl 0 rfl) ?_
    refine va_get (D := D) (ci := 4) (v := .ref a_p0_y) (C := RX4) (T := TX4) (N := 4) hx hb hts iw_X4_copy_4 hown hK hP 1 rfl rfl 1 (by decide) (hts (.fieldLink RX4 15 "PowerDiagram$Sites" "y" "[I") (List.mem_of_getElem? (i := 2) rfl)) (fun _ h9 => h9) rfl dX4_copy_35 ?_
    refine lv_iload_n hx hb dX4_copy_38 rfl (lv_at hl 2 rfl) ?_
    refine va_iald hx hb hK hP 4 0 rfl rfl h2 dX4_copy_39 ?_
    refine wrI (WB := (w_X4_copy cI cJ cZ cQ a_p1 a_p1_x a_p1_y a_p1_w a_p0 a_p0_x a_p0_y a_p0_w p1_count p0_count p0_x (upd p1_x x2.toNatClampNeg (p0_x x2.toNatClampNeg)) p0_y (upd p1_y x2.toNatClampNeg (p0_y x2.toNatClampNeg)) p0_w p1_w)) hx hb hK hP hD hS 5 0 rfl rfl h2 dX4_copy_40 rfl (fun H locs hP hD hS => ?_)
    refine lv_aload_n hx hb dX4_copy_41 rfl (lv_at hl 1 rfl) ?_
    refine va_get (D := D) (ci := 4) (v := .ref a_p1_w) (C := RX4) (T := TX4) (N := 4) hx hb hts iw_X4_copy_4 hown hK hP 0 rfl rfl 2 (by decide) (hts (.fieldLink RX4 18 "PowerDiagram$Sites" "w" "[I") (List.mem_of_getElem? (i := 3) rfl)) (fun _ h9 => h9) rfl dX4_copy_42 ?_
    refine lv_iload_n hx hb dX4_copy_45 rfl (lv_at hl 2 rfl) ?_
    refine lv_aload_n hx hb dX4_copy_46 rfl (lv_at hl 0 rfl) ?_
    refine va_get (D := D) (ci := 4) (v := .ref a_p0_w) (C := RX4) (T := TX4) (N := 4) hx hb hts iw_X4_copy_4 hown hK hP 1 rfl rfl 2 (by decide) (hts (.fieldLink RX4 18 "PowerDiagram$Sites" "w" "[I") (List.mem_of_getElem? (i := 3) rfl)) (fun _ h9 => h9) rfl dX4_copy_47 ?_
    refine lv_iload_n hx hb dX4_copy_50 rfl (lv_at hl 2 rfl) ?_
    refine va_iald hx hb hK hP 6 0 rfl rfl h2 dX4_copy_51 ?_
    refine wrI (WB := (w_X4_copy cI cJ cZ cQ a_p1 a_p1_x a_p1_y a_p1_w a_p0 a_p0_x a_p0_y a_p0_w p1_count p0_count p0_x (upd p1_x x2.toNatClampNeg (p0_x x2.toNatClampNeg)) p0_y (upd p1_y x2.toNatClampNeg (p0_y x2.toNatClampNeg)) p0_w (upd p1_w x2.toNatClampNeg (p0_w x2.toNatClampNeg)))) hx hb hK hP hD hS 7 0 rfl rfl h2 dX4_copy_52 rfl (fun H locs hP hD hS => ?_)
    refine lv_iinc (v := (x2 + (1 : Int32))) (lv' := [(2, .int (x2 + (1 : Int32))), (0, .ref a_p0), (1, .ref a_p1)]) hx hb dX4_copy_53 hl (k := 2) rfl rfl (by decide) rfl (fun ls hl => ?_)
    refine lv_goto (tgt := 11) hx hb dX4_copy_56 (by decide) ?_
    exact (hk11) p1_count (upd p1_x x2.toNatClampNeg (p0_x x2.toNatClampNeg)) (upd p1_y x2.toNatClampNeg (p0_y x2.toNatClampNeg)) (upd p1_w x2.toNatClampNeg (p0_w x2.toNatClampNeg)) (x2 + (1 : Int32)) hf _ _ hP hD hS _ (lv_sub hl [1, 2, 0] rfl)
theorem t_X4_copy_11 {p : Program} {l : Launch} {e : Env} {s : State} {m : MethodId} {args : Array Value} {below : List Frame} {meth : Method} {c : Code} {A : Nat → Prop} {D : va_G} {cI cJ cZ cQ : ClassId} {a_p1 a_p1_x a_p1_y a_p1_w a_p0 a_p0_x a_p0_y a_p0_w : Nat} {p0_count : Int32} {p0_x : Nat → Int32} {p0_y : Nat → Int32} {p0_w : Nat → Int32} {res : R_X4_copy}   (hC : mcx RX4 cX4_copy none 3 wsX4_copy p s m args meth c A D (tys4 cI cJ cZ cQ))   (n : Nat) : S_X4_copy_11 p l e s m args below meth c A D cI cJ cZ cQ a_p1 a_p1_x a_p1_y a_p1_w a_p0 a_p0_x a_p0_y a_p0_w p0_count p0_x p0_y p0_w res (f_X4_copy_11  p0_count p0_x p0_y p0_w n) := by
  induction n with
  | zero =>
    intro p1_count p1_x p1_y p1_w x2 hf
    exact nomatch (show (none : Option R_X4_copy) = some res from hf)
  | succ n ih => exact i_X4_copy_11 hC   ih
set_option maxHeartbeats 4000000 in
set_option maxRecDepth 100000 in
theorem t_X4_copy_0 {p : Program} {l : Launch} {e : Env} {s : State} {m : MethodId} {args : Array Value} {below : List Frame} {meth : Method} {c : Code} {A : Nat → Prop} {D : va_G} {cI cJ cZ cQ : ClassId} {a_p1 a_p1_x a_p1_y a_p1_w a_p0 a_p0_x a_p0_y a_p0_w : Nat} {p0_count : Int32} {p0_x : Nat → Int32} {p0_y : Nat → Int32} {p0_w : Nat → Int32} {res : R_X4_copy}   (hC : mcx RX4 cX4_copy none 3 wsX4_copy p s m args meth c A D (tys4 cI cJ cZ cQ))   : S_X4_copy_0 p l e s m args below meth c A D cI cJ cZ cQ a_p1 a_p1_x a_p1_y a_p1_w a_p0 a_p0_x a_p0_y a_p0_w p0_count p0_x p0_y p0_w res (f_X4_copy_0  p0_count p0_x p0_y p0_w) := by
  intro p1_count p1_x p1_y p1_w hf H locs hP hD hS ls hl
  obtain ⟨hx, hb, hr, hml, hown, hts, hlocks, hA, hK, hN⟩ := id hC
  unfold f_X4_copy_0 at hf
  refine lv_aload_n hx hb dX4_copy_0 rfl (lv_at hl 0 rfl) ?_
  refine lv_ifnull hx hb dX4_copy_1 ?_
  refine lv_aload_n hx hb dX4_copy_4 rfl (lv_at hl 1 rfl) ?_
  refine lv_ifnonnull (tgt := 9) hx hb dX4_copy_5 (by decide) ?_
  refine lv_iconst (v := (0 : Int32)) hx hb dX4_copy_9 (by decide) ?_
  refine lv_istore_n (lv' := [(2, .int (0 : Int32)), (0, .ref a_p0), (1, .ref a_p1)]) hx hb dX4_copy_10 rfl hl (by decide) rfl (fun ls hl => ?_)
  exact (t_X4_copy_11 hC   fuel) p1_count p1_x p1_y p1_w (0 : Int32) hf _ _ hP hD hS _ (lv_sub hl [1, 2, 0] rfl)
theorem c_X4_copy (l : Launch) (D : va_G) (cI cJ cZ cQ : ClassId) (a_p1 a_p1_x a_p1_y a_p1_w a_p0 a_p0_x a_p0_y a_p0_w : Nat) (p1_count : Int32) (p0_count : Int32) (p0_x : Nat → Int32) (p1_x : Nat → Int32) (p0_y : Nat → Int32) (p1_y : Nat → Int32) (p0_w : Nat → Int32) (p1_w : Nat → Int32)   (res : R_X4_copy)  (hf : f_X4_copy_0 p0_count p0_x p0_y p0_w p1_count p1_x p1_y p1_w = some res) : MetV l D (tys4 cI cJ cZ cQ) yX4_copy wsX4_copy rm_X4_copy [.ref a_p0, .ref a_p1] (w_X4_copy cI cJ cZ cQ a_p1 a_p1_x a_p1_y a_p1_w a_p0 a_p0_x a_p0_y a_p0_w p1_count p0_count p0_x p1_x p0_y p1_y p0_w p1_w) (w_X4_copy cI cJ cZ cQ a_p1 a_p1_x a_p1_y a_p1_w a_p0 a_p0_x a_p0_y a_p0_w res.1 p0_count p0_x res.2.1 p0_y res.2.2.1 p0_w res.2.2.2) := by
  intro sz
  exact metW (own := RX4) (cc := cX4_copy) (nL := 3) (ret := none) (Qc := fun A => qV D (tys4 cI cJ cZ cQ) (w_X4_copy cI cJ cZ cQ a_p1 a_p1_x a_p1_y a_p1_w a_p0 a_p0_x a_p0_y a_p0_w res.1 p0_count p0_x res.2.1 p0_y res.2.2.1 p0_w res.2.2.2) A) (by decide) rfl rfl (Nat.le_of_ble_eq_true rfl) (fun p e s m args below meth c A hC hP hD hS ls hl => t_X4_copy_0 hC  p1_count p1_x p1_y p1_w hf _ _ hP hD hS _ (lv_sub hl [0, 1] rfl)) sz
theorem e_X4_copy : yX4_copy.cls ≠ "java/lang/invoke/MethodHandle" ∧ yX4_copy.cls ≠ "java/lang/invoke/VarHandle" ∧ (parseMethodDescriptor yX4_copy.desc).map (fun d => d.parameters.length) = some 2 := by decide +kernel
/-! X4_drop -/
theorem iw_X4_drop_4 : ∀ w ∈ wsX40, w ∈ wsX4_drop := fun _ h => List.mem_cons_of_mem _ (List.mem_append_right _ h)
def w_X4_drop (cI cJ cZ cQ : ClassId) (a_t a_t_x a_t_y a_t_w : Nat) (t_count : Int32) (t_x : Nat → Int32) (t_y : Nat → Int32) (t_w : Nat → Int32) : va_W := [(a_t, .inr (4, [.ref a_t_x, .ref a_t_y, .ref a_t_w, .int t_count])), (a_t_x, .inl (cI, 10, .inl t_x)), (a_t_y, .inl (cI, 10, .inl t_y)), (a_t_w, .inl (cI, 10, .inl t_w))]
abbrev rm_X4_drop : Room := { frames := 1, cells := 0, slots := 0, locals := 21 }
def S_X4_drop_13 (p : Program) (l : Launch) (e : Env) (s : State) (m : MethodId) (args : Array Value) (below : List Frame) (meth : Method) (c : Code) (A : Nat → Prop) (D : va_G) (cI cJ cZ cQ : ClassId) (a_t a_t_x a_t_y a_t_w : Nat)  (res : R_X4_drop) (k : Int32 → (Nat → Int32) → (Nat → Int32) → (Nat → Int32) → Int32 → Option R_X4_drop) : Prop := ∀ (t_count : Int32) (t_x : Nat → Int32) (t_y : Nat → Int32) (t_w : Nat → Int32) (x2 : Int32), k t_count t_x t_y t_w x2 = some res → ∀ (H : Heap) (locs : List Loc), va_P D vwCl (w_X4_drop cI cJ cZ cQ a_t a_t_x a_t_y a_t_w t_count t_x t_y t_w) H → va_D A (w_X4_drop cI cJ cZ cQ a_t a_t_x a_t_y a_t_w t_count t_x t_y t_w) → va_S A s.heap H locs → ∀ ls : Array Slot, lv_has ls 3 [(0, .ref a_t), (2, .int x2)] → W p l e (headSpec wsX4_drop rm_X4_drop).room s m args below meth c H locs 0 0 (MQ below (qV D (tys4 cI cJ cZ cQ) (w_X4_drop cI cJ cZ cQ a_t a_t_x a_t_y a_t_w res.1 res.2.1 res.2.2.1 res.2.2.2) A) args s 0 0 A) (F0 m 13 ls [])
def S_X4_drop_0 (p : Program) (l : Launch) (e : Env) (s : State) (m : MethodId) (args : Array Value) (below : List Frame) (meth : Method) (c : Code) (A : Nat → Prop) (D : va_G) (cI cJ cZ cQ : ClassId) (a_t a_t_x a_t_y a_t_w : Nat)  (res : R_X4_drop) (k : Int32 → (Nat → Int32) → (Nat → Int32) → (Nat → Int32) → Int32 → Option R_X4_drop) : Prop := ∀ (t_count : Int32) (t_x : Nat → Int32) (t_y : Nat → Int32) (t_w : Nat → Int32) (x1 : Int32), k t_count t_x t_y t_w x1 = some res → ∀ (H : Heap) (locs : List Loc), va_P D vwCl (w_X4_drop cI cJ cZ cQ a_t a_t_x a_t_y a_t_w t_count t_x t_y t_w) H → va_D A (w_X4_drop cI cJ cZ cQ a_t a_t_x a_t_y a_t_w t_count t_x t_y t_w) → va_S A s.heap H locs → ∀ ls : Array Slot, lv_has ls 3 [(0, .ref a_t), (1, .int x1)] → W p l e (headSpec wsX4_drop rm_X4_drop).room s m args below meth c H locs 0 0 (MQ below (qV D (tys4 cI cJ cZ cQ) (w_X4_drop cI cJ cZ cQ a_t a_t_x a_t_y a_t_w res.1 res.2.1 res.2.2.1 res.2.2.2) A) args s 0 0 A) (F0 m 0 ls [])
set_option maxHeartbeats 4000000 in
set_option maxRecDepth 100000 in
theorem i_X4_drop_13 {p : Program} {l : Launch} {e : Env} {s : State} {m : MethodId} {args : Array Value} {below : List Frame} {meth : Method} {c : Code} {A : Nat → Prop} {D : va_G} {cI cJ cZ cQ : ClassId} {a_t a_t_x a_t_y a_t_w : Nat}  {res : R_X4_drop}   {k13 : Int32 → (Nat → Int32) → (Nat → Int32) → (Nat → Int32) → Int32 → Option R_X4_drop} (hC : mcx RX4 cX4_drop none 3 wsX4_drop p s m args meth c A D (tys4 cI cJ cZ cQ))   (hk13 : S_X4_drop_13 p l e s m args below meth c A D cI cJ cZ cQ a_t a_t_x a_t_y a_t_w res k13) : S_X4_drop_13 p l e s m args below meth c A D cI cJ cZ cQ a_t a_t_x a_t_y a_t_w res (g_X4_drop_13   k13) := by
  intro t_count t_x t_y t_w x2 hf H locs hP hD hS ls hl
  obtain ⟨hx, hb, hr, hml, hown, hts, hlocks, hA, hK, hN⟩ := id hC
  unfold g_X4_drop_13 at hf
  refine lv_iload_n hx hb dX4_drop_13 rfl (lv_at hl 1 rfl) ?_
  refine lv_aload_n hx hb dX4_drop_14 rfl (lv_at hl 0 rfl) ?_
  refine va_get (D := D) (ci := 4) (v := .int t_count) (C := RX4) (T := TX4) (N := 4) hx hb hts iw_X4_drop_4 hown hK hP 0 rfl rfl 3 (by decide) (hts (.fieldLink RX4 21 "PowerDiagram$Sites" "count" "I") (List.mem_of_getElem? (i := 1) rfl)) (fun _ h9 => h9) rfl dX4_drop_15 ?_
  refine lv_icmp_ge (tgt := 69) hx hb dX4_drop_18 (by decide) (fun c1 => ?_) (fun c1 => ?_)
  · replace hf := brT c1 hf
    refine lv_aload_n hx hb dX4_drop_69 rfl (lv_at hl 0 rfl) ?_
    refine lv_dup hx hb dX4_drop_70 rfl ?_
    refine va_get (D := D) (ci := 4) (v := .int t_count) (C := RX4) (T := TX4) (N := 4) hx hb hts iw_X4_drop_4 hown hK hP 0 rfl rfl 3 (by decide) (hts (.fieldLink RX4 21 "PowerDiagram$Sites" "count" "I") (List.mem_of_getElem? (i := 1) rfl)) (fun _ h9 => h9) rfl dX4_drop_71 ?_
    refine lv_iconst (v := (1 : Int32)) hx hb dX4_drop_74 (by decide) ?_
    refine lv_isub hx hb dX4_drop_75 ?_
    refine lv_topi (fun v2 ev2 => ?_)
    replace hf := nm_of ev2 hf
    refine wrF (D := D) (ci := 4) (v := .int v2) (ty := .int) (C := RX4) (T := TX4) (N := 4) (WB := (w_X4_drop cI cJ cZ cQ a_t a_t_x a_t_y a_t_w v2 t_x t_y t_w)) hx hb hts iw_X4_drop_4 tyX4 tyX4_ok nmX4 hown hK hP hD hS 0 rfl rfl 3 (by decide) (hts (.fieldLink RX4 21 "PowerDiagram$Sites" "count" "I") (List.mem_of_getElem? (i := 1) rfl)) (fun _ h9 => h9) rfl rfl rfl rfl (Nat.le_of_ble_eq_true rfl) dX4_drop_76 rfl (fun H locs hP hD hS => ?_)
    obtain rfl := Option.some.inj hf
    exact endV hC hP hD hS dX4_drop_79
  · replace hf := brF c1 hf
    refine lv_aload_n hx hb dX4_drop_21 rfl (lv_at hl 0 rfl) ?_
    refine va_get (D := D) (ci := 4) (v := .ref a_t_x) (C := RX4) (T := TX4) (N := 4) hx hb hts iw_X4_drop_4 hown hK hP 0 rfl rfl 0 (by decide) (hts (.fieldLink RX4 9 "PowerDiagram$Sites" "x" "[I") (List.mem_of_getElem? (i := 2) rfl)) (fun _ h9 => h9) rfl dX4_drop_22 ?_
    refine lv_iload_n hx hb dX4_drop_25 rfl (lv_at hl 1 rfl) ?_
    refine lv_iconst (v := (1 : Int32)) hx hb dX4_drop_26 (by decide) ?_
    refine lv_isub hx hb dX4_drop_27 ?_
    refine lv_aload_n hx hb dX4_drop_28 rfl (lv_at hl 0 rfl) ?_
    refine va_get (D := D) (ci := 4) (v := .ref a_t_x) (C := RX4) (T := TX4) (N := 4) hx hb hts iw_X4_drop_4 hown hK hP 0 rfl rfl 0 (by decide) (hts (.fieldLink RX4 9 "PowerDiagram$Sites" "x" "[I") (List.mem_of_getElem? (i := 2) rfl)) (fun _ h9 => h9) rfl dX4_drop_29 ?_
    refine lv_iload_n hx hb dX4_drop_32 rfl (lv_at hl 1 rfl) ?_
    obtain ⟨h3, hf⟩ := gIx_of hf
    refine va_iald hx hb hK hP 1 0 rfl rfl h3 dX4_drop_33 ?_
    obtain ⟨h4, hf⟩ := gIx_of hf
    refine wrI (WB := (w_X4_drop cI cJ cZ cQ a_t a_t_x a_t_y a_t_w t_count (upd t_x (x2 - (1 : Int32)).toNatClampNeg (t_x x2.toNatClampNeg)) t_y t_w)) hx hb hK hP hD hS 1 0 rfl rfl h4 dX4_drop_34 rfl (fun H locs hP hD hS => ?_)
    refine lv_aload_n hx hb dX4_drop_35 rfl (lv_at hl 0 rfl) ?_
    refine va_get (D := D) (ci := 4) (v := .ref a_t_y) (C := RX4) (T := TX4) (N := 4) hx hb hts iw_X4_drop_4 hown hK hP 0 rfl rfl 1 (by decide) (hts (.fieldLink RX4 15 "PowerDiagram$Sites" "y" "[I") (List.mem_of_getElem? (i := 3) rfl)) (fun _ h9 => h9) rfl dX4_drop_36 ?_
    refine lv_iload_n hx hb dX4_drop_39 rfl (lv_at hl 1 rfl) ?_
    refine lv_iconst (v := (1 : Int32)) hx hb dX4_drop_40 (by decide) ?_
    refine lv_isub hx hb dX4_drop_41 ?_
    refine lv_aload_n hx hb dX4_drop_42 rfl (lv_at hl 0 rfl) ?_
    refine va_get (D := D) (ci := 4) (v := .ref a_t_y) (C := RX4) (T := TX4) (N := 4) hx hb hts iw_X4_drop_4 hown hK hP 0 rfl rfl 1 (by decide) (hts (.fieldLink RX4 15 "PowerDiagram$Sites" "y" "[I") (List.mem_of_getElem? (i := 3) rfl)) (fun _ h9 => h9) rfl dX4_drop_43 ?_
    refine lv_iload_n hx hb dX4_drop_46 rfl (lv_at hl 1 rfl) ?_
    refine va_iald hx hb hK hP 2 0 rfl rfl h3 dX4_drop_47 ?_
    refine wrI (WB := (w_X4_drop cI cJ cZ cQ a_t a_t_x a_t_y a_t_w t_count (upd t_x (x2 - (1 : Int32)).toNatClampNeg (t_x x2.toNatClampNeg)) (upd t_y (x2 - (1 : Int32)).toNatClampNeg (t_y x2.toNatClampNeg)) t_w)) hx hb hK hP hD hS 2 0 rfl rfl h4 dX4_drop_48 rfl (fun H locs hP hD hS => ?_)
    refine lv_aload_n hx hb dX4_drop_49 rfl (lv_at hl 0 rfl) ?_
    refine va_get (D := D) (ci := 4) (v := .ref a_t_w) (C := RX4) (T := TX4) (N := 4) hx hb hts iw_X4_drop_4 hown hK hP 0 rfl rfl 2 (by decide) (hts (.fieldLink RX4 18 "PowerDiagram$Sites" "w" "[I") (List.mem_of_getElem? (i := 4) rfl)) (fun _ h9 => h9) rfl dX4_drop_50 ?_
    refine lv_iload_n hx hb dX4_drop_53 rfl (lv_at hl 1 rfl) ?_
    refine lv_iconst (v := (1 : Int32)) hx hb dX4_drop_54 (by decide) ?_
    refine lv_isub hx hb dX4_drop_55 ?_
    refine lv_aload_n hx hb dX4_drop_56 rfl (lv_at hl 0 rfl) ?_
    refine va_get (D := D) (ci := 4) (v := .ref a_t_w) (C := RX4) (T := TX4) (N := 4) hx hb hts iw_X4_drop_4 hown hK hP 0 rfl rfl 2 (by decide) (hts (.fieldLink RX4 18 "PowerDiagram$Sites" "w" "[I") (List.mem_of_getElem? (i := 4) rfl)) (fun _ h9 => h9) rfl dX4_drop_57 ?_
    refine lv_iload_n hx hb dX4_drop_60 rfl (lv_at hl 1 rfl) ?_
    refine va_iald hx hb hK hP 3 0 rfl rfl h3 dX4_drop_61 ?_
    refine wrI (WB := (w_X4_drop cI cJ cZ cQ a_t a_t_x a_t_y a_t_w t_count (upd t_x (x2 - (1 : Int32)).toNatClampNeg (t_x x2.toNatClampNeg)) (upd t_y (x2 - (1 : Int32)).toNatClampNeg (t_y x2.toNatClampNeg)) (upd t_w (x2 - (1 : Int32)).toNatClampNeg (t_w x2.toNatClampNeg)))) hx hb hK hP hD hS 3 0 rfl rfl h4 dX4_drop_62 rfl (fun H locs hP hD hS => ?_)
    refine lv_iinc (v := (x2 + (1 : Int32))) (lv' := [(2, .int (x2 + (1 : Int32))), (0, .ref a_t)]) hx hb dX4_drop_63 hl (k := 1) rfl rfl (by decide) rfl (fun ls hl => ?_)
    refine lv_goto (tgt := 13) hx hb dX4_drop_66 (by decide) ?_
    exact (hk13) t_count (upd t_x (x2 - (1 : Int32)).toNatClampNeg (t_x x2.toNatClampNeg)) (upd t_y (x2 - (1 : Int32)).toNatClampNeg (t_y x2.toNatClampNeg)) (upd t_w (x2 - (1 : Int32)).toNatClampNeg (t_w x2.toNatClampNeg)) (x2 + (1 : Int32)) hf _ _ hP hD hS _ (lv_sub hl [1, 0] rfl)
theorem t_X4_drop_13 {p : Program} {l : Launch} {e : Env} {s : State} {m : MethodId} {args : Array Value} {below : List Frame} {meth : Method} {c : Code} {A : Nat → Prop} {D : va_G} {cI cJ cZ cQ : ClassId} {a_t a_t_x a_t_y a_t_w : Nat}  {res : R_X4_drop}   (hC : mcx RX4 cX4_drop none 3 wsX4_drop p s m args meth c A D (tys4 cI cJ cZ cQ))   (n : Nat) : S_X4_drop_13 p l e s m args below meth c A D cI cJ cZ cQ a_t a_t_x a_t_y a_t_w res (f_X4_drop_13   n) := by
  induction n with
  | zero =>
    intro t_count t_x t_y t_w x2 hf
    exact nomatch (show (none : Option R_X4_drop) = some res from hf)
  | succ n ih => exact i_X4_drop_13 hC   ih
set_option maxHeartbeats 4000000 in
set_option maxRecDepth 100000 in
theorem t_X4_drop_0 {p : Program} {l : Launch} {e : Env} {s : State} {m : MethodId} {args : Array Value} {below : List Frame} {meth : Method} {c : Code} {A : Nat → Prop} {D : va_G} {cI cJ cZ cQ : ClassId} {a_t a_t_x a_t_y a_t_w : Nat}  {res : R_X4_drop}   (hC : mcx RX4 cX4_drop none 3 wsX4_drop p s m args meth c A D (tys4 cI cJ cZ cQ))   : S_X4_drop_0 p l e s m args below meth c A D cI cJ cZ cQ a_t a_t_x a_t_y a_t_w res (f_X4_drop_0  ) := by
  intro t_count t_x t_y t_w x1 hf H locs hP hD hS ls hl
  obtain ⟨hx, hb, hr, hml, hown, hts, hlocks, hA, hK, hN⟩ := id hC
  unfold f_X4_drop_0 at hf
  refine lv_aload_n hx hb dX4_drop_0 rfl (lv_at hl 0 rfl) ?_
  refine lv_iload_n hx hb dX4_drop_1 rfl (lv_at hl 1 rfl) ?_
  obtain ⟨r1, hq2, hf⟩ := bnd_of hf
  refine jnI (WB := (w_X4_drop cI cJ cZ cQ a_t a_t_x a_t_y a_t_w t_count t_x t_y t_w)) (rnV (As := [.int x1]) (rest := []) (ci := 4) (q0 := 0) (W0 := (w_X4_has cI cJ cZ cQ a_t a_t_x a_t_y a_t_w t_count)) hx hb hml hown hts hK hN (c_X4_has l D cI cJ cZ cQ a_t a_t_x a_t_y a_t_w t_count x1 r1 hq2 H.size) (cwV 1 hts gX4_drop_X4_has rfl rfl rfl e_X4_has ⟨Nat.le_of_ble_eq_true rfl, Nat.le_of_ble_eq_true rfl⟩) hP hD [0] rfl (by decide) rfl rfl rfl rfl hl (Nat.le_of_ble_eq_true rfl) dX4_drop_2 ⟨Nat.zero_le _, Nat.zero_le _⟩ rfl) hP hD hS hA [0] [1, 2, 3] [3, 0, 1, 2] rfl rfl (by decide) (by decide) rfl (by decide) (fun H locs hP hD hS => ?_)
  refine lv_if_ne (tgt := 9) hx hb dX4_drop_5 (by decide) (fun c3 => ?_) (fun c3 => ?_)
  · replace hf := brF c3 hf
    refine lv_iload_n hx hb dX4_drop_9 rfl (lv_at hl 1 rfl) ?_
    refine lv_iconst (v := (1 : Int32)) hx hb dX4_drop_10 (by decide) ?_
    refine lv_iadd hx hb dX4_drop_11 ?_
    refine lv_topi (fun v4 ev4 => ?_)
    replace hf := nm_of ev4 hf
    refine lv_istore_n (lv' := [(2, .int v4), (0, .ref a_t), (1, .int x1)]) hx hb dX4_drop_12 rfl hl (by decide) rfl (fun ls hl => ?_)
    exact (t_X4_drop_13 hC   fuel) t_count t_x t_y t_w v4 hf _ _ hP hD hS _ (lv_sub hl [1, 0] rfl)
  · replace hf := brT c3 hf
    obtain rfl := Option.some.inj hf
    exact endV hC hP hD hS dX4_drop_8
theorem c_X4_drop (l : Launch) (D : va_G) (cI cJ cZ cQ : ClassId) (a_t a_t_x a_t_y a_t_w : Nat) (t_count : Int32) (t_x : Nat → Int32) (t_y : Nat → Int32) (t_w : Nat → Int32) (p0 : Int32)  (res : R_X4_drop)  (hf : f_X4_drop_0  t_count t_x t_y t_w p0 = some res) : MetV l D (tys4 cI cJ cZ cQ) yX4_drop wsX4_drop rm_X4_drop [.ref a_t, .int p0] (w_X4_drop cI cJ cZ cQ a_t a_t_x a_t_y a_t_w t_count t_x t_y t_w) (w_X4_drop cI cJ cZ cQ a_t a_t_x a_t_y a_t_w res.1 res.2.1 res.2.2.1 res.2.2.2) := by
  intro sz
  exact metW (own := RX4) (cc := cX4_drop) (nL := 3) (ret := none) (Qc := fun A => qV D (tys4 cI cJ cZ cQ) (w_X4_drop cI cJ cZ cQ a_t a_t_x a_t_y a_t_w res.1 res.2.1 res.2.2.1 res.2.2.2) A) (by decide) rfl rfl (Nat.le_of_ble_eq_true rfl) (fun p e s m args below meth c A hC hP hD hS ls hl => t_X4_drop_0 hC  t_count t_x t_y t_w p0 hf _ _ hP hD hS _ (lv_sub hl [0, 1] rfl)) sz
theorem e_X4_drop : yX4_drop.cls = RX4 ∧ yX4_drop.cls ≠ "java/lang/invoke/MethodHandle" ∧ yX4_drop.cls ≠ "java/lang/invoke/VarHandle" ∧ (parseMethodDescriptor yX4_drop.desc).map (fun d => d.parameters.length) = some 1 := by decide +kernel
/-! X4_squareTo -/
theorem iw_X4_squareTo_4 : ∀ w ∈ wsX40, w ∈ wsX4_squareTo := fun _ h => List.mem_cons_of_mem _ (List.mem_append_right _ h)
def w_X4_squareTo (cI cJ cZ cQ : ClassId) (a_t a_t_x a_t_y a_t_w : Nat) (t_count : Int32) (t_x : Nat → Int32) (t_y : Nat → Int32) : va_W := [(a_t, .inr (4, [.ref a_t_x, .ref a_t_y, .ref a_t_w, .int t_count])), (a_t_x, .inl (cI, 10, .inl t_x)), (a_t_y, .inl (cI, 10, .inl t_y))]
abbrev rm_X4_squareTo : Room := { frames := 0, cells := 0, slots := 0, locals := 0 }
def S_X4_squareTo_0 (p : Program) (l : Launch) (e : Env) (s : State) (m : MethodId) (args : Array Value) (below : List Frame) (meth : Method) (c : Code) (A : Nat → Prop) (D : va_G) (cI cJ cZ cQ : ClassId) (a_t a_t_x a_t_y a_t_w : Nat) (t_count : Int32) (t_x : Nat → Int32) (t_y : Nat → Int32) (res : R_X4_squareTo) (k : Int32 → Int32 → Int32 → Option R_X4_squareTo) : Prop := ∀ (x1 : Int32) (x2 : Int32) (x3 : Int32), k x1 x2 x3 = some res → ∀ (H : Heap) (locs : List Loc), va_P D vwCl (w_X4_squareTo cI cJ cZ cQ a_t a_t_x a_t_y a_t_w t_count t_x t_y) H → va_D A (w_X4_squareTo cI cJ cZ cQ a_t a_t_x a_t_y a_t_w t_count t_x t_y) → va_S A s.heap H locs → ∀ ls : Array Slot, lv_has ls 6 [(0, .ref a_t), (1, .int x1), (2, .int x2), (3, .int x3)] → W p l e (headSpec wsX4_squareTo rm_X4_squareTo).room s m args below meth c H locs 0 0 (MQ below (qI D (tys4 cI cJ cZ cQ) (w_X4_squareTo cI cJ cZ cQ a_t a_t_x a_t_y a_t_w t_count t_x t_y) A res) args s 0 0 A) (F0 m 0 ls [])
set_option maxHeartbeats 4000000 in
set_option maxRecDepth 100000 in
theorem t_X4_squareTo_0 {p : Program} {l : Launch} {e : Env} {s : State} {m : MethodId} {args : Array Value} {below : List Frame} {meth : Method} {c : Code} {A : Nat → Prop} {D : va_G} {cI cJ cZ cQ : ClassId} {a_t a_t_x a_t_y a_t_w : Nat} {t_count : Int32} {t_x : Nat → Int32} {t_y : Nat → Int32} {res : R_X4_squareTo}   (hC : mcx RX4 cX4_squareTo (some .int) 6 wsX4_squareTo p s m args meth c A D (tys4 cI cJ cZ cQ))   : S_X4_squareTo_0 p l e s m args below meth c A D cI cJ cZ cQ a_t a_t_x a_t_y a_t_w t_count t_x t_y res (f_X4_squareTo_0  t_x t_y) := by
  intro x1 x2 x3 hf H locs hP hD hS ls hl
  obtain ⟨hx, hb, hr, hml, hown, hts, hlocks, hA, hK, hN⟩ := id hC
  unfold f_X4_squareTo_0 at hf
  refine lv_iload_n hx hb dX4_squareTo_0 rfl (lv_at hl 2 rfl) ?_
  refine lv_aload_n hx hb dX4_squareTo_1 rfl (lv_at hl 0 rfl) ?_
  refine va_get (D := D) (ci := 4) (v := .ref a_t_x) (C := RX4) (T := TX4) (N := 4) hx hb hts iw_X4_squareTo_4 hown hK hP 0 rfl rfl 0 (by decide) (hts (.fieldLink RX4 9 "PowerDiagram$Sites" "x" "[I") (List.mem_of_getElem? (i := 1) rfl)) (fun _ h9 => h9) rfl dX4_squareTo_2 ?_
  refine lv_iload_n hx hb dX4_squareTo_5 rfl (lv_at hl 1 rfl) ?_
  obtain ⟨h1, hf⟩ := gIx_of hf
  refine va_iald hx hb hK hP 1 0 rfl rfl h1 dX4_squareTo_6 ?_
  refine lv_isub hx hb dX4_squareTo_7 ?_
  refine lv_topi (fun v2 ev2 => ?_)
  replace hf := nm_of ev2 hf
  refine lv_istore (lv' := [(4, .int v2), (0, .ref a_t), (1, .int x1), (2, .int x2), (3, .int x3)]) hx hb dX4_squareTo_8 hl (by decide) rfl (fun ls hl => ?_)
  refine lv_iload_n hx hb dX4_squareTo_10 rfl (lv_at hl 4 rfl) ?_
  refine lv_aload_n hx hb dX4_squareTo_11 rfl (lv_at hl 1 rfl) ?_
  refine va_get (D := D) (ci := 4) (v := .ref a_t_y) (C := RX4) (T := TX4) (N := 4) hx hb hts iw_X4_squareTo_4 hown hK hP 0 rfl rfl 1 (by decide) (hts (.fieldLink RX4 15 "PowerDiagram$Sites" "y" "[I") (List.mem_of_getElem? (i := 2) rfl)) (fun _ h9 => h9) rfl dX4_squareTo_12 ?_
  refine lv_iload_n hx hb dX4_squareTo_15 rfl (lv_at hl 2 rfl) ?_
  refine va_iald hx hb hK hP 2 0 rfl rfl h1 dX4_squareTo_16 ?_
  refine lv_isub hx hb dX4_squareTo_17 ?_
  refine lv_topi (fun v3 ev3 => ?_)
  replace hf := nm_of ev3 hf
  refine lv_istore (lv' := [(5, .int v3), (4, .int v2), (0, .ref a_t), (1, .int x1), (2, .int x2), (3, .int x3)]) hx hb dX4_squareTo_18 hl (by decide) rfl (fun ls hl => ?_)
  refine lv_iload hx hb dX4_squareTo_20 (lv_at hl 1 rfl) ?_
  refine lv_iload hx hb dX4_squareTo_22 (lv_at hl 1 rfl) ?_
  refine lv_imul hx hb dX4_squareTo_24 ?_
  refine lv_iload hx hb dX4_squareTo_25 (lv_at hl 0 rfl) ?_
  refine lv_iload hx hb dX4_squareTo_27 (lv_at hl 0 rfl) ?_
  refine lv_imul hx hb dX4_squareTo_29 ?_
  refine lv_iadd hx hb dX4_squareTo_30 ?_
  obtain rfl := Option.some.inj hf
  exact endI (ty := .int) hC (nzI _) rfl hP hD hS dX4_squareTo_31
theorem c_X4_squareTo (l : Launch) (D : va_G) (cI cJ cZ cQ : ClassId) (a_t a_t_x a_t_y a_t_w : Nat) (t_count : Int32) (t_x : Nat → Int32) (t_y : Nat → Int32) (p0 : Int32) (p1 : Int32) (p2 : Int32)  (res : R_X4_squareTo)  (hf : f_X4_squareTo_0 t_x t_y p0 p1 p2 = some res) : MetI l D (tys4 cI cJ cZ cQ) yX4_squareTo wsX4_squareTo rm_X4_squareTo [.ref a_t, .int p0, .int p1, .int p2] (w_X4_squareTo cI cJ cZ cQ a_t a_t_x a_t_y a_t_w t_count t_x t_y) (w_X4_squareTo cI cJ cZ cQ a_t a_t_x a_t_y a_t_w t_count t_x t_y) res := by
  intro sz
  exact metW (own := RX4) (cc := cX4_squareTo) (nL := 6) (ret := (some .int)) (Qc := fun A => qI D (tys4 cI cJ cZ cQ) (w_X4_squareTo cI cJ cZ cQ a_t a_t_x a_t_y a_t_w t_count t_x t_y) A res) (by decide) rfl rfl (Nat.le_of_ble_eq_true rfl) (fun p e s m args below meth c A hC hP hD hS ls hl => t_X4_squareTo_0 hC  p0 p1 p2 hf _ _ hP hD hS _ (lv_sub hl [0, 1, 2, 3] rfl)) sz
theorem e_X4_squareTo : yX4_squareTo.cls = RX4 ∧ yX4_squareTo.cls ≠ "java/lang/invoke/MethodHandle" ∧ yX4_squareTo.cls ≠ "java/lang/invoke/VarHandle" ∧ (parseMethodDescriptor yX4_squareTo.desc).map (fun d => d.parameters.length) = some 3 := by decide +kernel
/-! X4_power -/
theorem iw_X4_power_4 : ∀ w ∈ wsX40, w ∈ wsX4_power := fun _ h => List.mem_cons_of_mem _ (List.mem_append_right _ h)
def w_X4_power (cI cJ cZ cQ : ClassId) (a_t a_t_x a_t_y a_t_w : Nat) (t_count : Int32) (t_x : Nat → Int32) (t_y : Nat → Int32) (t_w : Nat → Int32) : va_W := [(a_t, .inr (4, [.ref a_t_x, .ref a_t_y, .ref a_t_w, .int t_count])), (a_t_x, .inl (cI, 10, .inl t_x)), (a_t_y, .inl (cI, 10, .inl t_y)), (a_t_w, .inl (cI, 10, .inl t_w))]
abbrev rm_X4_power : Room := { frames := 1, cells := 0, slots := 0, locals := 25 }
def S_X4_power_0 (p : Program) (l : Launch) (e : Env) (s : State) (m : MethodId) (args : Array Value) (below : List Frame) (meth : Method) (c : Code) (A : Nat → Prop) (D : va_G) (cI cJ cZ cQ : ClassId) (a_t a_t_x a_t_y a_t_w : Nat) (t_count : Int32) (t_x : Nat → Int32) (t_y : Nat → Int32) (t_w : Nat → Int32) (res : R_X4_power) (k : Int32 → Int32 → Int32 → Option R_X4_power) : Prop := ∀ (x1 : Int32) (x2 : Int32) (x3 : Int32), k x1 x2 x3 = some res → ∀ (H : Heap) (locs : List Loc), va_P D vwCl (w_X4_power cI cJ cZ cQ a_t a_t_x a_t_y a_t_w t_count t_x t_y t_w) H → va_D A (w_X4_power cI cJ cZ cQ a_t a_t_x a_t_y a_t_w t_count t_x t_y t_w) → va_S A s.heap H locs → ∀ ls : Array Slot, lv_has ls 4 [(0, .ref a_t), (1, .int x1), (2, .int x2), (3, .int x3)] → W p l e (headSpec wsX4_power rm_X4_power).room s m args below meth c H locs 0 0 (MQ below (qI D (tys4 cI cJ cZ cQ) (w_X4_power cI cJ cZ cQ a_t a_t_x a_t_y a_t_w t_count t_x t_y t_w) A res) args s 0 0 A) (F0 m 0 ls [])
set_option maxHeartbeats 4000000 in
set_option maxRecDepth 100000 in
theorem t_X4_power_0 {p : Program} {l : Launch} {e : Env} {s : State} {m : MethodId} {args : Array Value} {below : List Frame} {meth : Method} {c : Code} {A : Nat → Prop} {D : va_G} {cI cJ cZ cQ : ClassId} {a_t a_t_x a_t_y a_t_w : Nat} {t_count : Int32} {t_x : Nat → Int32} {t_y : Nat → Int32} {t_w : Nat → Int32} {res : R_X4_power}   (hC : mcx RX4 cX4_power (some .int) 4 wsX4_power p s m args meth c A D (tys4 cI cJ cZ cQ))   : S_X4_power_0 p l e s m args below meth c A D cI cJ cZ cQ a_t a_t_x a_t_y a_t_w t_count t_x t_y t_w res (f_X4_power_0  t_x t_y t_w) := by
  intro x1 x2 x3 hf H locs hP hD hS ls hl
  obtain ⟨hx, hb, hr, hml, hown, hts, hlocks, hA, hK, hN⟩ := id hC
  unfold f_X4_power_0 at hf
  refine lv_aload_n hx hb dX4_power_0 rfl (lv_at hl 0 rfl) ?_
  refine lv_iload_n hx hb dX4_power_1 rfl (lv_at hl 1 rfl) ?_
  refine lv_iload_n hx hb dX4_power_2 rfl (lv_at hl 2 rfl) ?_
  refine lv_iload_n hx hb dX4_power_3 rfl (lv_at hl 3 rfl) ?_
  obtain ⟨r1, hq2, hf⟩ := bnd_of hf
  refine jnI (WB := (w_X4_power cI cJ cZ cQ a_t a_t_x a_t_y a_t_w t_count t_x t_y t_w)) (rnV (As := [.int x1, .int x2, .int x3]) (rest := []) (ci := 4) (q0 := 0) (W0 := (w_X4_squareTo cI cJ cZ cQ a_t a_t_x a_t_y a_t_w t_count t_x t_y)) hx hb hml hown hts hK hN (c_X4_squareTo l D cI cJ cZ cQ a_t a_t_x a_t_y a_t_w t_count t_x t_y x1 x2 x3 r1 hq2 H.size) (cwV 3 hts gX4_power_X4_squareTo rfl rfl rfl e_X4_squareTo ⟨Nat.le_of_ble_eq_true rfl, Nat.le_of_ble_eq_true rfl⟩) hP hD [0, 1, 2] rfl (by decide) rfl rfl rfl rfl hl (Nat.le_of_ble_eq_true rfl) dX4_power_4 ⟨Nat.zero_le _, Nat.zero_le _⟩ rfl) hP hD hS hA [0, 1, 2] [3] [1, 2, 3, 0] rfl rfl (by decide) (by decide) rfl (by decide) (fun H locs hP hD hS => ?_)
  refine lv_aload_n hx hb dX4_power_7 rfl (lv_at hl 0 rfl) ?_
  refine va_get (D := D) (ci := 4) (v := .ref a_t_w) (C := RX4) (T := TX4) (N := 4) hx hb hts iw_X4_power_4 hown hK hP 0 rfl rfl 2 (by decide) (hts (.fieldLink RX4 18 "PowerDiagram$Sites" "w" "[I") (List.mem_of_getElem? (i := 1) rfl)) (fun _ h9 => h9) rfl dX4_power_8 ?_
  refine lv_iload_n hx hb dX4_power_11 rfl (lv_at hl 1 rfl) ?_
  obtain ⟨h3, hf⟩ := gIx_of hf
  refine va_iald hx hb hK hP 3 0 rfl rfl h3 dX4_power_12 ?_
  refine lv_isub hx hb dX4_power_13 ?_
  obtain rfl := Option.some.inj hf
  exact endI (ty := .int) hC (nzI _) rfl hP hD hS dX4_power_14
theorem c_X4_power (l : Launch) (D : va_G) (cI cJ cZ cQ : ClassId) (a_t a_t_x a_t_y a_t_w : Nat) (t_count : Int32) (t_x : Nat → Int32) (t_y : Nat → Int32) (t_w : Nat → Int32) (p0 : Int32) (p1 : Int32) (p2 : Int32)  (res : R_X4_power)  (hf : f_X4_power_0 t_x t_y t_w p0 p1 p2 = some res) : MetI l D (tys4 cI cJ cZ cQ) yX4_power wsX4_power rm_X4_power [.ref a_t, .int p0, .int p1, .int p2] (w_X4_power cI cJ cZ cQ a_t a_t_x a_t_y a_t_w t_count t_x t_y t_w) (w_X4_power cI cJ cZ cQ a_t a_t_x a_t_y a_t_w t_count t_x t_y t_w) res := by
  intro sz
  exact metW (own := RX4) (cc := cX4_power) (nL := 4) (ret := (some .int)) (Qc := fun A => qI D (tys4 cI cJ cZ cQ) (w_X4_power cI cJ cZ cQ a_t a_t_x a_t_y a_t_w t_count t_x t_y t_w) A res) (by decide) rfl rfl (Nat.le_of_ble_eq_true rfl) (fun p e s m args below meth c A hC hP hD hS ls hl => t_X4_power_0 hC  p0 p1 p2 hf _ _ hP hD hS _ (lv_sub hl [0, 1, 2, 3] rfl)) sz
theorem e_X4_power : yX4_power.cls = RX4 ∧ yX4_power.cls ≠ "java/lang/invoke/MethodHandle" ∧ yX4_power.cls ≠ "java/lang/invoke/VarHandle" ∧ (parseMethodDescriptor yX4_power.desc).map (fun d => d.parameters.length) = some 3 := by decide +kernel
/-! X4_ownerWithout -/
theorem iw_X4_ownerWithout_4 : ∀ w ∈ wsX40, w ∈ wsX4_ownerWithout := fun _ h => List.mem_cons_of_mem _ (List.mem_append_right _ h)
def w_X4_ownerWithout (cI cJ cZ cQ : ClassId) (a_t a_t_x a_t_y a_t_w : Nat) (t_count : Int32) (t_x : Nat → Int32) (t_y : Nat → Int32) (t_w : Nat → Int32) : va_W := [(a_t, .inr (4, [.ref a_t_x, .ref a_t_y, .ref a_t_w, .int t_count])), (a_t_x, .inl (cI, 10, .inl t_x)), (a_t_y, .inl (cI, 10, .inl t_y)), (a_t_w, .inl (cI, 10, .inl t_w))]
abbrev rm_X4_ownerWithout : Room := { frames := 2, cells := 0, slots := 0, locals := 48 }
def S_X4_ownerWithout_9 (p : Program) (l : Launch) (e : Env) (s : State) (m : MethodId) (args : Array Value) (below : List Frame) (meth : Method) (c : Code) (A : Nat → Prop) (D : va_G) (cI cJ cZ cQ : ClassId) (a_t a_t_x a_t_y a_t_w : Nat) (t_count : Int32) (t_x : Nat → Int32) (t_y : Nat → Int32) (t_w : Nat → Int32) (res : R_X4_ownerWithout) (k : Int32 → Int32 → Int32 → Int32 → Int32 → Int32 → Option R_X4_ownerWithout) : Prop := ∀ (x1 : Int32) (x2 : Int32) (x3 : Int32) (x4 : Int32) (x5 : Int32) (x6 : Int32), k x1 x2 x3 x4 x5 x6 = some res → ∀ (H : Heap) (locs : List Loc), va_P D vwCl (w_X4_ownerWithout cI cJ cZ cQ a_t a_t_x a_t_y a_t_w t_count t_x t_y t_w) H → va_D A (w_X4_ownerWithout cI cJ cZ cQ a_t a_t_x a_t_y a_t_w t_count t_x t_y t_w) → va_S A s.heap H locs → ∀ ls : Array Slot, lv_has ls 8 [(0, .ref a_t), (1, .int x1), (2, .int x2), (3, .int x3), (4, .int x4), (5, .int x5), (6, .int x6)] → W p l e (headSpec wsX4_ownerWithout rm_X4_ownerWithout).room s m args below meth c H locs 0 0 (MQ below (qI D (tys4 cI cJ cZ cQ) (w_X4_ownerWithout cI cJ cZ cQ a_t a_t_x a_t_y a_t_w t_count t_x t_y t_w) A res) args s 0 0 A) (F0 m 9 ls [])
def S_X4_ownerWithout_0 (p : Program) (l : Launch) (e : Env) (s : State) (m : MethodId) (args : Array Value) (below : List Frame) (meth : Method) (c : Code) (A : Nat → Prop) (D : va_G) (cI cJ cZ cQ : ClassId) (a_t a_t_x a_t_y a_t_w : Nat) (t_count : Int32) (t_x : Nat → Int32) (t_y : Nat → Int32) (t_w : Nat → Int32) (res : R_X4_ownerWithout) (k : Int32 → Int32 → Int32 → Option R_X4_ownerWithout) : Prop := ∀ (x1 : Int32) (x2 : Int32) (x3 : Int32), k x1 x2 x3 = some res → ∀ (H : Heap) (locs : List Loc), va_P D vwCl (w_X4_ownerWithout cI cJ cZ cQ a_t a_t_x a_t_y a_t_w t_count t_x t_y t_w) H → va_D A (w_X4_ownerWithout cI cJ cZ cQ a_t a_t_x a_t_y a_t_w t_count t_x t_y t_w) → va_S A s.heap H locs → ∀ ls : Array Slot, lv_has ls 8 [(0, .ref a_t), (1, .int x1), (2, .int x2), (3, .int x3)] → W p l e (headSpec wsX4_ownerWithout rm_X4_ownerWithout).room s m args below meth c H locs 0 0 (MQ below (qI D (tys4 cI cJ cZ cQ) (w_X4_ownerWithout cI cJ cZ cQ a_t a_t_x a_t_y a_t_w t_count t_x t_y t_w) A res) args s 0 0 A) (F0 m 0 ls [])
set_option maxHeartbeats 4000000 in
set_option maxRecDepth 100000 in
theorem i_X4_ownerWithout_9 {p : Program} {l : Launch} {e : Env} {s : State} {m : MethodId} {args : Array Value} {below : List Frame} {meth : Method} {c : Code} {A : Nat → Prop} {D : va_G} {cI cJ cZ cQ : ClassId} {a_t a_t_x a_t_y a_t_w : Nat} {t_count : Int32} {t_x : Nat → Int32} {t_y : Nat → Int32} {t_w : Nat → Int32} {res : R_X4_ownerWithout}   {k9 : Int32 → Int32 → Int32 → Int32 → Int32 → Int32 → Option R_X4_ownerWithout} (hC : mcx RX4 cX4_ownerWithout (some .int) 8 wsX4_ownerWithout p s m args meth c A D (tys4 cI cJ cZ cQ))   (hk9 : S_X4_ownerWithout_9 p l e s m args below meth c A D cI cJ cZ cQ a_t a_t_x a_t_y a_t_w t_count t_x t_y t_w res k9) : S_X4_ownerWithout_9 p l e s m args below meth c A D cI cJ cZ cQ a_t a_t_x a_t_y a_t_w t_count t_x t_y t_w res (g_X4_ownerWithout_9  t_count t_x t_y t_w k9) := by
  intro x1 x2 x3 x4 x5 x6 hf H locs hP hD hS ls hl
  obtain ⟨hx, hb, hr, hml, hown, hts, hlocks, hA, hK, hN⟩ := id hC
  unfold g_X4_ownerWithout_9 at hf
  refine lv_iload hx hb dX4_ownerWithout_9 (lv_at hl 6 rfl) ?_
  refine lv_aload_n hx hb dX4_ownerWithout_11 rfl (lv_at hl 0 rfl) ?_
  refine va_get (D := D) (ci := 4) (v := .int t_count) (C := RX4) (T := TX4) (N := 4) hx hb hts iw_X4_ownerWithout_4 hown hK hP 0 rfl rfl 3 (by decide) (hts (.fieldLink RX4 21 "PowerDiagram$Sites" "count" "I") (List.mem_of_getElem? (i := 1) rfl)) (fun _ h9 => h9) rfl dX4_ownerWithout_12 ?_
  refine lv_icmp_ge (tgt := 64) hx hb dX4_ownerWithout_15 (by decide) (fun c1 => ?_) (fun c1 => ?_)
  · replace hf := brT c1 hf
    refine lv_iload hx hb dX4_ownerWithout_64 (lv_at hl 4 rfl) ?_
    obtain rfl := Option.some.inj hf
    exact endI (ty := .int) hC (nzI _) rfl hP hD hS dX4_ownerWithout_66
  · replace hf := brF c1 hf
    refine lv_iload hx hb dX4_ownerWithout_18 (lv_at hl 6 rfl) ?_
    refine lv_iload_n hx hb dX4_ownerWithout_20 rfl (lv_at hl 1 rfl) ?_
    refine lv_icmp_ne (tgt := 27) hx hb dX4_ownerWithout_21 (by decide) (fun c2 => ?_) (fun c2 => ?_)
    · replace hf := brF c2 hf
      refine lv_aload_n hx hb dX4_ownerWithout_27 rfl (lv_at hl 0 rfl) ?_
      refine lv_iload hx hb dX4_ownerWithout_28 (lv_at hl 6 rfl) ?_
      refine lv_iload_n hx hb dX4_ownerWithout_30 rfl (lv_at hl 2 rfl) ?_
      refine lv_iload_n hx hb dX4_ownerWithout_31 rfl (lv_at hl 3 rfl) ?_
      obtain ⟨r3, hq4, hf⟩ := bnd_of hf
      refine jnI (WB := (w_X4_ownerWithout cI cJ cZ cQ a_t a_t_x a_t_y a_t_w t_count t_x t_y t_w)) (rnV (As := [.int x6, .int x2, .int x3]) (rest := []) (ci := 4) (q0 := 0) (W0 := (w_X4_power cI cJ cZ cQ a_t a_t_x a_t_y a_t_w t_count t_x t_y t_w)) hx hb hml hown hts hK hN (c_X4_power l D cI cJ cZ cQ a_t a_t_x a_t_y a_t_w t_count t_x t_y t_w x6 x2 x3 r3 hq4 H.size) (cwV 3 hts gX4_ownerWithout_X4_power rfl rfl rfl e_X4_power ⟨Nat.le_of_ble_eq_true rfl, Nat.le_of_ble_eq_true rfl⟩) hP hD [0, 1, 2, 3] rfl (by decide) rfl rfl rfl rfl hl (Nat.le_of_ble_eq_true rfl) dX4_ownerWithout_32 ⟨Nat.zero_le _, Nat.zero_le _⟩ rfl) hP hD hS hA [0, 1, 2, 3] [] [0, 1, 2, 3] rfl rfl (by decide) (by decide) rfl (by decide) (fun H locs hP hD hS => ?_)
      refine lv_istore (lv' := [(7, .int r3), (0, .ref a_t), (1, .int x1), (2, .int x2), (3, .int x3), (4, .int x4), (5, .int x5), (6, .int x6)]) hx hb dX4_ownerWithout_35 hl (by decide) rfl (fun ls hl => ?_)
      refine lv_iload hx hb dX4_ownerWithout_37 (lv_at hl 5 rfl) ?_
      refine lv_iconst (v := (-1 : Int32)) hx hb dX4_ownerWithout_39 (by decide) ?_
      refine lv_icmp_eq (tgt := 50) hx hb dX4_ownerWithout_40 (by decide) (fun c5 => ?_) (fun c5 => ?_)
      · replace hf := brT c5 hf
        refine lv_iload hx hb dX4_ownerWithout_50 (lv_at hl 7 rfl) ?_
        refine lv_istore (lv' := [(4, .int x6), (7, .int r3), (0, .ref a_t), (1, .int x1), (2, .int x2), (3, .int x3), (5, .int x5), (6, .int x6)]) hx hb dX4_ownerWithout_52 hl (by decide) rfl (fun ls hl => ?_)
        refine lv_iload hx hb dX4_ownerWithout_54 (lv_at hl 1 rfl) ?_
        refine lv_istore (lv' := [(5, .int r3), (4, .int x6), (7, .int r3), (0, .ref a_t), (1, .int x1), (2, .int x2), (3, .int x3), (6, .int x6)]) hx hb dX4_ownerWithout_56 hl (by decide) rfl (fun ls hl => ?_)
        refine lv_iinc (v := (x6 + (1 : Int32))) (lv' := [(6, .int (x6 + (1 : Int32))), (5, .int r3), (4, .int x6), (7, .int r3), (0, .ref a_t), (1, .int x1), (2, .int x2), (3, .int x3)]) hx hb dX4_ownerWithout_58 hl (k := 7) rfl rfl (by decide) rfl (fun ls hl => ?_)
        refine lv_goto (tgt := 9) hx hb dX4_ownerWithout_61 (by decide) ?_
        exact (hk9) x1 x2 x3 x6 r3 (x6 + (1 : Int32)) hf _ _ hP hD hS _ (lv_sub hl [4, 5, 6, 7, 2, 1, 0] rfl)
      · replace hf := brF c5 hf
        refine lv_iload hx hb dX4_ownerWithout_43 (lv_at hl 0 rfl) ?_
        refine lv_iload hx hb dX4_ownerWithout_45 (lv_at hl 6 rfl) ?_
        refine lv_icmp_ge (tgt := 58) hx hb dX4_ownerWithout_47 (by decide) (fun c6 => ?_) (fun c6 => ?_)
        · replace hf := brT c6 hf
          refine lv_iinc (v := (x6 + (1 : Int32))) (lv' := [(6, .int (x6 + (1 : Int32))), (7, .int r3), (0, .ref a_t), (1, .int x1), (2, .int x2), (3, .int x3), (4, .int x4), (5, .int x5)]) hx hb dX4_ownerWithout_58 hl (k := 7) rfl rfl (by decide) rfl (fun ls hl => ?_)
          refine lv_goto (tgt := 9) hx hb dX4_ownerWithout_61 (by decide) ?_
          exact (hk9) x1 x2 x3 x4 x5 (x6 + (1 : Int32)) hf _ _ hP hD hS _ (lv_sub hl [2, 3, 4, 5, 6, 7, 0] rfl)
        · replace hf := brF c6 hf
          refine lv_iload hx hb dX4_ownerWithout_50 (lv_at hl 7 rfl) ?_
          refine lv_istore (lv' := [(4, .int x6), (7, .int r3), (0, .ref a_t), (1, .int x1), (2, .int x2), (3, .int x3), (5, .int x5), (6, .int x6)]) hx hb dX4_ownerWithout_52 hl (by decide) rfl (fun ls hl => ?_)
          refine lv_iload hx hb dX4_ownerWithout_54 (lv_at hl 1 rfl) ?_
          refine lv_istore (lv' := [(5, .int r3), (4, .int x6), (7, .int r3), (0, .ref a_t), (1, .int x1), (2, .int x2), (3, .int x3), (6, .int x6)]) hx hb dX4_ownerWithout_56 hl (by decide) rfl (fun ls hl => ?_)
          refine lv_iinc (v := (x6 + (1 : Int32))) (lv' := [(6, .int (x6 + (1 : Int32))), (5, .int r3), (4, .int x6), (7, .int r3), (0, .ref a_t), (1, .int x1), (2, .int x2), (3, .int x3)]) hx hb dX4_ownerWithout_58 hl (k := 7) rfl rfl (by decide) rfl (fun ls hl => ?_)
          refine lv_goto (tgt := 9) hx hb dX4_ownerWithout_61 (by decide) ?_
          exact (hk9) x1 x2 x3 x6 r3 (x6 + (1 : Int32)) hf _ _ hP hD hS _ (lv_sub hl [4, 5, 6, 7, 2, 1, 0] rfl)
    · replace hf := brT c2 hf
      refine lv_goto (tgt := 58) hx hb dX4_ownerWithout_24 (by decide) ?_
      refine lv_iinc (v := (x6 + (1 : Int32))) (lv' := [(6, .int (x6 + (1 : Int32))), (0, .ref a_t), (1, .int x1), (2, .int x2), (3, .int x3), (4, .int x4), (5, .int x5)]) hx hb dX4_ownerWithout_58 hl (k := 6) rfl rfl (by decide) rfl (fun ls hl => ?_)
      refine lv_goto (tgt := 9) hx hb dX4_ownerWithout_61 (by decide) ?_
      exact (hk9) x1 x2 x3 x4 x5 (x6 + (1 : Int32)) hf _ _ hP hD hS _ (lv_sub hl [1, 2, 3, 4, 5, 6, 0] rfl)
theorem t_X4_ownerWithout_9 {p : Program} {l : Launch} {e : Env} {s : State} {m : MethodId} {args : Array Value} {below : List Frame} {meth : Method} {c : Code} {A : Nat → Prop} {D : va_G} {cI cJ cZ cQ : ClassId} {a_t a_t_x a_t_y a_t_w : Nat} {t_count : Int32} {t_x : Nat → Int32} {t_y : Nat → Int32} {t_w : Nat → Int32} {res : R_X4_ownerWithout}   (hC : mcx RX4 cX4_ownerWithout (some .int) 8 wsX4_ownerWithout p s m args meth c A D (tys4 cI cJ cZ cQ))   (n : Nat) : S_X4_ownerWithout_9 p l e s m args below meth c A D cI cJ cZ cQ a_t a_t_x a_t_y a_t_w t_count t_x t_y t_w res (f_X4_ownerWithout_9  t_count t_x t_y t_w n) := by
  induction n with
  | zero =>
    intro x1 x2 x3 x4 x5 x6 hf
    exact nomatch (show (none : Option R_X4_ownerWithout) = some res from hf)
  | succ n ih => exact i_X4_ownerWithout_9 hC   ih
set_option maxHeartbeats 4000000 in
set_option maxRecDepth 100000 in
theorem t_X4_ownerWithout_0 {p : Program} {l : Launch} {e : Env} {s : State} {m : MethodId} {args : Array Value} {below : List Frame} {meth : Method} {c : Code} {A : Nat → Prop} {D : va_G} {cI cJ cZ cQ : ClassId} {a_t a_t_x a_t_y a_t_w : Nat} {t_count : Int32} {t_x : Nat → Int32} {t_y : Nat → Int32} {t_w : Nat → Int32} {res : R_X4_ownerWithout}   (hC : mcx RX4 cX4_ownerWithout (some .int) 8 wsX4_ownerWithout p s m args meth c A D (tys4 cI cJ cZ cQ))   : S_X4_ownerWithout_0 p l e s m args below meth c A D cI cJ cZ cQ a_t a_t_x a_t_y a_t_w t_count t_x t_y t_w res (f_X4_ownerWithout_0  t_count t_x t_y t_w) := by
  intro x1 x2 x3 hf H locs hP hD hS ls hl
  obtain ⟨hx, hb, hr, hml, hown, hts, hlocks, hA, hK, hN⟩ := id hC
  unfold f_X4_ownerWithout_0 at hf
  refine lv_iconst (v := (-1 : Int32)) hx hb dX4_ownerWithout_0 (by decide) ?_
  refine lv_istore (lv' := [(4, .int (-1 : Int32)), (0, .ref a_t), (1, .int x1), (2, .int x2), (3, .int x3)]) hx hb dX4_ownerWithout_1 hl (by decide) rfl (fun ls hl => ?_)
  refine lv_iconst (v := (0 : Int32)) hx hb dX4_ownerWithout_3 (by decide) ?_
  refine lv_istore (lv' := [(5, .int (0 : Int32)), (4, .int (-1 : Int32)), (0, .ref a_t), (1, .int x1), (2, .int x2), (3, .int x3)]) hx hb dX4_ownerWithout_4 hl (by decide) rfl (fun ls hl => ?_)
  refine lv_iconst (v := (0 : Int32)) hx hb dX4_ownerWithout_6 (by decide) ?_
  refine lv_istore (lv' := [(6, .int (0 : Int32)), (5, .int (0 : Int32)), (4, .int (-1 : Int32)), (0, .ref a_t), (1, .int x1), (2, .int x2), (3, .int x3)]) hx hb dX4_ownerWithout_7 hl (by decide) rfl (fun ls hl => ?_)
  exact (t_X4_ownerWithout_9 hC   fuel) x1 x2 x3 (-1 : Int32) (0 : Int32) (0 : Int32) hf _ _ hP hD hS _ (lv_sub hl [3, 4, 5, 6, 2, 1, 0] rfl)
theorem c_X4_ownerWithout (l : Launch) (D : va_G) (cI cJ cZ cQ : ClassId) (a_t a_t_x a_t_y a_t_w : Nat) (t_count : Int32) (t_x : Nat → Int32) (t_y : Nat → Int32) (t_w : Nat → Int32) (p0 : Int32) (p1 : Int32) (p2 : Int32)  (res : R_X4_ownerWithout)  (hf : f_X4_ownerWithout_0 t_count t_x t_y t_w p0 p1 p2 = some res) : MetI l D (tys4 cI cJ cZ cQ) yX4_ownerWithout wsX4_ownerWithout rm_X4_ownerWithout [.ref a_t, .int p0, .int p1, .int p2] (w_X4_ownerWithout cI cJ cZ cQ a_t a_t_x a_t_y a_t_w t_count t_x t_y t_w) (w_X4_ownerWithout cI cJ cZ cQ a_t a_t_x a_t_y a_t_w t_count t_x t_y t_w) res := by
  intro sz
  exact metW (own := RX4) (cc := cX4_ownerWithout) (nL := 8) (ret := (some .int)) (Qc := fun A => qI D (tys4 cI cJ cZ cQ) (w_X4_ownerWithout cI cJ cZ cQ a_t a_t_x a_t_y a_t_w t_count t_x t_y t_w) A res) (by decide) rfl rfl (Nat.le_of_ble_eq_true rfl) (fun p e s m args below meth c A hC hP hD hS ls hl => t_X4_ownerWithout_0 hC  p0 p1 p2 hf _ _ hP hD hS _ (lv_sub hl [0, 1, 2, 3] rfl)) sz
theorem e_X4_ownerWithout : yX4_ownerWithout.cls = RX4 ∧ yX4_ownerWithout.cls ≠ "java/lang/invoke/MethodHandle" ∧ yX4_ownerWithout.cls ≠ "java/lang/invoke/VarHandle" ∧ (parseMethodDescriptor yX4_ownerWithout.desc).map (fun d => d.parameters.length) = some 3 := by decide +kernel
/-! X4_ownerAt -/
def w_X4_ownerAt (cI cJ cZ cQ : ClassId) (a_t a_t_x a_t_y a_t_w : Nat) (t_count : Int32) (t_x : Nat → Int32) (t_y : Nat → Int32) (t_w : Nat → Int32) : va_W := [(a_t, .inr (4, [.ref a_t_x, .ref a_t_y, .ref a_t_w, .int t_count])), (a_t_x, .inl (cI, 10, .inl t_x)), (a_t_y, .inl (cI, 10, .inl t_y)), (a_t_w, .inl (cI, 10, .inl t_w))]
abbrev rm_X4_ownerAt : Room := { frames := 3, cells := 0, slots := 0, locals := 75 }
def S_X4_ownerAt_0 (p : Program) (l : Launch) (e : Env) (s : State) (m : MethodId) (args : Array Value) (below : List Frame) (meth : Method) (c : Code) (A : Nat → Prop) (D : va_G) (cI cJ cZ cQ : ClassId) (a_t a_t_x a_t_y a_t_w : Nat) (t_count : Int32) (t_x : Nat → Int32) (t_y : Nat → Int32) (t_w : Nat → Int32) (res : R_X4_ownerAt) (k : Int32 → Int32 → Option R_X4_ownerAt) : Prop := ∀ (x1 : Int32) (x2 : Int32), k x1 x2 = some res → ∀ (H : Heap) (locs : List Loc), va_P D vwCl (w_X4_ownerAt cI cJ cZ cQ a_t a_t_x a_t_y a_t_w t_count t_x t_y t_w) H → va_D A (w_X4_ownerAt cI cJ cZ cQ a_t a_t_x a_t_y a_t_w t_count t_x t_y t_w) → va_S A s.heap H locs → ∀ ls : Array Slot, lv_has ls 3 [(0, .ref a_t), (1, .int x1), (2, .int x2)] → W p l e (headSpec wsX4_ownerAt rm_X4_ownerAt).room s m args below meth c H locs 0 0 (MQ below (qI D (tys4 cI cJ cZ cQ) (w_X4_ownerAt cI cJ cZ cQ a_t a_t_x a_t_y a_t_w t_count t_x t_y t_w) A res) args s 0 0 A) (F0 m 0 ls [])
set_option maxHeartbeats 4000000 in
set_option maxRecDepth 100000 in
theorem t_X4_ownerAt_0 {p : Program} {l : Launch} {e : Env} {s : State} {m : MethodId} {args : Array Value} {below : List Frame} {meth : Method} {c : Code} {A : Nat → Prop} {D : va_G} {cI cJ cZ cQ : ClassId} {a_t a_t_x a_t_y a_t_w : Nat} {t_count : Int32} {t_x : Nat → Int32} {t_y : Nat → Int32} {t_w : Nat → Int32} {res : R_X4_ownerAt}   (hC : mcx RX4 cX4_ownerAt (some .int) 3 wsX4_ownerAt p s m args meth c A D (tys4 cI cJ cZ cQ))   : S_X4_ownerAt_0 p l e s m args below meth c A D cI cJ cZ cQ a_t a_t_x a_t_y a_t_w t_count t_x t_y t_w res (f_X4_ownerAt_0  t_count t_x t_y t_w) := by
  intro x1 x2 hf H locs hP hD hS ls hl
  obtain ⟨hx, hb, hr, hml, hown, hts, hlocks, hA, hK, hN⟩ := id hC
  unfold f_X4_ownerAt_0 at hf
  refine lv_aload_n hx hb dX4_ownerAt_0 rfl (lv_at hl 0 rfl) ?_
  refine lv_iconst (v := (-1 : Int32)) hx hb dX4_ownerAt_1 (by decide) ?_
  refine lv_iload_n hx hb dX4_ownerAt_2 rfl (lv_at hl 1 rfl) ?_
  refine lv_iload_n hx hb dX4_ownerAt_3 rfl (lv_at hl 2 rfl) ?_
  obtain ⟨r1, hq2, hf⟩ := bnd_of hf
  refine jnI (WB := (w_X4_ownerAt cI cJ cZ cQ a_t a_t_x a_t_y a_t_w t_count t_x t_y t_w)) (rnV (As := [.int (-1 : Int32), .int x1, .int x2]) (rest := []) (ci := 4) (q0 := 0) (W0 := (w_X4_ownerWithout cI cJ cZ cQ a_t a_t_x a_t_y a_t_w t_count t_x t_y t_w)) hx hb hml hown hts hK hN (c_X4_ownerWithout l D cI cJ cZ cQ a_t a_t_x a_t_y a_t_w t_count t_x t_y t_w (-1 : Int32) x1 x2 r1 hq2 H.size) (cwV 3 hts gX4_ownerAt_X4_ownerWithout rfl rfl rfl e_X4_ownerWithout ⟨Nat.le_of_ble_eq_true rfl, Nat.le_of_ble_eq_true rfl⟩) hP hD [0, 1, 2, 3] rfl (by decide) rfl rfl rfl rfl hl (Nat.le_of_ble_eq_true rfl) dX4_ownerAt_4 ⟨Nat.zero_le _, Nat.zero_le _⟩ rfl) hP hD hS hA [0, 1, 2, 3] [] [0, 1, 2, 3] rfl rfl (by decide) (by decide) rfl (by decide) (fun H locs hP hD hS => ?_)
  obtain rfl := Option.some.inj hf
  exact endI (ty := .int) hC (nzI _) rfl hP hD hS dX4_ownerAt_7
theorem c_X4_ownerAt (l : Launch) (D : va_G) (cI cJ cZ cQ : ClassId) (a_t a_t_x a_t_y a_t_w : Nat) (t_count : Int32) (t_x : Nat → Int32) (t_y : Nat → Int32) (t_w : Nat → Int32) (p0 : Int32) (p1 : Int32)  (res : R_X4_ownerAt)  (hf : f_X4_ownerAt_0 t_count t_x t_y t_w p0 p1 = some res) : MetI l D (tys4 cI cJ cZ cQ) yX4_ownerAt wsX4_ownerAt rm_X4_ownerAt [.ref a_t, .int p0, .int p1] (w_X4_ownerAt cI cJ cZ cQ a_t a_t_x a_t_y a_t_w t_count t_x t_y t_w) (w_X4_ownerAt cI cJ cZ cQ a_t a_t_x a_t_y a_t_w t_count t_x t_y t_w) res := by
  intro sz
  exact metW (own := RX4) (cc := cX4_ownerAt) (nL := 3) (ret := (some .int)) (Qc := fun A => qI D (tys4 cI cJ cZ cQ) (w_X4_ownerAt cI cJ cZ cQ a_t a_t_x a_t_y a_t_w t_count t_x t_y t_w) A res) (by decide) rfl rfl (Nat.le_of_ble_eq_true rfl) (fun p e s m args below meth c A hC hP hD hS ls hl => t_X4_ownerAt_0 hC  p0 p1 hf _ _ hP hD hS _ (lv_sub hl [0, 1, 2] rfl)) sz
theorem e_X4_ownerAt : yX4_ownerAt.cls = RX4 ∧ yX4_ownerAt.cls ≠ "java/lang/invoke/MethodHandle" ∧ yX4_ownerAt.cls ≠ "java/lang/invoke/VarHandle" ∧ (parseMethodDescriptor yX4_ownerAt.desc).map (fun d => d.parameters.length) = some 2 := by decide +kernel
/-! X4_pointsOwnedBy -/
def w_X4_pointsOwnedBy (cI cJ cZ cQ : ClassId) (a_t a_t_x a_t_y a_t_w : Nat) (t_count : Int32) (t_x : Nat → Int32) (t_y : Nat → Int32) (t_w : Nat → Int32) : va_W := [(a_t, .inr (4, [.ref a_t_x, .ref a_t_y, .ref a_t_w, .int t_count])), (a_t_x, .inl (cI, 10, .inl t_x)), (a_t_y, .inl (cI, 10, .inl t_y)), (a_t_w, .inl (cI, 10, .inl t_w))]
abbrev rm_X4_pointsOwnedBy : Room := { frames := 4, cells := 0, slots := 0, locals := 97 }
def S_X4_pointsOwnedBy_13 (p : Program) (l : Launch) (e : Env) (s : State) (m : MethodId) (args : Array Value) (below : List Frame) (meth : Method) (c : Code) (A : Nat → Prop) (D : va_G) (cI cJ cZ cQ : ClassId) (a_t a_t_x a_t_y a_t_w : Nat) (t_count : Int32) (t_x : Nat → Int32) (t_y : Nat → Int32) (t_w : Nat → Int32) (res : R_X4_pointsOwnedBy) (k : Int32 → Int32 → Int32 → Int32 → Option R_X4_pointsOwnedBy) : Prop := ∀ (x1 : Int32) (x2 : Int32) (x3 : Int32) (x4 : Int32), k x1 x2 x3 x4 = some res → ∀ (H : Heap) (locs : List Loc), va_P D vwCl (w_X4_pointsOwnedBy cI cJ cZ cQ a_t a_t_x a_t_y a_t_w t_count t_x t_y t_w) H → va_D A (w_X4_pointsOwnedBy cI cJ cZ cQ a_t a_t_x a_t_y a_t_w t_count t_x t_y t_w) → va_S A s.heap H locs → ∀ ls : Array Slot, lv_has ls 5 [(0, .ref a_t), (1, .int x1), (2, .int x2), (3, .int x3), (4, .int x4)] → W p l e (headSpec wsX4_pointsOwnedBy rm_X4_pointsOwnedBy).room s m args below meth c H locs 0 0 (MQ below (qI D (tys4 cI cJ cZ cQ) (w_X4_pointsOwnedBy cI cJ cZ cQ a_t a_t_x a_t_y a_t_w t_count t_x t_y t_w) A res) args s 0 0 A) (F0 m 13 ls [])
def S_X4_pointsOwnedBy_4 (p : Program) (l : Launch) (e : Env) (s : State) (m : MethodId) (args : Array Value) (below : List Frame) (meth : Method) (c : Code) (A : Nat → Prop) (D : va_G) (cI cJ cZ cQ : ClassId) (a_t a_t_x a_t_y a_t_w : Nat) (t_count : Int32) (t_x : Nat → Int32) (t_y : Nat → Int32) (t_w : Nat → Int32) (res : R_X4_pointsOwnedBy) (k : Int32 → Int32 → Int32 → Option R_X4_pointsOwnedBy) : Prop := ∀ (x1 : Int32) (x2 : Int32) (x3 : Int32), k x1 x2 x3 = some res → ∀ (H : Heap) (locs : List Loc), va_P D vwCl (w_X4_pointsOwnedBy cI cJ cZ cQ a_t a_t_x a_t_y a_t_w t_count t_x t_y t_w) H → va_D A (w_X4_pointsOwnedBy cI cJ cZ cQ a_t a_t_x a_t_y a_t_w t_count t_x t_y t_w) → va_S A s.heap H locs → ∀ ls : Array Slot, lv_has ls 5 [(0, .ref a_t), (1, .int x1), (2, .int x2), (3, .int x3)] → W p l e (headSpec wsX4_pointsOwnedBy rm_X4_pointsOwnedBy).room s m args below meth c H locs 0 0 (MQ below (qI D (tys4 cI cJ cZ cQ) (w_X4_pointsOwnedBy cI cJ cZ cQ a_t a_t_x a_t_y a_t_w t_count t_x t_y t_w) A res) args s 0 0 A) (F0 m 4 ls [])
def S_X4_pointsOwnedBy_0 (p : Program) (l : Launch) (e : Env) (s : State) (m : MethodId) (args : Array Value) (below : List Frame) (meth : Method) (c : Code) (A : Nat → Prop) (D : va_G) (cI cJ cZ cQ : ClassId) (a_t a_t_x a_t_y a_t_w : Nat) (t_count : Int32) (t_x : Nat → Int32) (t_y : Nat → Int32) (t_w : Nat → Int32) (res : R_X4_pointsOwnedBy) (k : Int32 → Option R_X4_pointsOwnedBy) : Prop := ∀ (x1 : Int32), k x1 = some res → ∀ (H : Heap) (locs : List Loc), va_P D vwCl (w_X4_pointsOwnedBy cI cJ cZ cQ a_t a_t_x a_t_y a_t_w t_count t_x t_y t_w) H → va_D A (w_X4_pointsOwnedBy cI cJ cZ cQ a_t a_t_x a_t_y a_t_w t_count t_x t_y t_w) → va_S A s.heap H locs → ∀ ls : Array Slot, lv_has ls 5 [(0, .ref a_t), (1, .int x1)] → W p l e (headSpec wsX4_pointsOwnedBy rm_X4_pointsOwnedBy).room s m args below meth c H locs 0 0 (MQ below (qI D (tys4 cI cJ cZ cQ) (w_X4_pointsOwnedBy cI cJ cZ cQ a_t a_t_x a_t_y a_t_w t_count t_x t_y t_w) A res) args s 0 0 A) (F0 m 0 ls [])
set_option maxHeartbeats 4000000 in
set_option maxRecDepth 100000 in
theorem i_X4_pointsOwnedBy_13 {p : Program} {l : Launch} {e : Env} {s : State} {m : MethodId} {args : Array Value} {below : List Frame} {meth : Method} {c : Code} {A : Nat → Prop} {D : va_G} {cI cJ cZ cQ : ClassId} {a_t a_t_x a_t_y a_t_w : Nat} {t_count : Int32} {t_x : Nat → Int32} {t_y : Nat → Int32} {t_w : Nat → Int32} {res : R_X4_pointsOwnedBy}  {k4 : Int32 → Int32 → Int32 → Option R_X4_pointsOwnedBy} {k13 : Int32 → Int32 → Int32 → Int32 → Option R_X4_pointsOwnedBy} (hC : mcx RX4 cX4_pointsOwnedBy (some .int) 5 wsX4_pointsOwnedBy p s m args meth c A D (tys4 cI cJ cZ cQ))  (hk4 : S_X4_pointsOwnedBy_4 p l e s m args below meth c A D cI cJ cZ cQ a_t a_t_x a_t_y a_t_w t_count t_x t_y t_w res k4) (hk13 : S_X4_pointsOwnedBy_13 p l e s m args below meth c A D cI cJ cZ cQ a_t a_t_x a_t_y a_t_w t_count t_x t_y t_w res k13) : S_X4_pointsOwnedBy_13 p l e s m args below meth c A D cI cJ cZ cQ a_t a_t_x a_t_y a_t_w t_count t_x t_y t_w res (g_X4_pointsOwnedBy_13 k4 t_count t_x t_y t_w k13) := by
  intro x1 x2 x3 x4 hf H locs hP hD hS ls hl
  obtain ⟨hx, hb, hr, hml, hown, hts, hlocks, hA, hK, hN⟩ := id hC
  unfold g_X4_pointsOwnedBy_13 at hf
  refine lv_iload hx hb dX4_pointsOwnedBy_13 (lv_at hl 4 rfl) ?_
  refine lv_bipush (v := (20 : Int32)) hx hb dX4_pointsOwnedBy_15 (by decide) ?_
  refine lv_icmp_gt (tgt := 40) hx hb dX4_pointsOwnedBy_17 (by decide) (fun c1 => ?_) (fun c1 => ?_)
  · replace hf := brT c1 hf
    refine lv_iinc (v := (x3 + (1 : Int32))) (lv' := [(3, .int (x3 + (1 : Int32))), (0, .ref a_t), (1, .int x1), (2, .int x2), (4, .int x4)]) hx hb dX4_pointsOwnedBy_40 hl (k := 3) rfl rfl (by decide) rfl (fun ls hl => ?_)
    refine lv_goto (tgt := 4) hx hb dX4_pointsOwnedBy_43 (by decide) ?_
    exact (hk4) x1 x2 (x3 + (1 : Int32)) hf _ _ hP hD hS _ (lv_sub hl [1, 2, 3, 0] rfl)
  · replace hf := brF c1 hf
    refine lv_aload_n hx hb dX4_pointsOwnedBy_20 rfl (lv_at hl 0 rfl) ?_
    refine lv_iload_n hx hb dX4_pointsOwnedBy_21 rfl (lv_at hl 3 rfl) ?_
    refine lv_iload hx hb dX4_pointsOwnedBy_22 (lv_at hl 4 rfl) ?_
    obtain ⟨r2, hq3, hf⟩ := bnd_of hf
    refine jnI (WB := (w_X4_pointsOwnedBy cI cJ cZ cQ a_t a_t_x a_t_y a_t_w t_count t_x t_y t_w)) (rnV (As := [.int x3, .int x4]) (rest := []) (ci := 4) (q0 := 0) (W0 := (w_X4_ownerAt cI cJ cZ cQ a_t a_t_x a_t_y a_t_w t_count t_x t_y t_w)) hx hb hml hown hts hK hN (c_X4_ownerAt l D cI cJ cZ cQ a_t a_t_x a_t_y a_t_w t_count t_x t_y t_w x3 x4 r2 hq3 H.size) (cwV 2 hts gX4_pointsOwnedBy_X4_ownerAt rfl rfl rfl e_X4_ownerAt ⟨Nat.le_of_ble_eq_true rfl, Nat.le_of_ble_eq_true rfl⟩) hP hD [0, 1, 2, 3] rfl (by decide) rfl rfl rfl rfl hl (Nat.le_of_ble_eq_true rfl) dX4_pointsOwnedBy_24 ⟨Nat.zero_le _, Nat.zero_le _⟩ rfl) hP hD hS hA [0, 1, 2, 3] [] [0, 1, 2, 3] rfl rfl (by decide) (by decide) rfl (by decide) (fun H locs hP hD hS => ?_)
    refine lv_iload_n hx hb dX4_pointsOwnedBy_27 rfl (lv_at hl 1 rfl) ?_
    refine lv_icmp_ne (tgt := 34) hx hb dX4_pointsOwnedBy_28 (by decide) (fun c4 => ?_) (fun c4 => ?_)
    · replace hf := brF c4 hf
      refine lv_iinc (v := (x4 + (1 : Int32))) (lv' := [(4, .int (x4 + (1 : Int32))), (0, .ref a_t), (1, .int x1), (2, .int x2), (3, .int x3)]) hx hb dX4_pointsOwnedBy_34 hl (k := 4) rfl rfl (by decide) rfl (fun ls hl => ?_)
      refine lv_goto (tgt := 13) hx hb dX4_pointsOwnedBy_37 (by decide) ?_
      exact (hk13) x1 x2 x3 (x4 + (1 : Int32)) hf _ _ hP hD hS _ (lv_sub hl [1, 2, 3, 4, 0] rfl)
    · replace hf := brT c4 hf
      refine lv_iinc (v := (x2 + (1 : Int32))) (lv' := [(2, .int (x2 + (1 : Int32))), (0, .ref a_t), (1, .int x1), (3, .int x3), (4, .int x4)]) hx hb dX4_pointsOwnedBy_31 hl (k := 2) rfl rfl (by decide) rfl (fun ls hl => ?_)
      refine lv_iinc (v := (x4 + (1 : Int32))) (lv' := [(4, .int (x4 + (1 : Int32))), (2, .int (x2 + (1 : Int32))), (0, .ref a_t), (1, .int x1), (3, .int x3)]) hx hb dX4_pointsOwnedBy_34 hl (k := 4) rfl rfl (by decide) rfl (fun ls hl => ?_)
      refine lv_goto (tgt := 13) hx hb dX4_pointsOwnedBy_37 (by decide) ?_
      exact (hk13) x1 (x2 + (1 : Int32)) x3 (x4 + (1 : Int32)) hf _ _ hP hD hS _ (lv_sub hl [2, 3, 1, 4, 0] rfl)
theorem t_X4_pointsOwnedBy_13 {p : Program} {l : Launch} {e : Env} {s : State} {m : MethodId} {args : Array Value} {below : List Frame} {meth : Method} {c : Code} {A : Nat → Prop} {D : va_G} {cI cJ cZ cQ : ClassId} {a_t a_t_x a_t_y a_t_w : Nat} {t_count : Int32} {t_x : Nat → Int32} {t_y : Nat → Int32} {t_w : Nat → Int32} {res : R_X4_pointsOwnedBy}  {k4 : Int32 → Int32 → Int32 → Option R_X4_pointsOwnedBy} (hC : mcx RX4 cX4_pointsOwnedBy (some .int) 5 wsX4_pointsOwnedBy p s m args meth c A D (tys4 cI cJ cZ cQ))  (hk4 : S_X4_pointsOwnedBy_4 p l e s m args below meth c A D cI cJ cZ cQ a_t a_t_x a_t_y a_t_w t_count t_x t_y t_w res k4) (n : Nat) : S_X4_pointsOwnedBy_13 p l e s m args below meth c A D cI cJ cZ cQ a_t a_t_x a_t_y a_t_w t_count t_x t_y t_w res (f_X4_pointsOwnedBy_13 k4 t_count t_x t_y t_w n) := by
  induction n with
  | zero =>
    intro x1 x2 x3 x4 hf
    exact nomatch (show (none : Option R_X4_pointsOwnedBy) = some res from hf)
  | succ n ih => exact i_X4_pointsOwnedBy_13 hC  hk4 ih
set_option maxHeartbeats 4000000 in
set_option maxRecDepth 100000 in
theorem i_X4_pointsOwnedBy_4 {p : Program} {l : Launch} {e : Env} {s : State} {m : MethodId} {args : Array Value} {below : List Frame} {meth : Method} {c : Code} {A : Nat → Prop} {D : va_G} {cI cJ cZ cQ : ClassId} {a_t a_t_x a_t_y a_t_w : Nat} {t_count : Int32} {t_x : Nat → Int32} {t_y : Nat → Int32} {t_w : Nat → Int32} {res : R_X4_pointsOwnedBy}   {k4 : Int32 → Int32 → Int32 → Option R_X4_pointsOwnedBy} (hC : mcx RX4 cX4_pointsOwnedBy (some .int) 5 wsX4_pointsOwnedBy p s m args meth c A D (tys4 cI cJ cZ cQ))   (hk4 : S_X4_pointsOwnedBy_4 p l e s m args below meth c A D cI cJ cZ cQ a_t a_t_x a_t_y a_t_w t_count t_x t_y t_w res k4) : S_X4_pointsOwnedBy_4 p l e s m args below meth c A D cI cJ cZ cQ a_t a_t_x a_t_y a_t_w t_count t_x t_y t_w res (g_X4_pointsOwnedBy_4  t_count t_x t_y t_w k4) := by
  intro x1 x2 x3 hf H locs hP hD hS ls hl
  obtain ⟨hx, hb, hr, hml, hown, hts, hlocks, hA, hK, hN⟩ := id hC
  unfold g_X4_pointsOwnedBy_4 at hf
  refine lv_iload_n hx hb dX4_pointsOwnedBy_4 rfl (lv_at hl 3 rfl) ?_
  refine lv_bipush (v := (20 : Int32)) hx hb dX4_pointsOwnedBy_5 (by decide) ?_
  refine lv_icmp_gt (tgt := 46) hx hb dX4_pointsOwnedBy_7 (by decide) (fun c1 => ?_) (fun c1 => ?_)
  · replace hf := brT c1 hf
    refine lv_iload_n hx hb dX4_pointsOwnedBy_46 rfl (lv_at hl 2 rfl) ?_
    obtain rfl := Option.some.inj hf
    exact endI (ty := .int) hC (nzI _) rfl hP hD hS dX4_pointsOwnedBy_47
  · replace hf := brF c1 hf
    refine lv_iconst (v := (0 : Int32)) hx hb dX4_pointsOwnedBy_10 (by decide) ?_
    refine lv_istore (lv' := [(4, .int (0 : Int32)), (0, .ref a_t), (1, .int x1), (2, .int x2), (3, .int x3)]) hx hb dX4_pointsOwnedBy_11 hl (by decide) rfl (fun ls hl => ?_)
    exact (t_X4_pointsOwnedBy_13 hC  hk4 fuel) x1 x2 x3 (0 : Int32) hf _ _ hP hD hS _ (lv_sub hl [1, 2, 3, 4, 0] rfl)
theorem t_X4_pointsOwnedBy_4 {p : Program} {l : Launch} {e : Env} {s : State} {m : MethodId} {args : Array Value} {below : List Frame} {meth : Method} {c : Code} {A : Nat → Prop} {D : va_G} {cI cJ cZ cQ : ClassId} {a_t a_t_x a_t_y a_t_w : Nat} {t_count : Int32} {t_x : Nat → Int32} {t_y : Nat → Int32} {t_w : Nat → Int32} {res : R_X4_pointsOwnedBy}   (hC : mcx RX4 cX4_pointsOwnedBy (some .int) 5 wsX4_pointsOwnedBy p s m args meth c A D (tys4 cI cJ cZ cQ))   (n : Nat) : S_X4_pointsOwnedBy_4 p l e s m args below meth c A D cI cJ cZ cQ a_t a_t_x a_t_y a_t_w t_count t_x t_y t_w res (f_X4_pointsOwnedBy_4  t_count t_x t_y t_w n) := by
  induction n with
  | zero =>
    intro x1 x2 x3 hf
    exact nomatch (show (none : Option R_X4_pointsOwnedBy) = some res from hf)
  | succ n ih => exact i_X4_pointsOwnedBy_4 hC   ih
set_option maxHeartbeats 4000000 in
set_option maxRecDepth 100000 in
theorem t_X4_pointsOwnedBy_0 {p : Program} {l : Launch} {e : Env} {s : State} {m : MethodId} {args : Array Value} {below : List Frame} {meth : Method} {c : Code} {A : Nat → Prop} {D : va_G} {cI cJ cZ cQ : ClassId} {a_t a_t_x a_t_y a_t_w : Nat} {t_count : Int32} {t_x : Nat → Int32} {t_y : Nat → Int32} {t_w : Nat → Int32} {res : R_X4_pointsOwnedBy}   (hC : mcx RX4 cX4_pointsOwnedBy (some .int) 5 wsX4_pointsOwnedBy p s m args meth c A D (tys4 cI cJ cZ cQ))   : S_X4_pointsOwnedBy_0 p l e s m args below meth c A D cI cJ cZ cQ a_t a_t_x a_t_y a_t_w t_count t_x t_y t_w res (f_X4_pointsOwnedBy_0  t_count t_x t_y t_w) := by
  intro x1 hf H locs hP hD hS ls hl
  obtain ⟨hx, hb, hr, hml, hown, hts, hlocks, hA, hK, hN⟩ := id hC
  unfold f_X4_pointsOwnedBy_0 at hf
  refine lv_iconst (v := (0 : Int32)) hx hb dX4_pointsOwnedBy_0 (by decide) ?_
  refine lv_istore_n (lv' := [(2, .int (0 : Int32)), (0, .ref a_t), (1, .int x1)]) hx hb dX4_pointsOwnedBy_1 rfl hl (by decide) rfl (fun ls hl => ?_)
  refine lv_iconst (v := (0 : Int32)) hx hb dX4_pointsOwnedBy_2 (by decide) ?_
  refine lv_istore_n (lv' := [(3, .int (0 : Int32)), (2, .int (0 : Int32)), (0, .ref a_t), (1, .int x1)]) hx hb dX4_pointsOwnedBy_3 rfl hl (by decide) rfl (fun ls hl => ?_)
  exact (t_X4_pointsOwnedBy_4 hC   fuel) x1 (0 : Int32) (0 : Int32) hf _ _ hP hD hS _ (lv_sub hl [2, 3, 1, 0] rfl)
theorem c_X4_pointsOwnedBy (l : Launch) (D : va_G) (cI cJ cZ cQ : ClassId) (a_t a_t_x a_t_y a_t_w : Nat) (t_count : Int32) (t_x : Nat → Int32) (t_y : Nat → Int32) (t_w : Nat → Int32) (p0 : Int32)  (res : R_X4_pointsOwnedBy)  (hf : f_X4_pointsOwnedBy_0 t_count t_x t_y t_w p0 = some res) : MetI l D (tys4 cI cJ cZ cQ) yX4_pointsOwnedBy wsX4_pointsOwnedBy rm_X4_pointsOwnedBy [.ref a_t, .int p0] (w_X4_pointsOwnedBy cI cJ cZ cQ a_t a_t_x a_t_y a_t_w t_count t_x t_y t_w) (w_X4_pointsOwnedBy cI cJ cZ cQ a_t a_t_x a_t_y a_t_w t_count t_x t_y t_w) res := by
  intro sz
  exact metW (own := RX4) (cc := cX4_pointsOwnedBy) (nL := 5) (ret := (some .int)) (Qc := fun A => qI D (tys4 cI cJ cZ cQ) (w_X4_pointsOwnedBy cI cJ cZ cQ a_t a_t_x a_t_y a_t_w t_count t_x t_y t_w) A res) (by decide) rfl rfl (Nat.le_of_ble_eq_true rfl) (fun p e s m args below meth c A hC hP hD hS ls hl => t_X4_pointsOwnedBy_0 hC  p0 hf _ _ hP hD hS _ (lv_sub hl [0, 1] rfl)) sz
theorem e_X4_pointsOwnedBy : yX4_pointsOwnedBy.cls = RX4 ∧ yX4_pointsOwnedBy.cls ≠ "java/lang/invoke/MethodHandle" ∧ yX4_pointsOwnedBy.cls ≠ "java/lang/invoke/VarHandle" ∧ (parseMethodDescriptor yX4_pointsOwnedBy.desc).map (fun d => d.parameters.length) = some 1 := by decide +kernel
/-! X4_put -/
theorem iw_X4_put_4 : ∀ w ∈ wsX40, w ∈ wsX4_put := fun _ h => List.mem_cons_of_mem _ (List.mem_append_right _ h)
def w_X4_put (cI cJ cZ cQ : ClassId) (a_t a_t_x a_t_y a_t_w : Nat) (t_count : Int32) (t_x : Nat → Int32) (t_y : Nat → Int32) (t_w : Nat → Int32) : va_W := [(a_t, .inr (4, [.ref a_t_x, .ref a_t_y, .ref a_t_w, .int t_count])), (a_t_x, .inl (cI, 10, .inl t_x)), (a_t_y, .inl (cI, 10, .inl t_y)), (a_t_w, .inl (cI, 10, .inl t_w))]
abbrev rm_X4_put : Room := { frames := 0, cells := 0, slots := 0, locals := 0 }
def S_X4_put_0 (p : Program) (l : Launch) (e : Env) (s : State) (m : MethodId) (args : Array Value) (below : List Frame) (meth : Method) (c : Code) (A : Nat → Prop) (D : va_G) (cI cJ cZ cQ : ClassId) (a_t a_t_x a_t_y a_t_w : Nat)  (res : R_X4_put) (k : Int32 → (Nat → Int32) → (Nat → Int32) → (Nat → Int32) → Int32 → Int32 → Int32 → Option R_X4_put) : Prop := ∀ (t_count : Int32) (t_x : Nat → Int32) (t_y : Nat → Int32) (t_w : Nat → Int32) (x1 : Int32) (x2 : Int32) (x3 : Int32), k t_count t_x t_y t_w x1 x2 x3 = some res → ∀ (H : Heap) (locs : List Loc), va_P D vwCl (w_X4_put cI cJ cZ cQ a_t a_t_x a_t_y a_t_w t_count t_x t_y t_w) H → va_D A (w_X4_put cI cJ cZ cQ a_t a_t_x a_t_y a_t_w t_count t_x t_y t_w) → va_S A s.heap H locs → ∀ ls : Array Slot, lv_has ls 4 [(0, .ref a_t), (1, .int x1), (2, .int x2), (3, .int x3)] → W p l e (headSpec wsX4_put rm_X4_put).room s m args below meth c H locs 0 0 (MQ below (qV D (tys4 cI cJ cZ cQ) (w_X4_put cI cJ cZ cQ a_t a_t_x a_t_y a_t_w res.1 res.2.1 res.2.2.1 res.2.2.2) A) args s 0 0 A) (F0 m 0 ls [])
set_option maxHeartbeats 4000000 in
set_option maxRecDepth 100000 in
theorem t_X4_put_0 {p : Program} {l : Launch} {e : Env} {s : State} {m : MethodId} {args : Array Value} {below : List Frame} {meth : Method} {c : Code} {A : Nat → Prop} {D : va_G} {cI cJ cZ cQ : ClassId} {a_t a_t_x a_t_y a_t_w : Nat}  {res : R_X4_put}   (hC : mcx RX4 cX4_put none 4 wsX4_put p s m args meth c A D (tys4 cI cJ cZ cQ))   : S_X4_put_0 p l e s m args below meth c A D cI cJ cZ cQ a_t a_t_x a_t_y a_t_w res (f_X4_put_0  ) := by
  intro t_count t_x t_y t_w x1 x2 x3 hf H locs hP hD hS ls hl
  obtain ⟨hx, hb, hr, hml, hown, hts, hlocks, hA, hK, hN⟩ := id hC
  unfold f_X4_put_0 at hf
  refine lv_aload_n hx hb dX4_put_0 rfl (lv_at hl 0 rfl) ?_
  refine va_get (D := D) (ci := 4) (v := .int t_count) (C := RX4) (T := TX4) (N := 4) hx hb hts iw_X4_put_4 hown hK hP 0 rfl rfl 3 (by decide) (hts (.fieldLink RX4 21 "PowerDiagram$Sites" "count" "I") (List.mem_of_getElem? (i := 1) rfl)) (fun _ h9 => h9) rfl dX4_put_1 ?_
  refine lv_bipush (v := (10 : Int32)) hx hb dX4_put_4 (by decide) ?_
  refine lv_icmp_lt (tgt := 10) hx hb dX4_put_6 (by decide) (fun c1 => ?_) (fun c1 => ?_)
  · replace hf := brT c1 hf
    refine lv_aload_n hx hb dX4_put_10 rfl (lv_at hl 0 rfl) ?_
    refine va_get (D := D) (ci := 4) (v := .ref a_t_x) (C := RX4) (T := TX4) (N := 4) hx hb hts iw_X4_put_4 hown hK hP 0 rfl rfl 0 (by decide) (hts (.fieldLink RX4 9 "PowerDiagram$Sites" "x" "[I") (List.mem_of_getElem? (i := 2) rfl)) (fun _ h9 => h9) rfl dX4_put_11 ?_
    refine lv_aload_n hx hb dX4_put_14 rfl (lv_at hl 0 rfl) ?_
    refine va_get (D := D) (ci := 4) (v := .int t_count) (C := RX4) (T := TX4) (N := 4) hx hb hts iw_X4_put_4 hown hK hP 0 rfl rfl 3 (by decide) (hts (.fieldLink RX4 21 "PowerDiagram$Sites" "count" "I") (List.mem_of_getElem? (i := 1) rfl)) (fun _ h9 => h9) rfl dX4_put_15 ?_
    refine lv_iload_n hx hb dX4_put_18 rfl (lv_at hl 1 rfl) ?_
    obtain ⟨h2, hf⟩ := gIx_of hf
    refine wrI (WB := (w_X4_put cI cJ cZ cQ a_t a_t_x a_t_y a_t_w t_count (upd t_x t_count.toNatClampNeg x1) t_y t_w)) hx hb hK hP hD hS 1 0 rfl rfl h2 dX4_put_19 rfl (fun H locs hP hD hS => ?_)
    refine lv_aload_n hx hb dX4_put_20 rfl (lv_at hl 0 rfl) ?_
    refine va_get (D := D) (ci := 4) (v := .ref a_t_y) (C := RX4) (T := TX4) (N := 4) hx hb hts iw_X4_put_4 hown hK hP 0 rfl rfl 1 (by decide) (hts (.fieldLink RX4 15 "PowerDiagram$Sites" "y" "[I") (List.mem_of_getElem? (i := 3) rfl)) (fun _ h9 => h9) rfl dX4_put_21 ?_
    refine lv_aload_n hx hb dX4_put_24 rfl (lv_at hl 0 rfl) ?_
    refine va_get (D := D) (ci := 4) (v := .int t_count) (C := RX4) (T := TX4) (N := 4) hx hb hts iw_X4_put_4 hown hK hP 0 rfl rfl 3 (by decide) (hts (.fieldLink RX4 21 "PowerDiagram$Sites" "count" "I") (List.mem_of_getElem? (i := 1) rfl)) (fun _ h9 => h9) rfl dX4_put_25 ?_
    refine lv_iload_n hx hb dX4_put_28 rfl (lv_at hl 2 rfl) ?_
    refine wrI (WB := (w_X4_put cI cJ cZ cQ a_t a_t_x a_t_y a_t_w t_count (upd t_x t_count.toNatClampNeg x1) (upd t_y t_count.toNatClampNeg x2) t_w)) hx hb hK hP hD hS 2 0 rfl rfl h2 dX4_put_29 rfl (fun H locs hP hD hS => ?_)
    refine lv_aload_n hx hb dX4_put_30 rfl (lv_at hl 0 rfl) ?_
    refine va_get (D := D) (ci := 4) (v := .ref a_t_w) (C := RX4) (T := TX4) (N := 4) hx hb hts iw_X4_put_4 hown hK hP 0 rfl rfl 2 (by decide) (hts (.fieldLink RX4 18 "PowerDiagram$Sites" "w" "[I") (List.mem_of_getElem? (i := 4) rfl)) (fun _ h9 => h9) rfl dX4_put_31 ?_
    refine lv_aload_n hx hb dX4_put_34 rfl (lv_at hl 0 rfl) ?_
    refine va_get (D := D) (ci := 4) (v := .int t_count) (C := RX4) (T := TX4) (N := 4) hx hb hts iw_X4_put_4 hown hK hP 0 rfl rfl 3 (by decide) (hts (.fieldLink RX4 21 "PowerDiagram$Sites" "count" "I") (List.mem_of_getElem? (i := 1) rfl)) (fun _ h9 => h9) rfl dX4_put_35 ?_
    refine lv_iload_n hx hb dX4_put_38 rfl (lv_at hl 3 rfl) ?_
    refine wrI (WB := (w_X4_put cI cJ cZ cQ a_t a_t_x a_t_y a_t_w t_count (upd t_x t_count.toNatClampNeg x1) (upd t_y t_count.toNatClampNeg x2) (upd t_w t_count.toNatClampNeg x3))) hx hb hK hP hD hS 3 0 rfl rfl h2 dX4_put_39 rfl (fun H locs hP hD hS => ?_)
    refine lv_aload_n hx hb dX4_put_40 rfl (lv_at hl 0 rfl) ?_
    refine lv_dup hx hb dX4_put_41 rfl ?_
    refine va_get (D := D) (ci := 4) (v := .int t_count) (C := RX4) (T := TX4) (N := 4) hx hb hts iw_X4_put_4 hown hK hP 0 rfl rfl 3 (by decide) (hts (.fieldLink RX4 21 "PowerDiagram$Sites" "count" "I") (List.mem_of_getElem? (i := 1) rfl)) (fun _ h9 => h9) rfl dX4_put_42 ?_
    refine lv_iconst (v := (1 : Int32)) hx hb dX4_put_45 (by decide) ?_
    refine lv_iadd hx hb dX4_put_46 ?_
    refine lv_topi (fun v3 ev3 => ?_)
    replace hf := nm_of ev3 hf
    refine wrF (D := D) (ci := 4) (v := .int v3) (ty := .int) (C := RX4) (T := TX4) (N := 4) (WB := (w_X4_put cI cJ cZ cQ a_t a_t_x a_t_y a_t_w v3 (upd t_x t_count.toNatClampNeg x1) (upd t_y t_count.toNatClampNeg x2) (upd t_w t_count.toNatClampNeg x3))) hx hb hts iw_X4_put_4 tyX4 tyX4_ok nmX4 hown hK hP hD hS 0 rfl rfl 3 (by decide) (hts (.fieldLink RX4 21 "PowerDiagram$Sites" "count" "I") (List.mem_of_getElem? (i := 1) rfl)) (fun _ h9 => h9) rfl rfl rfl rfl (Nat.le_of_ble_eq_true rfl) dX4_put_47 rfl (fun H locs hP hD hS => ?_)
    obtain rfl := Option.some.inj hf
    exact endV hC hP hD hS dX4_put_50
  · replace hf := brF c1 hf
    obtain rfl := Option.some.inj hf
    exact endV hC hP hD hS dX4_put_9
theorem c_X4_put (l : Launch) (D : va_G) (cI cJ cZ cQ : ClassId) (a_t a_t_x a_t_y a_t_w : Nat) (t_count : Int32) (t_x : Nat → Int32) (t_y : Nat → Int32) (t_w : Nat → Int32) (p0 : Int32) (p1 : Int32) (p2 : Int32)  (res : R_X4_put)  (hf : f_X4_put_0  t_count t_x t_y t_w p0 p1 p2 = some res) : MetV l D (tys4 cI cJ cZ cQ) yX4_put wsX4_put rm_X4_put [.ref a_t, .int p0, .int p1, .int p2] (w_X4_put cI cJ cZ cQ a_t a_t_x a_t_y a_t_w t_count t_x t_y t_w) (w_X4_put cI cJ cZ cQ a_t a_t_x a_t_y a_t_w res.1 res.2.1 res.2.2.1 res.2.2.2) := by
  intro sz
  exact metW (own := RX4) (cc := cX4_put) (nL := 4) (ret := none) (Qc := fun A => qV D (tys4 cI cJ cZ cQ) (w_X4_put cI cJ cZ cQ a_t a_t_x a_t_y a_t_w res.1 res.2.1 res.2.2.1 res.2.2.2) A) (by decide) rfl rfl (Nat.le_of_ble_eq_true rfl) (fun p e s m args below meth c A hC hP hD hS ls hl => t_X4_put_0 hC  t_count t_x t_y t_w p0 p1 p2 hf _ _ hP hD hS _ (lv_sub hl [0, 1, 2, 3] rfl)) sz
theorem e_X4_put : yX4_put.cls = RX4 ∧ yX4_put.cls ≠ "java/lang/invoke/MethodHandle" ∧ yX4_put.cls ≠ "java/lang/invoke/VarHandle" ∧ (parseMethodDescriptor yX4_put.desc).map (fun d => d.parameters.length) = some 3 := by decide +kernel
/-! X4_weightToOwn -/
theorem iw_X4_weightToOwn_4 : ∀ w ∈ wsX40, w ∈ wsX4_weightToOwn := fun _ h => List.mem_cons_of_mem _ (List.mem_append_right _ h)
def w_X4_weightToOwn (cI cJ cZ cQ : ClassId) (a_t a_t_x a_t_y a_t_w : Nat) (t_count : Int32) (t_x : Nat → Int32) (t_y : Nat → Int32) (t_w : Nat → Int32) : va_W := [(a_t, .inr (4, [.ref a_t_x, .ref a_t_y, .ref a_t_w, .int t_count])), (a_t_x, .inl (cI, 10, .inl t_x)), (a_t_y, .inl (cI, 10, .inl t_y)), (a_t_w, .inl (cI, 10, .inl t_w))]
abbrev rm_X4_weightToOwn : Room := { frames := 2, cells := 0, slots := 0, locals := 48 }
def S_X4_weightToOwn_41 (p : Program) (l : Launch) (e : Env) (s : State) (m : MethodId) (args : Array Value) (below : List Frame) (meth : Method) (c : Code) (A : Nat → Prop) (D : va_G) (cI cJ cZ cQ : ClassId) (a_t a_t_x a_t_y a_t_w : Nat) (t_count : Int32) (t_x : Nat → Int32) (t_y : Nat → Int32) (t_w : Nat → Int32) (res : R_X4_weightToOwn) (k : Int32 → Int32 → Int32 → Int32 → Int32 → Int32 → Int32 → Option R_X4_weightToOwn) : Prop := ∀ (x1 : Int32) (x2 : Int32) (x3 : Int32) (x4 : Int32) (x5 : Int32) (x6 : Int32) (y0 : Int32), k x1 x2 x3 x4 x5 x6 y0 = some res → ∀ (H : Heap) (locs : List Loc), va_P D vwCl (w_X4_weightToOwn cI cJ cZ cQ a_t a_t_x a_t_y a_t_w t_count t_x t_y t_w) H → va_D A (w_X4_weightToOwn cI cJ cZ cQ a_t a_t_x a_t_y a_t_w t_count t_x t_y t_w) → va_S A s.heap H locs → ∀ ls : Array Slot, lv_has ls 8 [(0, .ref a_t), (1, .int x1), (2, .int x2), (3, .int x3), (4, .int x4), (5, .int x5), (6, .int x6)] → W p l e (headSpec wsX4_weightToOwn rm_X4_weightToOwn).room s m args below meth c H locs 0 0 (MQ below (qI D (tys4 cI cJ cZ cQ) (w_X4_weightToOwn cI cJ cZ cQ a_t a_t_x a_t_y a_t_w t_count t_x t_y t_w) A res) args s 0 0 A) (F0 m 41 ls [.int y0])
def S_X4_weightToOwn_15 (p : Program) (l : Launch) (e : Env) (s : State) (m : MethodId) (args : Array Value) (below : List Frame) (meth : Method) (c : Code) (A : Nat → Prop) (D : va_G) (cI cJ cZ cQ : ClassId) (a_t a_t_x a_t_y a_t_w : Nat) (t_count : Int32) (t_x : Nat → Int32) (t_y : Nat → Int32) (t_w : Nat → Int32) (res : R_X4_weightToOwn) (k : Int32 → Int32 → Int32 → Int32 → Int32 → Int32 → Option R_X4_weightToOwn) : Prop := ∀ (x1 : Int32) (x2 : Int32) (x3 : Int32) (x4 : Int32) (x5 : Int32) (x6 : Int32), k x1 x2 x3 x4 x5 x6 = some res → ∀ (H : Heap) (locs : List Loc), va_P D vwCl (w_X4_weightToOwn cI cJ cZ cQ a_t a_t_x a_t_y a_t_w t_count t_x t_y t_w) H → va_D A (w_X4_weightToOwn cI cJ cZ cQ a_t a_t_x a_t_y a_t_w t_count t_x t_y t_w) → va_S A s.heap H locs → ∀ ls : Array Slot, lv_has ls 8 [(0, .ref a_t), (1, .int x1), (2, .int x2), (3, .int x3), (4, .int x4), (5, .int x5), (6, .int x6)] → W p l e (headSpec wsX4_weightToOwn rm_X4_weightToOwn).room s m args below meth c H locs 0 0 (MQ below (qI D (tys4 cI cJ cZ cQ) (w_X4_weightToOwn cI cJ cZ cQ a_t a_t_x a_t_y a_t_w t_count t_x t_y t_w) A res) args s 0 0 A) (F0 m 15 ls [])
def S_X4_weightToOwn_0 (p : Program) (l : Launch) (e : Env) (s : State) (m : MethodId) (args : Array Value) (below : List Frame) (meth : Method) (c : Code) (A : Nat → Prop) (D : va_G) (cI cJ cZ cQ : ClassId) (a_t a_t_x a_t_y a_t_w : Nat) (t_count : Int32) (t_x : Nat → Int32) (t_y : Nat → Int32) (t_w : Nat → Int32) (res : R_X4_weightToOwn) (k : Int32 → Int32 → Int32 → Option R_X4_weightToOwn) : Prop := ∀ (x1 : Int32) (x2 : Int32) (x3 : Int32), k x1 x2 x3 = some res → ∀ (H : Heap) (locs : List Loc), va_P D vwCl (w_X4_weightToOwn cI cJ cZ cQ a_t a_t_x a_t_y a_t_w t_count t_x t_y t_w) H → va_D A (w_X4_weightToOwn cI cJ cZ cQ a_t a_t_x a_t_y a_t_w t_count t_x t_y t_w) → va_S A s.heap H locs → ∀ ls : Array Slot, lv_has ls 8 [(0, .ref a_t), (1, .int x1), (2, .int x2), (3, .int x3)] → W p l e (headSpec wsX4_weightToOwn rm_X4_weightToOwn).room s m args below meth c H locs 0 0 (MQ below (qI D (tys4 cI cJ cZ cQ) (w_X4_weightToOwn cI cJ cZ cQ a_t a_t_x a_t_y a_t_w t_count t_x t_y t_w) A res) args s 0 0 A) (F0 m 0 ls [])
set_option maxHeartbeats 4000000 in
set_option maxRecDepth 100000 in
theorem t_X4_weightToOwn_41 {p : Program} {l : Launch} {e : Env} {s : State} {m : MethodId} {args : Array Value} {below : List Frame} {meth : Method} {c : Code} {A : Nat → Prop} {D : va_G} {cI cJ cZ cQ : ClassId} {a_t a_t_x a_t_y a_t_w : Nat} {t_count : Int32} {t_x : Nat → Int32} {t_y : Nat → Int32} {t_w : Nat → Int32} {res : R_X4_weightToOwn}  {k15 : Int32 → Int32 → Int32 → Int32 → Int32 → Int32 → Option R_X4_weightToOwn} (hC : mcx RX4 cX4_weightToOwn (some .int) 8 wsX4_weightToOwn p s m args meth c A D (tys4 cI cJ cZ cQ))  (hk15 : S_X4_weightToOwn_15 p l e s m args below meth c A D cI cJ cZ cQ a_t a_t_x a_t_y a_t_w t_count t_x t_y t_w res k15) : S_X4_weightToOwn_41 p l e s m args below meth c A D cI cJ cZ cQ a_t a_t_x a_t_y a_t_w t_count t_x t_y t_w res (f_X4_weightToOwn_41 k15 t_count t_x t_y t_w) := by
  intro x1 x2 x3 x4 x5 x6 y0 hf H locs hP hD hS ls hl
  obtain ⟨hx, hb, hr, hml, hown, hts, hlocks, hA, hK, hN⟩ := id hC
  unfold f_X4_weightToOwn_41 at hf
  refine lv_istore (lv' := [(7, .int y0), (0, .ref a_t), (1, .int x1), (2, .int x2), (3, .int x3), (4, .int x4), (5, .int x5), (6, .int x6)]) hx hb dX4_weightToOwn_41 hl (by decide) rfl (fun ls hl => ?_)
  refine lv_iload hx hb dX4_weightToOwn_43 (lv_at hl 5 rfl) ?_
  refine lv_iload hx hb dX4_weightToOwn_45 (lv_at hl 6 rfl) ?_
  refine lv_aload_n hx hb dX4_weightToOwn_47 rfl (lv_at hl 1 rfl) ?_
  refine lv_iload hx hb dX4_weightToOwn_48 (lv_at hl 7 rfl) ?_
  refine lv_iload_n hx hb dX4_weightToOwn_50 rfl (lv_at hl 3 rfl) ?_
  refine lv_iload_n hx hb dX4_weightToOwn_51 rfl (lv_at hl 4 rfl) ?_
  obtain ⟨r1, hq2, hf⟩ := bnd_of hf
  refine jnI (WB := (w_X4_weightToOwn cI cJ cZ cQ a_t a_t_x a_t_y a_t_w t_count t_x t_y t_w)) (rnV (As := [.int x6, .int x2, .int x3]) (rest := [.int x5, .int x4]) (ci := 4) (q0 := 0) (W0 := (w_X4_power cI cJ cZ cQ a_t a_t_x a_t_y a_t_w t_count t_x t_y t_w)) hx hb hml hown hts hK hN (c_X4_power l D cI cJ cZ cQ a_t a_t_x a_t_y a_t_w t_count t_x t_y t_w x6 x2 x3 r1 hq2 H.size) (cwV 3 hts gX4_weightToOwn_X4_power rfl rfl rfl e_X4_power ⟨Nat.le_of_ble_eq_true rfl, Nat.le_of_ble_eq_true rfl⟩) hP hD [0, 1, 2, 3] rfl (by decide) rfl rfl rfl rfl hl (Nat.le_of_ble_eq_true rfl) dX4_weightToOwn_52 ⟨Nat.zero_le _, Nat.zero_le _⟩ rfl) hP hD hS hA [0, 1, 2, 3] [] [0, 1, 2, 3] rfl rfl (by decide) (by decide) rfl (by decide) (fun H locs hP hD hS => ?_)
  refine lv_isub hx hb dX4_weightToOwn_55 ?_
  refine lv_iload hx hb dX4_weightToOwn_56 (lv_at hl 0 rfl) ?_
  refine lv_iadd hx hb dX4_weightToOwn_58 ?_
  refine va_mmax hx hb (hml.trans hl.1.symm) hown (hts (.methodLink RX4 43 Lib.Math.max.name) (List.mem_of_getElem? (i := 2) rfl)) (hts (.static Lib.Math.max.name) (List.mem_of_getElem? (i := 3) rfl)) (hts (.initialized "java/lang/Math") (List.mem_of_getElem? (i := 4) rfl)) (hts _ (List.mem_of_getElem? (i := 5) rfl)) (Nat.le_of_ble_eq_true rfl) (Nat.le_of_ble_eq_true rfl) (Nat.zero_le _) (Nat.zero_le _) dX4_weightToOwn_59 ?_
  refine lv_topi (fun v3 ev3 => ?_)
  replace hf := nm_of ev3 hf
  refine lv_istore (lv' := [(4, .int v3), (7, .int y0), (0, .ref a_t), (1, .int x1), (2, .int x2), (3, .int x3), (5, .int x5), (6, .int x6)]) hx hb dX4_weightToOwn_62 hl (by decide) rfl (fun ls hl => ?_)
  refine lv_iinc (v := (x6 + (1 : Int32))) (lv' := [(6, .int (x6 + (1 : Int32))), (4, .int v3), (7, .int y0), (0, .ref a_t), (1, .int x1), (2, .int x2), (3, .int x3), (5, .int x5)]) hx hb dX4_weightToOwn_64 hl (k := 7) rfl rfl (by decide) rfl (fun ls hl => ?_)
  refine lv_goto (tgt := 15) hx hb dX4_weightToOwn_67 (by decide) ?_
  exact (hk15) x1 x2 x3 v3 x5 (x6 + (1 : Int32)) hf _ _ hP hD hS _ (lv_sub hl [3, 4, 5, 6, 1, 7, 0] rfl)
set_option maxHeartbeats 4000000 in
set_option maxRecDepth 100000 in
theorem i_X4_weightToOwn_15 {p : Program} {l : Launch} {e : Env} {s : State} {m : MethodId} {args : Array Value} {below : List Frame} {meth : Method} {c : Code} {A : Nat → Prop} {D : va_G} {cI cJ cZ cQ : ClassId} {a_t a_t_x a_t_y a_t_w : Nat} {t_count : Int32} {t_x : Nat → Int32} {t_y : Nat → Int32} {t_w : Nat → Int32} {res : R_X4_weightToOwn}   {k15 : Int32 → Int32 → Int32 → Int32 → Int32 → Int32 → Option R_X4_weightToOwn} (hC : mcx RX4 cX4_weightToOwn (some .int) 8 wsX4_weightToOwn p s m args meth c A D (tys4 cI cJ cZ cQ))   (hk15 : S_X4_weightToOwn_15 p l e s m args below meth c A D cI cJ cZ cQ a_t a_t_x a_t_y a_t_w t_count t_x t_y t_w res k15) : S_X4_weightToOwn_15 p l e s m args below meth c A D cI cJ cZ cQ a_t a_t_x a_t_y a_t_w t_count t_x t_y t_w res (g_X4_weightToOwn_15  t_count t_x t_y t_w k15) := by
  intro x1 x2 x3 x4 x5 x6 hf H locs hP hD hS ls hl
  obtain ⟨hx, hb, hr, hml, hown, hts, hlocks, hA, hK, hN⟩ := id hC
  unfold g_X4_weightToOwn_15 at hf
  refine lv_iload hx hb dX4_weightToOwn_15 (lv_at hl 6 rfl) ?_
  refine lv_aload_n hx hb dX4_weightToOwn_17 rfl (lv_at hl 0 rfl) ?_
  refine va_get (D := D) (ci := 4) (v := .int t_count) (C := RX4) (T := TX4) (N := 4) hx hb hts iw_X4_weightToOwn_4 hown hK hP 0 rfl rfl 3 (by decide) (hts (.fieldLink RX4 21 "PowerDiagram$Sites" "count" "I") (List.mem_of_getElem? (i := 1) rfl)) (fun _ h9 => h9) rfl dX4_weightToOwn_18 ?_
  refine lv_icmp_ge (tgt := 70) hx hb dX4_weightToOwn_21 (by decide) (fun c1 => ?_) (fun c1 => ?_)
  · replace hf := brT c1 hf
    refine lv_iload hx hb dX4_weightToOwn_70 (lv_at hl 4 rfl) ?_
    obtain rfl := Option.some.inj hf
    exact endI (ty := .int) hC (nzI _) rfl hP hD hS dX4_weightToOwn_72
  · replace hf := brF c1 hf
    refine lv_iload hx hb dX4_weightToOwn_24 (lv_at hl 6 rfl) ?_
    refine lv_iload_n hx hb dX4_weightToOwn_26 rfl (lv_at hl 1 rfl) ?_
    refine lv_icmp_eq (tgt := 64) hx hb dX4_weightToOwn_27 (by decide) (fun c2 => ?_) (fun c2 => ?_)
    · replace hf := brT c2 hf
      refine lv_iinc (v := (x6 + (1 : Int32))) (lv' := [(6, .int (x6 + (1 : Int32))), (0, .ref a_t), (1, .int x1), (2, .int x2), (3, .int x3), (4, .int x4), (5, .int x5)]) hx hb dX4_weightToOwn_64 hl (k := 6) rfl rfl (by decide) rfl (fun ls hl => ?_)
      refine lv_goto (tgt := 15) hx hb dX4_weightToOwn_67 (by decide) ?_
      exact (hk15) x1 x2 x3 x4 x5 (x6 + (1 : Int32)) hf _ _ hP hD hS _ (lv_sub hl [1, 2, 3, 4, 5, 6, 0] rfl)
    · replace hf := brF c2 hf
      refine lv_iload hx hb dX4_weightToOwn_30 (lv_at hl 6 rfl) ?_
      refine lv_iload_n hx hb dX4_weightToOwn_32 rfl (lv_at hl 1 rfl) ?_
      refine lv_icmp_ge (tgt := 40) hx hb dX4_weightToOwn_33 (by decide) (fun c3 => ?_) (fun c3 => ?_)
      · replace hf := brT c3 hf
        refine lv_iconst (v := (0 : Int32)) hx hb dX4_weightToOwn_40 (by decide) ?_
        exact (t_X4_weightToOwn_41 hC  hk15) x1 x2 x3 x4 x5 x6 (0 : Int32) hf _ _ hP hD hS _ (lv_sub hl [0, 1, 2, 3, 4, 5, 6] rfl)
      · replace hf := brF c3 hf
        refine lv_iconst (v := (1 : Int32)) hx hb dX4_weightToOwn_36 (by decide) ?_
        refine lv_goto (tgt := 41) hx hb dX4_weightToOwn_37 (by decide) ?_
        exact (t_X4_weightToOwn_41 hC  hk15) x1 x2 x3 x4 x5 x6 (1 : Int32) hf _ _ hP hD hS _ (lv_sub hl [0, 1, 2, 3, 4, 5, 6] rfl)
theorem t_X4_weightToOwn_15 {p : Program} {l : Launch} {e : Env} {s : State} {m : MethodId} {args : Array Value} {below : List Frame} {meth : Method} {c : Code} {A : Nat → Prop} {D : va_G} {cI cJ cZ cQ : ClassId} {a_t a_t_x a_t_y a_t_w : Nat} {t_count : Int32} {t_x : Nat → Int32} {t_y : Nat → Int32} {t_w : Nat → Int32} {res : R_X4_weightToOwn}   (hC : mcx RX4 cX4_weightToOwn (some .int) 8 wsX4_weightToOwn p s m args meth c A D (tys4 cI cJ cZ cQ))   (n : Nat) : S_X4_weightToOwn_15 p l e s m args below meth c A D cI cJ cZ cQ a_t a_t_x a_t_y a_t_w t_count t_x t_y t_w res (f_X4_weightToOwn_15  t_count t_x t_y t_w n) := by
  induction n with
  | zero =>
    intro x1 x2 x3 x4 x5 x6 hf
    exact nomatch (show (none : Option R_X4_weightToOwn) = some res from hf)
  | succ n ih => exact i_X4_weightToOwn_15 hC   ih
set_option maxHeartbeats 4000000 in
set_option maxRecDepth 100000 in
theorem t_X4_weightToOwn_0 {p : Program} {l : Launch} {e : Env} {s : State} {m : MethodId} {args : Array Value} {below : List Frame} {meth : Method} {c : Code} {A : Nat → Prop} {D : va_G} {cI cJ cZ cQ : ClassId} {a_t a_t_x a_t_y a_t_w : Nat} {t_count : Int32} {t_x : Nat → Int32} {t_y : Nat → Int32} {t_w : Nat → Int32} {res : R_X4_weightToOwn}   (hC : mcx RX4 cX4_weightToOwn (some .int) 8 wsX4_weightToOwn p s m args meth c A D (tys4 cI cJ cZ cQ))   : S_X4_weightToOwn_0 p l e s m args below meth c A D cI cJ cZ cQ a_t a_t_x a_t_y a_t_w t_count t_x t_y t_w res (f_X4_weightToOwn_0  t_count t_x t_y t_w) := by
  intro x1 x2 x3 hf H locs hP hD hS ls hl
  obtain ⟨hx, hb, hr, hml, hown, hts, hlocks, hA, hK, hN⟩ := id hC
  unfold f_X4_weightToOwn_0 at hf
  refine lv_iconst (v := (0 : Int32)) hx hb dX4_weightToOwn_0 (by decide) ?_
  refine lv_istore (lv' := [(4, .int (0 : Int32)), (0, .ref a_t), (1, .int x1), (2, .int x2), (3, .int x3)]) hx hb dX4_weightToOwn_1 hl (by decide) rfl (fun ls hl => ?_)
  refine lv_aload_n hx hb dX4_weightToOwn_3 rfl (lv_at hl 1 rfl) ?_
  refine lv_iload_n hx hb dX4_weightToOwn_4 rfl (lv_at hl 2 rfl) ?_
  refine lv_iload_n hx hb dX4_weightToOwn_5 rfl (lv_at hl 3 rfl) ?_
  refine lv_iload_n hx hb dX4_weightToOwn_6 rfl (lv_at hl 4 rfl) ?_
  obtain ⟨r1, hq2, hf⟩ := bnd_of hf
  refine jnI (WB := (w_X4_weightToOwn cI cJ cZ cQ a_t a_t_x a_t_y a_t_w t_count t_x t_y t_w)) (rnV (As := [.int x1, .int x2, .int x3]) (rest := []) (ci := 4) (q0 := 0) (W0 := (w_X4_squareTo cI cJ cZ cQ a_t a_t_x a_t_y a_t_w t_count t_x t_y)) hx hb hml hown hts hK hN (c_X4_squareTo l D cI cJ cZ cQ a_t a_t_x a_t_y a_t_w t_count t_x t_y x1 x2 x3 r1 hq2 H.size) (cwV 3 hts gX4_weightToOwn_X4_squareTo rfl rfl rfl e_X4_squareTo ⟨Nat.le_of_ble_eq_true rfl, Nat.le_of_ble_eq_true rfl⟩) hP hD [0, 1, 2] rfl (by decide) rfl rfl rfl rfl hl (Nat.le_of_ble_eq_true rfl) dX4_weightToOwn_7 ⟨Nat.zero_le _, Nat.zero_le _⟩ rfl) hP hD hS hA [0, 1, 2] [3] [1, 2, 3, 0] rfl rfl (by decide) (by decide) rfl (by decide) (fun H locs hP hD hS => ?_)
  refine lv_istore (lv' := [(5, .int r1), (4, .int (0 : Int32)), (0, .ref a_t), (1, .int x1), (2, .int x2), (3, .int x3)]) hx hb dX4_weightToOwn_10 hl (by decide) rfl (fun ls hl => ?_)
  refine lv_iconst (v := (0 : Int32)) hx hb dX4_weightToOwn_12 (by decide) ?_
  refine lv_istore (lv' := [(6, .int (0 : Int32)), (5, .int r1), (4, .int (0 : Int32)), (0, .ref a_t), (1, .int x1), (2, .int x2), (3, .int x3)]) hx hb dX4_weightToOwn_13 hl (by decide) rfl (fun ls hl => ?_)
  exact (t_X4_weightToOwn_15 hC   fuel) x1 x2 x3 (0 : Int32) r1 (0 : Int32) hf _ _ hP hD hS _ (lv_sub hl [3, 4, 5, 6, 2, 1, 0] rfl)
theorem c_X4_weightToOwn (l : Launch) (D : va_G) (cI cJ cZ cQ : ClassId) (a_t a_t_x a_t_y a_t_w : Nat) (t_count : Int32) (t_x : Nat → Int32) (t_y : Nat → Int32) (t_w : Nat → Int32) (p0 : Int32) (p1 : Int32) (p2 : Int32)  (res : R_X4_weightToOwn)  (hf : f_X4_weightToOwn_0 t_count t_x t_y t_w p0 p1 p2 = some res) : MetI l D (tys4 cI cJ cZ cQ) yX4_weightToOwn wsX4_weightToOwn rm_X4_weightToOwn [.ref a_t, .int p0, .int p1, .int p2] (w_X4_weightToOwn cI cJ cZ cQ a_t a_t_x a_t_y a_t_w t_count t_x t_y t_w) (w_X4_weightToOwn cI cJ cZ cQ a_t a_t_x a_t_y a_t_w t_count t_x t_y t_w) res := by
  intro sz
  exact metW (own := RX4) (cc := cX4_weightToOwn) (nL := 8) (ret := (some .int)) (Qc := fun A => qI D (tys4 cI cJ cZ cQ) (w_X4_weightToOwn cI cJ cZ cQ a_t a_t_x a_t_y a_t_w t_count t_x t_y t_w) A res) (by decide) rfl rfl (Nat.le_of_ble_eq_true rfl) (fun p e s m args below meth c A hC hP hD hS ls hl => t_X4_weightToOwn_0 hC  p0 p1 p2 hf _ _ hP hD hS _ (lv_sub hl [0, 1, 2, 3] rfl)) sz
theorem e_X4_weightToOwn : yX4_weightToOwn.cls = RX4 ∧ yX4_weightToOwn.cls ≠ "java/lang/invoke/MethodHandle" ∧ yX4_weightToOwn.cls ≠ "java/lang/invoke/VarHandle" ∧ (parseMethodDescriptor yX4_weightToOwn.desc).map (fun d => d.parameters.length) = some 3 := by decide +kernel
