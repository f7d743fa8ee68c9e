abbrev rm_L_digits : Room := { frames := 2, cells := 0, slots := 0, locals := 42 }
def S_L_digits_20 (p : Program) (l : Launch) (e : Env) (s : State) (m : MethodId) (args : Array Value) (below : List Frame) (meth : Method) (c : Code) (A : Nat → Prop) (D : va_G) (cI cJ cZ cQ : ClassId) (a_p0 : AB) (res : R_L_digits) (k : ST → Int32 → Int32 → Option R_L_digits) : Prop := ∀ (s_p0 : ST) (x1 : Int32) (y0 : Int32), k s_p0 x1 y0 = some res → ∀ (H : Heap) (locs : List Loc), va_P D vwCl (wB cI cJ cZ cQ a_p0 s_p0) H → va_D A (wB cI cJ cZ cQ a_p0 s_p0) → va_S A s.heap H locs → ∀ ls : Array Slot, lv_has ls 3 [(0, .ref (a_p0.1 0)), (1, .int x1)] → W p l e (headSpec wsL_digits rm_L_digits).room s m args below meth c H locs 0 0 (MQ below (qI D (tys4 cI cJ cZ cQ) (wB cI cJ cZ cQ a_p0 res.2) A res.1) args s 0 0 A) (F0 m 20 ls [.int y0])
def S_L_digits_0 (p : Program) (l : Launch) (e : Env) (s : State) (m : MethodId) (args : Array Value) (below : List Frame) (meth : Method) (c : Code) (A : Nat → Prop) (D : va_G) (cI cJ cZ cQ : ClassId) (a_p0 : AB) (res : R_L_digits) (k : ST → Int32 → Int32 → Option R_L_digits) : Prop := ∀ (s_p0 : ST) (x1 : Int32) (x2 : Int32), k s_p0 x1 x2 = some res → ∀ (H : Heap) (locs : List Loc), va_P D vwCl (wB cI cJ cZ cQ a_p0 s_p0) H → va_D A (wB cI cJ cZ cQ a_p0 s_p0) → va_S A s.heap H locs → ∀ ls : Array Slot, lv_has ls 3 [(0, .ref (a_p0.1 0)), (1, .int x1), (2, .int x2)] → W p l e (headSpec wsL_digits rm_L_digits).room s m args below meth c H locs 0 0 (MQ below (qI D (tys4 cI cJ cZ cQ) (wB cI cJ cZ cQ a_p0 res.2) A res.1) args s 0 0 A) (F0 m 0 ls [])
set_option maxHeartbeats 4000000 in
set_option maxRecDepth 100000 in
theorem t_L_digits_20 {p : Program} {l : Launch} {e : Env} {s : State} {m : MethodId} {args : Array Value} {below : List Frame} {meth : Method} {c : Code} {A : Nat → Prop} {D : va_G} {cI cJ cZ cQ : ClassId} {a_p0 : AB} {res : R_L_digits}  (hC : mcx RL cL_digits (some .int) 3 wsL_digits p s m args meth c A D (tys4 cI cJ cZ cQ))  : S_L_digits_20 p l e s m args below meth c A D cI cJ cZ cQ a_p0 res (f_L_digits_20 ) := by
  intro s_p0 x1 y0 hf H locs hP hD hS ls hl
  obtain ⟨hx, hb, hr, hml, hown, hts, hlocks, hA, hK, hN⟩ := id hC
  unfold f_L_digits_20 at hf
  refine lv_aload_n hx hb dL_digits_20 rfl (lv_at hl 0 rfl) ?_
  refine lv_bipush (v := (48 : Int32)) hx hb dL_digits_21 (by decide) ?_
  refine lv_iload_n hx hb dL_digits_23 rfl (lv_at hl 1 rfl) ?_
  refine lv_bipush (v := (10 : Int32)) hx hb dL_digits_24 (by decide) ?_
  refine lv_idiv hx hb dL_digits_26 (by decide) ?_
  refine lv_bipush (v := (10 : Int32)) hx hb dL_digits_27 (by decide) ?_
  refine lv_irem hx hb dL_digits_29 (by decide) ?_
  refine lv_iadd hx hb dL_digits_30 ?_
  obtain ⟨r1, s2, hq3, hf⟩ := bnd2_of hf
  refine callX (As := [.int ((48 : Int32) + ((x1 / (10 : Int32)) - (x1 / (10 : Int32)) / (10 : Int32) * (10 : Int32)))]) (rest := [.int y0]) (ci := 5) (q0 := 0) (wr := ([])) (WB := (wB cI cJ cZ cQ a_p0 s2)) hx hb hml hown hts hK hN (b_X5_append l D cI cJ cZ cQ a_p0 s_p0 ((48 : Int32) + ((x1 / (10 : Int32)) - (x1 / (10 : Int32)) / (10 : Int32) * (10 : Int32))) hq3) (cwV 1 hts gL_digits_X5_append rfl rfl rfl e_X5_append ⟨Nat.le_of_ble_eq_true rfl, Nat.le_of_ble_eq_true rfl⟩) hP hD hS hA pmN pmN.symm rfl rfl rfl rfl hl (Nat.le_of_ble_eq_true rfl) dL_digits_31 ⟨Nat.zero_le _, Nat.zero_le _⟩ rfl (fun H locs hP hD hS => ?_)
  refine lv_iadd hx hb dL_digits_34 ?_
  refine lv_aload_n hx hb dL_digits_35 rfl (lv_at hl 0 rfl) ?_
  refine lv_bipush (v := (48 : Int32)) hx hb dL_digits_36 (by decide) ?_
  refine lv_iload_n hx hb dL_digits_38 rfl (lv_at hl 1 rfl) ?_
  refine lv_bipush (v := (10 : Int32)) hx hb dL_digits_39 (by decide) ?_
  refine lv_irem hx hb dL_digits_41 (by decide) ?_
  refine lv_iadd hx hb dL_digits_42 ?_
  obtain ⟨r4, s5, hq6, hf⟩ := bnd2_of hf
  refine callX (As := [.int ((48 : Int32) + (x1 - x1 / (10 : Int32) * (10 : Int32)))]) (rest := [.int (y0 + r1)]) (ci := 5) (q0 := 0) (wr := ([])) (WB := (wB cI cJ cZ cQ a_p0 s5)) hx hb hml hown hts hK hN (b_X5_append l D cI cJ cZ cQ a_p0 s2 ((48 : Int32) + (x1 - x1 / (10 : Int32) * (10 : Int32))) hq6) (cwV 1 hts gL_digits_X5_append rfl rfl rfl e_X5_append ⟨Nat.le_of_ble_eq_true rfl, Nat.le_of_ble_eq_true rfl⟩) hP hD hS hA pmN pmN.symm rfl rfl rfl rfl hl (Nat.le_of_ble_eq_true rfl) dL_digits_43 ⟨Nat.zero_le _, Nat.zero_le _⟩ rfl (fun H locs hP hD hS => ?_)
  refine lv_iadd hx hb dL_digits_46 ?_
  obtain rfl := Option.some.inj hf
  exact endI (ty := .int) hC (nzI _) rfl hP hD hS dL_digits_47
set_option maxHeartbeats 4000000 in
set_option maxRecDepth 100000 in
theorem t_L_digits_0 {p : Program} {l : Launch} {e : Env} {s : State} {m : MethodId} {args : Array Value} {below : List Frame} {meth : Method} {c : Code} {A : Nat → Prop} {D : va_G} {cI cJ cZ cQ : ClassId} {a_p0 : AB} {res : R_L_digits}  (hC : mcx RL cL_digits (some .int) 3 wsL_digits p s m args meth c A D (tys4 cI cJ cZ cQ))  : S_L_digits_0 p l e s m args below meth c A D cI cJ cZ cQ a_p0 res (f_L_digits_0 ) := by
  intro s_p0 x1 x2 hf H locs hP hD hS ls hl
  obtain ⟨hx, hb, hr, hml, hown, hts, hlocks, hA, hK, hN⟩ := id hC
  unfold f_L_digits_0 at hf
  refine lv_iload_n hx hb dL_digits_0 rfl (lv_at hl 2 rfl) ?_
  refine lv_iconst (v := (2 : Int32)) hx hb dL_digits_1 (by decide) ?_
  refine lv_icmp_le (tgt := 19) hx hb dL_digits_2 (by decide) (fun c1 => ?_) (fun c1 => ?_)
  · replace hf := brT c1 hf
    refine lv_iconst (v := (0 : Int32)) hx hb dL_digits_19 (by decide) ?_
    exact (t_L_digits_20 hC ) s_p0 x1 (0 : Int32) hf _ _ hP hD hS _ (lv_sub hl [0, 1] rfl)
  · replace hf := brF c1 hf
    refine lv_aload_n hx hb dL_digits_5 rfl (lv_at hl 0 rfl) ?_
    refine lv_bipush (v := (48 : Int32)) hx hb dL_digits_6 (by decide) ?_
    refine lv_iload_n hx hb dL_digits_8 rfl (lv_at hl 1 rfl) ?_
    refine lv_bipush (v := (100 : Int32)) hx hb dL_digits_9 (by decide) ?_
    refine lv_idiv hx hb dL_digits_11 (by decide) ?_
    refine lv_iadd hx hb dL_digits_12 ?_
    obtain ⟨r2, s3, hq4, hf⟩ := bnd2_of hf
    refine callX (As := [.int ((48 : Int32) + (x1 / (100 : Int32)))]) (rest := []) (ci := 5) (q0 := 0) (wr := ([])) (WB := (wB cI cJ cZ cQ a_p0 s3)) hx hb hml hown hts hK hN (b_X5_append l D cI cJ cZ cQ a_p0 s_p0 ((48 : Int32) + (x1 / (100 : Int32))) hq4) (cwV 1 hts gL_digits_X5_append rfl rfl rfl e_X5_append ⟨Nat.le_of_ble_eq_true rfl, Nat.le_of_ble_eq_true rfl⟩) hP hD hS hA pmN pmN.symm rfl rfl rfl rfl hl (Nat.le_of_ble_eq_true rfl) dL_digits_13 ⟨Nat.zero_le _, Nat.zero_le _⟩ rfl (fun H locs hP hD hS => ?_)
    refine lv_goto (tgt := 20) hx hb dL_digits_16 (by decide) ?_
    exact (t_L_digits_20 hC ) s3 x1 r2 hf _ _ hP hD hS _ (lv_sub hl [0, 1] rfl)
theorem c_L_digits (l : Launch) (D : va_G) (cI cJ cZ cQ : ClassId) (a_p0 : AB) (s_p0 : ST) (p1 : Int32) (p2 : Int32) {res : R_L_digits} (hf : f_L_digits_0 s_p0 p1 p2 = some res) : MetI l D (tys4 cI cJ cZ cQ) yL_digits wsL_digits rm_L_digits [.ref (a_p0.1 0), .int p1, .int p2] (wB cI cJ cZ cQ a_p0 s_p0) (wB cI cJ cZ cQ a_p0 res.2) res.1 := by
  intro sz
  exact metW (own := RL) (cc := cL_digits) (nL := 3) (ret := (some .int)) (Qc := fun A => qI D (tys4 cI cJ cZ cQ) (wB cI cJ cZ cQ a_p0 res.2) A res.1) (by decide) rfl rfl (Nat.le_of_ble_eq_true rfl) (fun p e s m args below meth c A hC hP hD hS ls hl => t_L_digits_0 hC s_p0 p1 p2 hf _ _ hP hD hS _ (lv_sub hl [0, 1, 2] rfl)) sz
theorem e_L_digits : yL_digits.cls ≠ "java/lang/invoke/MethodHandle" ∧ yL_digits.cls ≠ "java/lang/invoke/VarHandle" ∧ (parseMethodDescriptor yL_digits.desc).map (fun d => d.parameters.length) = some 3 := by decide +kernel
abbrev rm_L_load : Room := { frames := 5, cells := 0, slots := 0, locals := 106 }
def S_L_load_134 (p : Program) (l : Launch) (e : Env) (s : State) (m : MethodId) (args : Array Value) (below : List Frame) (meth : Method) (c : Code) (A : Nat → Prop) (D : va_G) (cI cJ cZ cQ : ClassId) (a_p0 : AB) (res : R_L_load) (k : ST → Int32 → Int32 → Option R_L_load) : Prop := ∀ (s_p0 : ST) (y0 : Int32) (y1 : Int32), k s_p0 y0 y1 = some res → ∀ (H : Heap) (locs : List Loc), va_P D vwCl (wB cI cJ cZ cQ a_p0 s_p0) H → va_D A (wB cI cJ cZ cQ a_p0 s_p0) → va_S A s.heap H locs → ∀ ls : Array Slot, lv_has ls 7 [(0, .ref (a_p0.1 0))] → W p l e (headSpec wsL_load rm_L_load).room s m args below meth c H locs 0 0 (MQ below (qI D (tys4 cI cJ cZ cQ) (wB cI cJ cZ cQ a_p0 res.2) A res.1) args s 0 0 A) (F0 m 134 ls [.int y1, .int y0])
def S_L_load_78 (p : Program) (l : Launch) (e : Env) (s : State) (m : MethodId) (args : Array Value) (below : List Frame) (meth : Method) (c : Code) (A : Nat → Prop) (D : va_G) (cI cJ cZ cQ : ClassId) (a_p0 : AB) (res : R_L_load) (k : ST → Int32 → Int32 → Int32 → Int32 → Int32 → Int32 → Int32 → Int32 → Option R_L_load) : Prop := ∀ (s_p0 : ST) (x1 : Int32) (x4 : Int32) (x5 : Int32) (x6 : Int32) (y0 : Int32) (y1 : Int32) (y3 : Int32) (y4 : Int32), k s_p0 x1 x4 x5 x6 y0 y1 y3 y4 = some res → ∀ (H : Heap) (locs : List Loc), va_P D vwCl (wB cI cJ cZ cQ a_p0 s_p0) H → va_D A (wB cI cJ cZ cQ a_p0 s_p0) → va_S A s.heap H locs → ∀ ls : Array Slot, lv_has ls 7 [(0, .ref (a_p0.1 0)), (1, .int x1), (4, .int x4), (5, .int x5), (6, .int x6)] → W p l e (headSpec wsL_load rm_L_load).room s m args below meth c H locs 0 0 (MQ below (qI D (tys4 cI cJ cZ cQ) (wB cI cJ cZ cQ a_p0 res.2) A res.1) args s 0 0 A) (F0 m 78 ls [.int y4, .int y3, .ref (a_p0.1 0), .int y1, .int y0])
def S_L_load_24 (p : Program) (l : Launch) (e : Env) (s : State) (m : MethodId) (args : Array Value) (below : List Frame) (meth : Method) (c : Code) (A : Nat → Prop) (D : va_G) (cI cJ cZ cQ : ClassId) (a_p0 : AB) (res : R_L_load) (k : ST → Int32 → Int32 → Int32 → Int32 → Int32 → Option R_L_load) : Prop := ∀ (s_p0 : ST) (x1 : Int32) (x3 : Int32) (x4 : Int32) (x5 : Int32) (x6 : Int32), k s_p0 x1 x3 x4 x5 x6 = some res → ∀ (H : Heap) (locs : List Loc), va_P D vwCl (wB cI cJ cZ cQ a_p0 s_p0) H → va_D A (wB cI cJ cZ cQ a_p0 s_p0) → va_S A s.heap H locs → ∀ ls : Array Slot, lv_has ls 7 [(0, .ref (a_p0.1 0)), (1, .int x1), (3, .int x3), (4, .int x4), (5, .int x5), (6, .int x6)] → W p l e (headSpec wsL_load rm_L_load).room s m args below meth c H locs 0 0 (MQ below (qI D (tys4 cI cJ cZ cQ) (wB cI cJ cZ cQ a_p0 res.2) A res.1) args s 0 0 A) (F0 m 24 ls [])
def S_L_load_0 (p : Program) (l : Launch) (e : Env) (s : State) (m : MethodId) (args : Array Value) (below : List Frame) (meth : Method) (c : Code) (A : Nat → Prop) (D : va_G) (cI cJ cZ cQ : ClassId) (a_p0 : AB) (res : R_L_load) (k : ST → Int32 → Int32 → Option R_L_load) : Prop := ∀ (s_p0 : ST) (x1 : Int32) (x2 : Int32), k s_p0 x1 x2 = some res → ∀ (H : Heap) (locs : List Loc), va_P D vwCl (wB cI cJ cZ cQ a_p0 s_p0) H → va_D A (wB cI cJ cZ cQ a_p0 s_p0) → va_S A s.heap H locs → ∀ ls : Array Slot, lv_has ls 7 [(0, .ref (a_p0.1 0)), (1, .int x1), (2, .int x2)] → W p l e (headSpec wsL_load rm_L_load).room s m args below meth c H locs 0 0 (MQ below (qI D (tys4 cI cJ cZ cQ) (wB cI cJ cZ cQ a_p0 res.2) A res.1) args s 0 0 A) (F0 m 0 ls [])
set_option maxHeartbeats 4000000 in
set_option maxRecDepth 100000 in
theorem t_L_load_134 {p : Program} {l : Launch} {e : Env} {s : State} {m : MethodId} {args : Array Value} {below : List Frame} {meth : Method} {c : Code} {A : Nat → Prop} {D : va_G} {cI cJ cZ cQ : ClassId} {a_p0 : AB} {res : R_L_load}  (hC : mcx RL cL_load (some .int) 7 wsL_load p s m args meth c A D (tys4 cI cJ cZ cQ))  : S_L_load_134 p l e s m args below meth c A D cI cJ cZ cQ a_p0 res (f_L_load_134 ) := by
  intro s_p0 y0 y1 hf H locs hP hD hS ls hl
  obtain ⟨hx, hb, hr, hml, hown, hts, hlocks, hA, hK, hN⟩ := id hC
  unfold f_L_load_134 at hf
  refine lv_iadd hx hb dL_load_134 ?_
  refine lv_topi (fun v1 ev1 => ?_)
  replace hf := nm_of ev1 hf
  refine lv_istore_n (lv' := [(3, .int v1), (0, .ref (a_p0.1 0))]) hx hb dL_load_135 rfl hl (by decide) rfl (fun ls hl => ?_)
  refine lv_bipush (v := (7 : Int32)) hx hb dL_load_136 (by decide) ?_
  refine lv_iload_n hx hb dL_load_138 rfl (lv_at hl 0 rfl) ?_
  refine lv_imul hx hb dL_load_139 ?_
  refine lv_aload_n hx hb dL_load_140 rfl (lv_at hl 1 rfl) ?_
  obtain ⟨r2, s3, hq4, hf⟩ := bnd2_of hf
  refine callX (As := []) (rest := [.int ((7 : Int32) * v1)]) (ci := 5) (q0 := 0) (wr := ([])) (WB := (wB cI cJ cZ cQ a_p0 s3)) hx hb hml hown hts hK hN (b_X5_load l D cI cJ cZ cQ a_p0 s_p0  hq4) (cwV 0 hts gL_load_X5_load rfl rfl rfl e_X5_load ⟨Nat.le_of_ble_eq_true rfl, Nat.le_of_ble_eq_true rfl⟩) hP hD hS hA pmN pmN.symm rfl rfl rfl rfl hl (Nat.le_of_ble_eq_true rfl) dL_load_141 ⟨Nat.zero_le _, Nat.zero_le _⟩ rfl (fun H locs hP hD hS => ?_)
  refine lv_iadd hx hb dL_load_144 ?_
  obtain rfl := Option.some.inj hf
  exact endI (ty := .int) hC (nzI _) rfl hP hD hS dL_load_145
set_option maxHeartbeats 4000000 in
set_option maxRecDepth 100000 in
theorem t_L_load_78 {p : Program} {l : Launch} {e : Env} {s : State} {m : MethodId} {args : Array Value} {below : List Frame} {meth : Method} {c : Code} {A : Nat → Prop} {D : va_G} {cI cJ cZ cQ : ClassId} {a_p0 : AB} {res : R_L_load} {k24 : ST → Int32 → Int32 → Int32 → Int32 → Int32 → Option R_L_load} (hC : mcx RL cL_load (some .int) 7 wsL_load p s m args meth c A D (tys4 cI cJ cZ cQ)) (hk24 : S_L_load_24 p l e s m args below meth c A D cI cJ cZ cQ a_p0 res k24) : S_L_load_78 p l e s m args below meth c A D cI cJ cZ cQ a_p0 res (f_L_load_78 k24) := by
  intro s_p0 x1 x4 x5 x6 y0 y1 y3 y4 hf H locs hP hD hS ls hl
  obtain ⟨hx, hb, hr, hml, hown, hts, hlocks, hA, hK, hN⟩ := id hC
  unfold f_L_load_78 at hf
  obtain ⟨hz1, hf⟩ := gNz_of hf
  refine lv_irem hx hb dL_load_78 hz1 ?_
  refine lv_iconst (v := (3 : Int32)) hx hb dL_load_79 (by decide) ?_
  obtain ⟨r2, s3, hq4, hf⟩ := bnd2_of hf
  refine callSI (As := [.ref (a_p0.1 0), .int (y3 - y3 / y4 * y4), .int (3 : Int32)]) (rest := [.int y1, .int y0]) (wr := ([])) (WB := (wB cI cJ cZ cQ a_p0 s3)) hx hb hml hown hts hK hN (c_L_digits l D cI cJ cZ cQ a_p0 s_p0 (y3 - y3 / y4 * y4) (3 : Int32) hq4) (va_cwS 3 hts gL_load_L_digits rfl rfl rfl e_L_digits ⟨Nat.le_of_ble_eq_true rfl, Nat.le_of_ble_eq_true rfl⟩) hP hD hS hA pmN pmN.symm rfl hl (Nat.le_of_ble_eq_true rfl) dL_load_80 ⟨Nat.zero_le _, Nat.zero_le _⟩ rfl (fun H locs hP hD hS => ?_)
  refine lv_iadd hx hb dL_load_83 ?_
  refine lv_iadd hx hb dL_load_84 ?_
  refine lv_topi (fun v5 ev5 => ?_)
  replace hf := nm_of ev5 hf
  refine lv_istore_n (lv' := [(3, .int v5), (0, .ref (a_p0.1 0)), (1, .int x1), (4, .int x4), (5, .int x5), (6, .int x6)]) hx hb dL_load_85 rfl hl (by decide) rfl (fun ls hl => ?_)
  refine lv_iload hx hb dL_load_86 (lv_at hl 3 rfl) ?_
  refine lv_iconst (v := (3 : Int32)) hx hb dL_load_88 (by decide) ?_
  refine lv_idiv hx hb dL_load_89 (by decide) ?_
  refine lv_ldc (v := (105199 : Int32)) hx hb hown (hts (.constant RL 103 (105199)) (List.mem_of_getElem? (i := 1) rfl)) dL_load_90 ?_
  refine lv_iload hx hb dL_load_92 (lv_at hl 5 rfl) ?_
  refine lv_iconst (v := (1 : Int32)) hx hb dL_load_94 (by decide) ?_
  refine lv_iadd hx hb dL_load_95 ?_
  refine lv_imul hx hb dL_load_96 ?_
  refine lv_iadd hx hb dL_load_97 ?_
  refine lv_ldc (v := (2147483647 : Int32)) hx hb hown (hts (.constant RL 8 (2147483647)) (List.mem_of_getElem? (i := 2) rfl)) dL_load_98 ?_
  refine lv_iand hx hb dL_load_100 ?_
  refine lv_topi (fun v6 ev6 => ?_)
  replace hf := nm_of ev6 hf
  refine lv_istore (lv' := [(4, .int v6), (3, .int v5), (0, .ref (a_p0.1 0)), (1, .int x1), (5, .int x5), (6, .int x6)]) hx hb dL_load_101 hl (by decide) rfl (fun ls hl => ?_)
  refine lv_iinc (v := (x6 + (1 : Int32))) (lv' := [(6, .int (x6 + (1 : Int32))), (4, .int v6), (3, .int v5), (0, .ref (a_p0.1 0)), (1, .int x1), (5, .int x5)]) hx hb dL_load_103 hl (k := 5) rfl rfl (by decide) rfl (fun ls hl => ?_)
  refine lv_goto (tgt := 24) hx hb dL_load_106 (by decide) ?_
  exact (hk24) s3 x1 v5 v6 x5 (x6 + (1 : Int32)) hf _ _ hP hD hS _ (lv_sub hl [3, 4, 2, 1, 5, 0] rfl)
set_option maxHeartbeats 4000000 in
set_option maxRecDepth 100000 in
theorem i_L_load_24 {p : Program} {l : Launch} {e : Env} {s : State} {m : MethodId} {args : Array Value} {below : List Frame} {meth : Method} {c : Code} {A : Nat → Prop} {D : va_G} {cI cJ cZ cQ : ClassId} {a_p0 : AB} {res : R_L_load}  {k24 : ST → Int32 → Int32 → Int32 → Int32 → Int32 → Option R_L_load} (hC : mcx RL cL_load (some .int) 7 wsL_load p s m args meth c A D (tys4 cI cJ cZ cQ))  (hk24 : S_L_load_24 p l e s m args below meth c A D cI cJ cZ cQ a_p0 res k24) : S_L_load_24 p l e s m args below meth c A D cI cJ cZ cQ a_p0 res (g_L_load_24  k24) := by
  intro s_p0 x1 x3 x4 x5 x6 hf H locs hP hD hS ls hl
  obtain ⟨hx, hb, hr, hml, hown, hts, hlocks, hA, hK, hN⟩ := id hC
  unfold g_L_load_24 at hf
  refine lv_iload hx hb dL_load_24 (lv_at hl 5 rfl) ?_
  refine lv_iload hx hb dL_load_26 (lv_at hl 4 rfl) ?_
  refine lv_icmp_ge (tgt := 109) hx hb dL_load_28 (by decide) (fun c1 => ?_) (fun c1 => ?_)
  · replace hf := brT c1 hf
    refine lv_iload_n hx hb dL_load_109 rfl (lv_at hl 2 rfl) ?_
    refine lv_iload_n hx hb dL_load_110 rfl (lv_at hl 1 rfl) ?_
    refine lv_bipush (v := (31 : Int32)) hx hb dL_load_111 (by decide) ?_
    refine lv_irem hx hb dL_load_113 (by decide) ?_
    refine lv_if_ne (tgt := 133) hx hb dL_load_114 (by decide) (fun c2 => ?_) (fun c2 => ?_)
    · replace hf := brF c2 hf
      refine lv_iconst (v := (0 : Int32)) hx hb dL_load_133 (by decide) ?_
      exact (t_L_load_134 hC ) s_p0 x3 (0 : Int32) hf _ _ hP hD hS _ (lv_sub hl [0] rfl)
    · replace hf := brT c2 hf
      refine lv_aload_n hx hb dL_load_117 rfl (lv_at hl 0 rfl) ?_
      refine lv_bipush (v := (50 : Int32)) hx hb dL_load_118 (by decide) ?_
      obtain ⟨r3, s4, hq5, hf⟩ := bnd2_of hf
      refine callX (As := [.int (50 : Int32)]) (rest := [.int x3]) (ci := 5) (q0 := 0) (wr := ([])) (WB := (wB cI cJ cZ cQ a_p0 s4)) hx hb hml hown hts hK hN (b_X5_append l D cI cJ cZ cQ a_p0 s_p0 (50 : Int32) hq5) (cwV 1 hts gL_load_X5_append rfl rfl rfl e_X5_append ⟨Nat.le_of_ble_eq_true rfl, Nat.le_of_ble_eq_true rfl⟩) hP hD hS hA pmN pmN.symm rfl rfl rfl rfl hl (Nat.le_of_ble_eq_true rfl) dL_load_120 ⟨Nat.zero_le _, Nat.zero_le _⟩ rfl (fun H locs hP hD hS => ?_)
      refine lv_aload_n hx hb dL_load_123 rfl (lv_at hl 0 rfl) ?_
      refine lv_bipush (v := (49 : Int32)) hx hb dL_load_124 (by decide) ?_
      obtain ⟨r6, s7, hq8, hf⟩ := bnd2_of hf
      refine callX (As := [.int (49 : Int32)]) (rest := [.int r3, .int x3]) (ci := 5) (q0 := 0) (wr := ([])) (WB := (wB cI cJ cZ cQ a_p0 s7)) hx hb hml hown hts hK hN (b_X5_append l D cI cJ cZ cQ a_p0 s4 (49 : Int32) hq8) (cwV 1 hts gL_load_X5_append rfl rfl rfl e_X5_append ⟨Nat.le_of_ble_eq_true rfl, Nat.le_of_ble_eq_true rfl⟩) hP hD hS hA pmN pmN.symm rfl rfl rfl rfl hl (Nat.le_of_ble_eq_true rfl) dL_load_126 ⟨Nat.zero_le _, Nat.zero_le _⟩ rfl (fun H locs hP hD hS => ?_)
      refine lv_iadd hx hb dL_load_129 ?_
      refine lv_goto (tgt := 134) hx hb dL_load_130 (by decide) ?_
      exact (t_L_load_134 hC ) s7 x3 (r3 + r6) hf _ _ hP hD hS _ (lv_sub hl [0] rfl)
  · replace hf := brF c1 hf
    refine lv_iload_n hx hb dL_load_31 rfl (lv_at hl 2 rfl) ?_
    refine lv_aload_n hx hb dL_load_32 rfl (lv_at hl 0 rfl) ?_
    refine lv_iload hx hb dL_load_33 (lv_at hl 3 rfl) ?_
    refine lv_bipush (v := (21 : Int32)) hx hb dL_load_35 (by decide) ?_
    refine lv_irem hx hb dL_load_37 (by decide) ?_
    refine lv_iconst (v := (2 : Int32)) hx hb dL_load_38 (by decide) ?_
    obtain ⟨r9, s10, hq11, hf⟩ := bnd2_of hf
    refine callSI (As := [.ref (a_p0.1 0), .int (x4 - x4 / (21 : Int32) * (21 : Int32)), .int (2 : Int32)]) (rest := [.int x3]) (wr := ([])) (WB := (wB cI cJ cZ cQ a_p0 s10)) hx hb hml hown hts hK hN (c_L_digits l D cI cJ cZ cQ a_p0 s_p0 (x4 - x4 / (21 : Int32) * (21 : Int32)) (2 : Int32) hq11) (va_cwS 3 hts gL_load_L_digits rfl rfl rfl e_L_digits ⟨Nat.le_of_ble_eq_true rfl, Nat.le_of_ble_eq_true rfl⟩) hP hD hS hA pmN pmN.symm rfl hl (Nat.le_of_ble_eq_true rfl) dL_load_39 ⟨Nat.zero_le _, Nat.zero_le _⟩ rfl (fun H locs hP hD hS => ?_)
    refine lv_aload_n hx hb dL_load_42 rfl (lv_at hl 0 rfl) ?_
    refine lv_iload hx hb dL_load_43 (lv_at hl 3 rfl) ?_
    refine lv_bipush (v := (21 : Int32)) hx hb dL_load_45 (by decide) ?_
    refine lv_idiv hx hb dL_load_47 (by decide) ?_
    refine lv_bipush (v := (21 : Int32)) hx hb dL_load_48 (by decide) ?_
    refine lv_irem hx hb dL_load_50 (by decide) ?_
    refine lv_iconst (v := (2 : Int32)) hx hb dL_load_51 (by decide) ?_
    obtain ⟨r12, s13, hq14, hf⟩ := bnd2_of hf
    refine callSI (As := [.ref (a_p0.1 0), .int ((x4 / (21 : Int32)) - (x4 / (21 : Int32)) / (21 : Int32) * (21 : Int32)), .int (2 : Int32)]) (rest := [.int r9, .int x3]) (wr := ([])) (WB := (wB cI cJ cZ cQ a_p0 s13)) hx hb hml hown hts hK hN (c_L_digits l D cI cJ cZ cQ a_p0 s10 ((x4 / (21 : Int32)) - (x4 / (21 : Int32)) / (21 : Int32) * (21 : Int32)) (2 : Int32) hq14) (va_cwS 3 hts gL_load_L_digits rfl rfl rfl e_L_digits ⟨Nat.le_of_ble_eq_true rfl, Nat.le_of_ble_eq_true rfl⟩) hP hD hS hA pmN pmN.symm rfl hl (Nat.le_of_ble_eq_true rfl) dL_load_52 ⟨Nat.zero_le _, Nat.zero_le _⟩ rfl (fun H locs hP hD hS => ?_)
    refine lv_iadd hx hb dL_load_55 ?_
    refine lv_aload_n hx hb dL_load_56 rfl (lv_at hl 0 rfl) ?_
    refine lv_iload hx hb dL_load_57 (lv_at hl 3 rfl) ?_
    refine lv_sipush (v := (441 : Int32)) hx hb dL_load_59 (by decide) ?_
    refine lv_idiv hx hb dL_load_62 (by decide) ?_
    refine lv_iload hx hb dL_load_63 (lv_at hl 3 rfl) ?_
    refine lv_iconst (v := (5 : Int32)) hx hb dL_load_65 (by decide) ?_
    refine lv_irem hx hb dL_load_66 (by decide) ?_
    refine lv_if_ne (tgt := 76) hx hb dL_load_67 (by decide) (fun c15 => ?_) (fun c15 => ?_)
    · replace hf := brF c15 hf
      refine lv_bipush (v := (60 : Int32)) hx hb dL_load_76 (by decide) ?_
      exact (t_L_load_78 hC hk24) s13 x1 x4 x5 x6 x3 (r9 + r12) (x4 / (441 : Int32)) (60 : Int32) hf _ _ hP hD hS _ (lv_sub hl [0, 1, 3, 4, 5] rfl)
    · replace hf := brT c15 hf
      refine lv_sipush (v := (401 : Int32)) hx hb dL_load_70 (by decide) ?_
      refine lv_goto (tgt := 78) hx hb dL_load_73 (by decide) ?_
      exact (t_L_load_78 hC hk24) s13 x1 x4 x5 x6 x3 (r9 + r12) (x4 / (441 : Int32)) (401 : Int32) hf _ _ hP hD hS _ (lv_sub hl [0, 1, 3, 4, 5] rfl)
theorem t_L_load_24 {p : Program} {l : Launch} {e : Env} {s : State} {m : MethodId} {args : Array Value} {below : List Frame} {meth : Method} {c : Code} {A : Nat → Prop} {D : va_G} {cI cJ cZ cQ : ClassId} {a_p0 : AB} {res : R_L_load}  (hC : mcx RL cL_load (some .int) 7 wsL_load p s m args meth c A D (tys4 cI cJ cZ cQ))  (n : Nat) : S_L_load_24 p l e s m args below meth c A D cI cJ cZ cQ a_p0 res (f_L_load_24  n) := by
  induction n with
  | zero =>
    intro s_p0 x1 x3 x4 x5 x6 hf
    exact nomatch (show (none : Option R_L_load) = some res from hf)
  | succ n ih => exact i_L_load_24 hC  ih
set_option maxHeartbeats 4000000 in
set_option maxRecDepth 100000 in
theorem t_L_load_0 {p : Program} {l : Launch} {e : Env} {s : State} {m : MethodId} {args : Array Value} {below : List Frame} {meth : Method} {c : Code} {A : Nat → Prop} {D : va_G} {cI cJ cZ cQ : ClassId} {a_p0 : AB} {res : R_L_load}  (hC : mcx RL cL_load (some .int) 7 wsL_load p s m args meth c A D (tys4 cI cJ cZ cQ))  : S_L_load_0 p l e s m args below meth c A D cI cJ cZ cQ a_p0 res (f_L_load_0 ) := by
  intro s_p0 x1 x2 hf H locs hP hD hS ls hl
  obtain ⟨hx, hb, hr, hml, hown, hts, hlocks, hA, hK, hN⟩ := id hC
  unfold f_L_load_0 at hf
  refine lv_aload_n hx hb dL_load_0 rfl (lv_at hl 0 rfl) ?_
  obtain ⟨r1, s2, hq3, hf⟩ := bnd2_of hf
  refine callX (As := []) (rest := []) (ci := 5) (q0 := 0) (wr := ([])) (WB := (wB cI cJ cZ cQ a_p0 s2)) hx hb hml hown hts hK hN (b_X5_clearText l D cI cJ cZ cQ a_p0 s_p0  hq3) (cwV 0 hts gL_load_X5_clearText rfl rfl rfl e_X5_clearText ⟨Nat.le_of_ble_eq_true rfl, Nat.le_of_ble_eq_true rfl⟩) hP hD hS hA pmN pmN.symm rfl rfl rfl rfl hl (Nat.le_of_ble_eq_true rfl) dL_load_1 ⟨Nat.zero_le _, Nat.zero_le _⟩ rfl (fun H locs hP hD hS => ?_)
  refine lv_aload_n hx hb dL_load_4 rfl (lv_at hl 0 rfl) ?_
  refine lv_bipush (v := (80 : Int32)) hx hb dL_load_5 (by decide) ?_
  obtain ⟨r4, s5, hq6, hf⟩ := bnd2_of hf
  refine callX (As := [.int (80 : Int32)]) (rest := [.int r1]) (ci := 5) (q0 := 0) (wr := ([])) (WB := (wB cI cJ cZ cQ a_p0 s5)) hx hb hml hown hts hK hN (b_X5_append l D cI cJ cZ cQ a_p0 s2 (80 : Int32) hq6) (cwV 1 hts gL_load_X5_append rfl rfl rfl e_X5_append ⟨Nat.le_of_ble_eq_true rfl, Nat.le_of_ble_eq_true rfl⟩) hP hD hS hA pmN pmN.symm rfl rfl rfl rfl hl (Nat.le_of_ble_eq_true rfl) dL_load_7 ⟨Nat.zero_le _, Nat.zero_le _⟩ rfl (fun H locs hP hD hS => ?_)
  refine lv_iadd hx hb dL_load_10 ?_
  refine lv_topi (fun v7 ev7 => ?_)
  replace hf := nm_of ev7 hf
  refine lv_istore_n (lv' := [(3, .int v7), (0, .ref (a_p0.1 0)), (1, .int x1), (2, .int x2)]) hx hb dL_load_11 rfl hl (by decide) rfl (fun ls hl => ?_)
  refine lv_iload_n hx hb dL_load_12 rfl (lv_at hl 3 rfl) ?_
  refine lv_istore (lv' := [(4, .int x2), (3, .int v7), (0, .ref (a_p0.1 0)), (1, .int x1), (2, .int x2)]) hx hb dL_load_13 hl (by decide) rfl (fun ls hl => ?_)
  refine lv_iload_n hx hb dL_load_15 rfl (lv_at hl 3 rfl) ?_
  refine lv_bipush (v := (11 : Int32)) hx hb dL_load_16 (by decide) ?_
  refine lv_irem hx hb dL_load_18 (by decide) ?_
  refine lv_topi (fun v8 ev8 => ?_)
  replace hf := nm_of ev8 hf
  refine lv_istore (lv' := [(5, .int v8), (4, .int x2), (3, .int v7), (0, .ref (a_p0.1 0)), (1, .int x1), (2, .int x2)]) hx hb dL_load_19 hl (by decide) rfl (fun ls hl => ?_)
  refine lv_iconst (v := (0 : Int32)) hx hb dL_load_21 (by decide) ?_
  refine lv_istore (lv' := [(6, .int (0 : Int32)), (5, .int v8), (4, .int x2), (3, .int v7), (0, .ref (a_p0.1 0)), (1, .int x1), (2, .int x2)]) hx hb dL_load_22 hl (by decide) rfl (fun ls hl => ?_)
  exact (t_L_load_24 hC  fuel) s5 x1 v7 x2 v8 (0 : Int32) hf _ _ hP hD hS _ (lv_sub hl [4, 5, 3, 2, 1, 0] rfl)
theorem c_L_load (l : Launch) (D : va_G) (cI cJ cZ cQ : ClassId) (a_p0 : AB) (s_p0 : ST) (p1 : Int32) (p2 : Int32) {res : R_L_load} (hf : f_L_load_0 s_p0 p1 p2 = some res) : MetI l D (tys4 cI cJ cZ cQ) yL_load wsL_load rm_L_load [.ref (a_p0.1 0), .int p1, .int p2] (wB cI cJ cZ cQ a_p0 s_p0) (wB cI cJ cZ cQ a_p0 res.2) res.1 := by
  intro sz
  exact metW (own := RL) (cc := cL_load) (nL := 7) (ret := (some .int)) (Qc := fun A => qI D (tys4 cI cJ cZ cQ) (wB cI cJ cZ cQ a_p0 res.2) A res.1) (by decide) rfl rfl (Nat.le_of_ble_eq_true rfl) (fun p e s m args below meth c A hC hP hD hS ls hl => t_L_load_0 hC s_p0 p1 p2 hf _ _ hP hD hS _ (lv_sub hl [0, 1, 2] rfl)) sz
theorem e_L_load : yL_load.cls ≠ "java/lang/invoke/MethodHandle" ∧ yL_load.cls ≠ "java/lang/invoke/VarHandle" ∧ (parseMethodDescriptor yL_load.desc).map (fun d => d.parameters.length) = some 3 := by decide +kernel
abbrev rm_L_state : Room := { frames := 2, cells := 0, slots := 0, locals := 43 }
def S_L_state_8 (p : Program) (l : Launch) (e : Env) (s : State) (m : MethodId) (args : Array Value) (below : List Frame) (meth : Method) (c : Code) (A : Nat → Prop) (D : va_G) (cI cJ cZ cQ : ClassId) (a_p0 : AB) (res : R_L_state) (k : ST → Int64 → Int32 → Option R_L_state) : Prop := ∀ (s_p0 : ST) (x1 : Int64) (x3 : Int32), k s_p0 x1 x3 = some res → ∀ (H : Heap) (locs : List Loc), va_P D vwCl (wB cI cJ cZ cQ a_p0 s_p0) H → va_D A (wB cI cJ cZ cQ a_p0 s_p0) → va_S A s.heap H locs → ∀ ls : Array Slot, lv_has ls 4 [(0, .ref (a_p0.1 0)), (1, .long x1), (3, .int x3)] → W p l e (headSpec wsL_state rm_L_state).room s m args below meth c H locs 0 0 (MQ below (qL D (tys4 cI cJ cZ cQ) (wB cI cJ cZ cQ a_p0 res.2) A res.1) args s 0 0 A) (F0 m 8 ls [])
def S_L_state_0 (p : Program) (l : Launch) (e : Env) (s : State) (m : MethodId) (args : Array Value) (below : List Frame) (meth : Method) (c : Code) (A : Nat → Prop) (D : va_G) (cI cJ cZ cQ : ClassId) (a_p0 : AB) (res : R_L_state) (k : ST → Option R_L_state) : Prop := ∀ (s_p0 : ST), k s_p0 = some res → ∀ (H : Heap) (locs : List Loc), va_P D vwCl (wB cI cJ cZ cQ a_p0 s_p0) H → va_D A (wB cI cJ cZ cQ a_p0 s_p0) → va_S A s.heap H locs → ∀ ls : Array Slot, lv_has ls 4 [(0, .ref (a_p0.1 0))] → W p l e (headSpec wsL_state rm_L_state).room s m args below meth c H locs 0 0 (MQ below (qL D (tys4 cI cJ cZ cQ) (wB cI cJ cZ cQ a_p0 res.2) A res.1) args s 0 0 A) (F0 m 0 ls [])
set_option maxHeartbeats 4000000 in
set_option maxRecDepth 100000 in
theorem i_L_state_8 {p : Program} {l : Launch} {e : Env} {s : State} {m : MethodId} {args : Array Value} {below : List Frame} {meth : Method} {c : Code} {A : Nat → Prop} {D : va_G} {cI cJ cZ cQ : ClassId} {a_p0 : AB} {res : R_L_state}  {k8 : ST → Int64 → Int32 → Option R_L_state} (hC : mcx RL cL_state (some .long) 4 wsL_state p s m args meth c A D (tys4 cI cJ cZ cQ))  (hk8 : S_L_state_8 p l e s m args below meth c A D cI cJ cZ cQ a_p0 res k8) : S_L_state_8 p l e s m args below meth c A D cI cJ cZ cQ a_p0 res (g_L_state_8  k8) := by
  intro s_p0 x1 x3 hf H locs hP hD hS ls hl
  obtain ⟨hx, hb, hr, hml, hown, hts, hlocks, hA, hK, hN⟩ := id hC
  unfold g_L_state_8 at hf
  refine lv_iload_n hx hb dL_state_8 rfl (lv_at hl 2 rfl) ?_
  refine lv_aload_n hx hb dL_state_9 rfl (lv_at hl 0 rfl) ?_
  obtain ⟨r1, s2, hq3, hf⟩ := bnd2_of hf
  refine callX (As := []) (rest := [.int x3]) (ci := 5) (q0 := 0) (wr := ([])) (WB := (wB cI cJ cZ cQ a_p0 s2)) hx hb hml hown hts hK hN (b_X5_siteCount l D cI cJ cZ cQ a_p0 s_p0  hq3) (cwV 0 hts gL_state_X5_siteCount rfl rfl rfl e_X5_siteCount ⟨Nat.le_of_ble_eq_true rfl, Nat.le_of_ble_eq_true rfl⟩) hP hD hS hA pmN pmN.symm rfl rfl rfl rfl hl (Nat.le_of_ble_eq_true rfl) dL_state_10 ⟨Nat.zero_le _, Nat.zero_le _⟩ rfl (fun H locs hP hD hS => ?_)
  refine lv_icmp_ge (tgt := 59) hx hb dL_state_13 (by decide) (fun c4 => ?_) (fun c4 => ?_)
  · replace hf := brT c4 hf
    refine lv_lload_n hx hb dL_state_59 rfl (lv_at hl 1 rfl) ?_
    obtain rfl := Option.some.inj hf
    exact endL hC rfl hP hD hS dL_state_60
  · replace hf := brF c4 hf
    refine lv_ldc2 (v := (1000003 : Int64)) hx hb hown (hts (.constantLong RL 115 (1000003)) (List.mem_of_getElem? (i := 1) rfl)) dL_state_16 ?_
    refine lv_lload_n hx hb dL_state_19 rfl (lv_at hl 1 rfl) ?_
    refine lv_lmul hx hb dL_state_20 ?_
    refine lv_sipush (v := (441 : Int32)) hx hb dL_state_21 (by decide) ?_
    refine lv_aload_n hx hb dL_state_24 rfl (lv_at hl 0 rfl) ?_
    refine lv_iload_n hx hb dL_state_25 rfl (lv_at hl 2 rfl) ?_
    refine lv_iconst (v := (2 : Int32)) hx hb dL_state_26 (by decide) ?_
    obtain ⟨r5, s6, hq7, hf⟩ := bnd2_of hf
    refine callX (As := [.int x3, .int (2 : Int32)]) (rest := [.int (441 : Int32), .long ((1000003 : Int64) * x1)]) (ci := 5) (q0 := 0) (wr := ([])) (WB := (wB cI cJ cZ cQ a_p0 s6)) hx hb hml hown hts hK hN (b_X5_site l D cI cJ cZ cQ a_p0 s2 x3 (2 : Int32) hq7) (cwV 2 hts gL_state_X5_site rfl rfl rfl e_X5_site ⟨Nat.le_of_ble_eq_true rfl, Nat.le_of_ble_eq_true rfl⟩) hP hD hS hA pmN pmN.symm rfl rfl rfl rfl hl (Nat.le_of_ble_eq_true rfl) dL_state_27 ⟨Nat.zero_le _, Nat.zero_le _⟩ rfl (fun H locs hP hD hS => ?_)
    refine lv_imul hx hb dL_state_30 ?_
    refine lv_i2l (v := ((441 : Int32) * r5).toInt64) hx hb dL_state_31 rfl ?_
    refine lv_ladd hx hb dL_state_32 ?_
    refine lv_bipush (v := (21 : Int32)) hx hb dL_state_33 (by decide) ?_
    refine lv_aload_n hx hb dL_state_35 rfl (lv_at hl 0 rfl) ?_
    refine lv_iload_n hx hb dL_state_36 rfl (lv_at hl 2 rfl) ?_
    refine lv_iconst (v := (0 : Int32)) hx hb dL_state_37 (by decide) ?_
    obtain ⟨r8, s9, hq10, hf⟩ := bnd2_of hf
    refine callX (As := [.int x3, .int (0 : Int32)]) (rest := [.int (21 : Int32), .long (((1000003 : Int64) * x1) + ((441 : Int32) * r5).toInt64)]) (ci := 5) (q0 := 0) (wr := ([])) (WB := (wB cI cJ cZ cQ a_p0 s9)) hx hb hml hown hts hK hN (b_X5_site l D cI cJ cZ cQ a_p0 s6 x3 (0 : Int32) hq10) (cwV 2 hts gL_state_X5_site rfl rfl rfl e_X5_site ⟨Nat.le_of_ble_eq_true rfl, Nat.le_of_ble_eq_true rfl⟩) hP hD hS hA pmN pmN.symm rfl rfl rfl rfl hl (Nat.le_of_ble_eq_true rfl) dL_state_38 ⟨Nat.zero_le _, Nat.zero_le _⟩ rfl (fun H locs hP hD hS => ?_)
    refine lv_imul hx hb dL_state_41 ?_
    refine lv_i2l (v := ((21 : Int32) * r8).toInt64) hx hb dL_state_42 rfl ?_
    refine lv_ladd hx hb dL_state_43 ?_
    refine lv_aload_n hx hb dL_state_44 rfl (lv_at hl 0 rfl) ?_
    refine lv_iload_n hx hb dL_state_45 rfl (lv_at hl 2 rfl) ?_
    refine lv_iconst (v := (1 : Int32)) hx hb dL_state_46 (by decide) ?_
    obtain ⟨r11, s12, hq13, hf⟩ := bnd2_of hf
    refine callX (As := [.int x3, .int (1 : Int32)]) (rest := [.long ((((1000003 : Int64) * x1) + ((441 : Int32) * r5).toInt64) + ((21 : Int32) * r8).toInt64)]) (ci := 5) (q0 := 0) (wr := ([])) (WB := (wB cI cJ cZ cQ a_p0 s12)) hx hb hml hown hts hK hN (b_X5_site l D cI cJ cZ cQ a_p0 s9 x3 (1 : Int32) hq13) (cwV 2 hts gL_state_X5_site rfl rfl rfl e_X5_site ⟨Nat.le_of_ble_eq_true rfl, Nat.le_of_ble_eq_true rfl⟩) hP hD hS hA pmN pmN.symm rfl rfl rfl rfl hl (Nat.le_of_ble_eq_true rfl) dL_state_47 ⟨Nat.zero_le _, Nat.zero_le _⟩ rfl (fun H locs hP hD hS => ?_)
    refine lv_i2l (v := r11.toInt64) hx hb dL_state_50 rfl ?_
    refine lv_ladd hx hb dL_state_51 ?_
    refine lv_topl (fun v14 ev14 => ?_)
    replace hf := nm_of ev14 hf
    refine lv_lstore_n (lv' := [(1, .long v14), (0, .ref (a_p0.1 0)), (3, .int x3)]) hx hb dL_state_52 rfl hl (by decide) rfl (fun ls hl => ?_)
    refine lv_iinc (v := (x3 + (1 : Int32))) (lv' := [(3, .int (x3 + (1 : Int32))), (1, .long v14), (0, .ref (a_p0.1 0))]) hx hb dL_state_53 hl (k := 2) rfl rfl (by decide) rfl (fun ls hl => ?_)
    refine lv_goto (tgt := 8) hx hb dL_state_56 (by decide) ?_
    exact (hk8) s12 v14 (x3 + (1 : Int32)) hf _ _ hP hD hS _ (lv_sub hl [2, 1, 0] rfl)
theorem t_L_state_8 {p : Program} {l : Launch} {e : Env} {s : State} {m : MethodId} {args : Array Value} {below : List Frame} {meth : Method} {c : Code} {A : Nat → Prop} {D : va_G} {cI cJ cZ cQ : ClassId} {a_p0 : AB} {res : R_L_state}  (hC : mcx RL cL_state (some .long) 4 wsL_state p s m args meth c A D (tys4 cI cJ cZ cQ))  (n : Nat) : S_L_state_8 p l e s m args below meth c A D cI cJ cZ cQ a_p0 res (f_L_state_8  n) := by
  induction n with
  | zero =>
    intro s_p0 x1 x3 hf
    exact nomatch (show (none : Option R_L_state) = some res from hf)
  | succ n ih => exact i_L_state_8 hC  ih
set_option maxHeartbeats 4000000 in
set_option maxRecDepth 100000 in
theorem t_L_state_0 {p : Program} {l : Launch} {e : Env} {s : State} {m : MethodId} {args : Array Value} {below : List Frame} {meth : Method} {c : Code} {A : Nat → Prop} {D : va_G} {cI cJ cZ cQ : ClassId} {a_p0 : AB} {res : R_L_state}  (hC : mcx RL cL_state (some .long) 4 wsL_state p s m args meth c A D (tys4 cI cJ cZ cQ))  : S_L_state_0 p l e s m args below meth c A D cI cJ cZ cQ a_p0 res (f_L_state_0 ) := by
  intro s_p0 hf H locs hP hD hS ls hl
  obtain ⟨hx, hb, hr, hml, hown, hts, hlocks, hA, hK, hN⟩ := id hC
  unfold f_L_state_0 at hf
  refine lv_aload_n hx hb dL_state_0 rfl (lv_at hl 0 rfl) ?_
  obtain ⟨r1, s2, hq3, hf⟩ := bnd2_of hf
  refine callX (As := []) (rest := []) (ci := 5) (q0 := 0) (wr := ([])) (WB := (wB cI cJ cZ cQ a_p0 s2)) hx hb hml hown hts hK hN (b_X5_siteCount l D cI cJ cZ cQ a_p0 s_p0  hq3) (cwV 0 hts gL_state_X5_siteCount rfl rfl rfl e_X5_siteCount ⟨Nat.le_of_ble_eq_true rfl, Nat.le_of_ble_eq_true rfl⟩) hP hD hS hA pmN pmN.symm rfl rfl rfl rfl hl (Nat.le_of_ble_eq_true rfl) dL_state_1 ⟨Nat.zero_le _, Nat.zero_le _⟩ rfl (fun H locs hP hD hS => ?_)
  refine lv_i2l (v := r1.toInt64) hx hb dL_state_4 rfl ?_
  refine lv_topl (fun v4 ev4 => ?_)
  replace hf := nm_of ev4 hf
  refine lv_lstore_n (lv' := [(1, .long v4), (0, .ref (a_p0.1 0))]) hx hb dL_state_5 rfl hl (by decide) rfl (fun ls hl => ?_)
  refine lv_iconst (v := (0 : Int32)) hx hb dL_state_6 (by decide) ?_
  refine lv_istore_n (lv' := [(3, .int (0 : Int32)), (1, .long v4), (0, .ref (a_p0.1 0))]) hx hb dL_state_7 rfl hl (by decide) rfl (fun ls hl => ?_)
  exact (t_L_state_8 hC  fuel) s2 v4 (0 : Int32) hf _ _ hP hD hS _ (lv_sub hl [2, 1, 0] rfl)
theorem c_L_state (l : Launch) (D : va_G) (cI cJ cZ cQ : ClassId) (a_p0 : AB) (s_p0 : ST)  {res : R_L_state} (hf : f_L_state_0 s_p0  = some res) : MetL l D (tys4 cI cJ cZ cQ) yL_state wsL_state rm_L_state [.ref (a_p0.1 0)] (wB cI cJ cZ cQ a_p0 s_p0) (wB cI cJ cZ cQ a_p0 res.2) res.1 := by
  intro sz
  exact metW (own := RL) (cc := cL_state) (nL := 4) (ret := (some .long)) (Qc := fun A => qL D (tys4 cI cJ cZ cQ) (wB cI cJ cZ cQ a_p0 res.2) A res.1) (by decide) rfl rfl (Nat.le_of_ble_eq_true rfl) (fun p e s m args below meth c A hC hP hD hS ls hl => t_L_state_0 hC s_p0  hf _ _ hP hD hS _ (lv_sub hl [0] rfl)) sz
theorem e_L_state : yL_state.cls ≠ "java/lang/invoke/MethodHandle" ∧ yL_state.cls ≠ "java/lang/invoke/VarHandle" ∧ (parseMethodDescriptor yL_state.desc).map (fun d => d.parameters.length) = some 1 := by decide +kernel
abbrev rm_L_act : Room := { frames := 6, cells := 0, slots := 0, locals := 132 }
def S_L_act_240 (p : Program) (l : Launch) (e : Env) (s : State) (m : MethodId) (args : Array Value) (below : List Frame) (meth : Method) (c : Code) (A : Nat → Prop) (D : va_G) (cI cJ cZ cQ : ClassId) (a_p0 : AB) (res : R_L_act) (k : ST → Int32 → Int32 → Int32 → Option R_L_act) : Prop := ∀ (s_p0 : ST) (y1 : Int32) (y2 : Int32) (y3 : Int32), k s_p0 y1 y2 y3 = some res → ∀ (H : Heap) (locs : List Loc), va_P D vwCl (wB cI cJ cZ cQ a_p0 s_p0) H → va_D A (wB cI cJ cZ cQ a_p0 s_p0) → va_S A s.heap H locs → ∀ ls : Array Slot, lv_has ls 5 [] → W p l e (headSpec wsL_act rm_L_act).room s m args below meth c H locs 0 0 (MQ below (qI D (tys4 cI cJ cZ cQ) (wB cI cJ cZ cQ a_p0 res.2) A res.1) args s 0 0 A) (F0 m 240 ls [.int y3, .int y2, .int y1, .ref (a_p0.1 0)])
def S_L_act_132 (p : Program) (l : Launch) (e : Env) (s : State) (m : MethodId) (args : Array Value) (below : List Frame) (meth : Method) (c : Code) (A : Nat → Prop) (D : va_G) (cI cJ cZ cQ : ClassId) (a_p0 : AB) (res : R_L_act) (k : ST → Int32 → Int32 → Int32 → Int32 → Option R_L_act) : Prop := ∀ (s_p0 : ST) (y1 : Int32) (y2 : Int32) (y3 : Int32) (y4 : Int32), k s_p0 y1 y2 y3 y4 = some res → ∀ (H : Heap) (locs : List Loc), va_P D vwCl (wB cI cJ cZ cQ a_p0 s_p0) H → va_D A (wB cI cJ cZ cQ a_p0 s_p0) → va_S A s.heap H locs → ∀ ls : Array Slot, lv_has ls 5 [] → W p l e (headSpec wsL_act rm_L_act).room s m args below meth c H locs 0 0 (MQ below (qI D (tys4 cI cJ cZ cQ) (wB cI cJ cZ cQ a_p0 res.2) A res.1) args s 0 0 A) (F0 m 132 ls [.int y4, .int y3, .int y2, .int y1, .ref (a_p0.1 0)])
def S_L_act_16 (p : Program) (l : Launch) (e : Env) (s : State) (m : MethodId) (args : Array Value) (below : List Frame) (meth : Method) (c : Code) (A : Nat → Prop) (D : va_G) (cI cJ cZ cQ : ClassId) (a_p0 : AB) (res : R_L_act) (k : ST → Int32 → Int32 → Int32 → Option R_L_act) : Prop := ∀ (s_p0 : ST) (x1 : Int32) (x2 : Int32) (y0 : Int32), k s_p0 x1 x2 y0 = some res → ∀ (H : Heap) (locs : List Loc), va_P D vwCl (wB cI cJ cZ cQ a_p0 s_p0) H → va_D A (wB cI cJ cZ cQ a_p0 s_p0) → va_S A s.heap H locs → ∀ ls : Array Slot, lv_has ls 5 [(0, .ref (a_p0.1 0)), (1, .int x1), (2, .int x2)] → W p l e (headSpec wsL_act rm_L_act).room s m args below meth c H locs 0 0 (MQ below (qI D (tys4 cI cJ cZ cQ) (wB cI cJ cZ cQ a_p0 res.2) A res.1) args s 0 0 A) (F0 m 16 ls [.int y0])
def S_L_act_0 (p : Program) (l : Launch) (e : Env) (s : State) (m : MethodId) (args : Array Value) (below : List Frame) (meth : Method) (c : Code) (A : Nat → Prop) (D : va_G) (cI cJ cZ cQ : ClassId) (a_p0 : AB) (res : R_L_act) (k : ST → Int32 → Int32 → Option R_L_act) : Prop := ∀ (s_p0 : ST) (x1 : Int32) (x2 : Int32), k s_p0 x1 x2 = some res → ∀ (H : Heap) (locs : List Loc), va_P D vwCl (wB cI cJ cZ cQ a_p0 s_p0) H → va_D A (wB cI cJ cZ cQ a_p0 s_p0) → va_S A s.heap H locs → ∀ ls : Array Slot, lv_has ls 5 [(0, .ref (a_p0.1 0)), (1, .int x1), (2, .int x2)] → W p l e (headSpec wsL_act rm_L_act).room s m args below meth c H locs 0 0 (MQ below (qI D (tys4 cI cJ cZ cQ) (wB cI cJ cZ cQ a_p0 res.2) A res.1) args s 0 0 A) (F0 m 0 ls [])
set_option maxHeartbeats 4000000 in
set_option maxRecDepth 100000 in
theorem t_L_act_240 {p : Program} {l : Launch} {e : Env} {s : State} {m : MethodId} {args : Array Value} {below : List Frame} {meth : Method} {c : Code} {A : Nat → Prop} {D : va_G} {cI cJ cZ cQ : ClassId} {a_p0 : AB} {res : R_L_act}  (hC : mcx RL cL_act (some .int) 5 wsL_act p s m args meth c A D (tys4 cI cJ cZ cQ))  : S_L_act_240 p l e s m args below meth c A D cI cJ cZ cQ a_p0 res (f_L_act_240 ) := by
  intro s_p0 y1 y2 y3 hf H locs hP hD hS ls hl
  obtain ⟨hx, hb, hr, hml, hown, hts, hlocks, hA, hK, hN⟩ := id hC
  unfold f_L_act_240 at hf
  obtain ⟨r1, s2, hq3, hf⟩ := bnd2_of hf
  refine callX (As := [.int y1, .int y2, .int y3]) (rest := []) (ci := 5) (q0 := 0) (wr := ([])) (WB := (wB cI cJ cZ cQ a_p0 s2)) hx hb hml hown hts hK hN (b_X5_observe l D cI cJ cZ cQ a_p0 s_p0 y1 y2 y3 hq3) (cwV 3 hts gL_act_X5_observe rfl rfl rfl e_X5_observe ⟨Nat.le_of_ble_eq_true rfl, Nat.le_of_ble_eq_true rfl⟩) hP hD hS hA pmN pmN.symm rfl rfl rfl rfl hl (Nat.le_of_ble_eq_true rfl) dL_act_240 ⟨Nat.zero_le _, Nat.zero_le _⟩ rfl (fun H locs hP hD hS => ?_)
  obtain rfl := Option.some.inj hf
  exact endI (ty := .int) hC (nzI _) rfl hP hD hS dL_act_243
set_option maxHeartbeats 4000000 in
set_option maxRecDepth 100000 in
theorem t_L_act_132 {p : Program} {l : Launch} {e : Env} {s : State} {m : MethodId} {args : Array Value} {below : List Frame} {meth : Method} {c : Code} {A : Nat → Prop} {D : va_G} {cI cJ cZ cQ : ClassId} {a_p0 : AB} {res : R_L_act}  (hC : mcx RL cL_act (some .int) 5 wsL_act p s m args meth c A D (tys4 cI cJ cZ cQ))  : S_L_act_132 p l e s m args below meth c A D cI cJ cZ cQ a_p0 res (f_L_act_132 ) := by
  intro s_p0 y1 y2 y3 y4 hf H locs hP hD hS ls hl
  obtain ⟨hx, hb, hr, hml, hown, hts, hlocks, hA, hK, hN⟩ := id hC
  unfold f_L_act_132 at hf
  obtain ⟨hz1, hf⟩ := gNz_of hf
  refine lv_irem hx hb dL_act_132 hz1 ?_
  obtain ⟨r2, s3, hq4, hf⟩ := bnd2_of hf
  refine callX (As := [.int y1, .int y2, .int (y3 - y3 / y4 * y4)]) (rest := []) (ci := 5) (q0 := 0) (wr := ([])) (WB := (wB cI cJ cZ cQ a_p0 s3)) hx hb hml hown hts hK hN (b_X5_add l D cI cJ cZ cQ a_p0 s_p0 y1 y2 (y3 - y3 / y4 * y4) hq4) (cwV 3 hts gL_act_X5_add rfl rfl rfl e_X5_add ⟨Nat.le_of_ble_eq_true rfl, Nat.le_of_ble_eq_true rfl⟩) hP hD hS hA pmN pmN.symm rfl rfl rfl rfl hl (Nat.le_of_ble_eq_true rfl) dL_act_133 ⟨Nat.zero_le _, Nat.zero_le _⟩ rfl (fun H locs hP hD hS => ?_)
  obtain rfl := Option.some.inj hf
  exact endI (ty := .int) hC (nzI _) rfl hP hD hS dL_act_136
set_option maxHeartbeats 4000000 in
set_option maxRecDepth 100000 in
theorem t_L_act_16 {p : Program} {l : Launch} {e : Env} {s : State} {m : MethodId} {args : Array Value} {below : List Frame} {meth : Method} {c : Code} {A : Nat → Prop} {D : va_G} {cI cJ cZ cQ : ClassId} {a_p0 : AB} {res : R_L_act}  (hC : mcx RL cL_act (some .int) 5 wsL_act p s m args meth c A D (tys4 cI cJ cZ cQ))  : S_L_act_16 p l e s m args below meth c A D cI cJ cZ cQ a_p0 res (f_L_act_16 ) := by
  intro s_p0 x1 x2 y0 hf H locs hP hD hS ls hl
  obtain ⟨hx, hb, hr, hml, hown, hts, hlocks, hA, hK, hN⟩ := id hC
  unfold f_L_act_16 at hf
  refine lv_istore (lv' := [(4, .int y0), (0, .ref (a_p0.1 0)), (1, .int x1), (2, .int x2)]) hx hb dL_act_16 hl (by decide) rfl (fun ls hl => ?_)
  refine lv_iload_n hx hb dL_act_18 rfl (lv_at hl 2 rfl) ?_
  refine lv_bipush (v := (15 : Int32)) hx hb dL_act_19 (by decide) ?_
  refine lv_iand hx hb dL_act_21 ?_
  refine lv_topi (fun v1 ev1 => ?_)
  replace hf := nm_of ev1 hf
  by_cases c2 : v1 = (0 : Int32)
  · replace hf := brT c2 hf
    refine lv_tableIn (tgt := 92) hx hb dL_act_22 (by rw [c2]; decide) (by rw [c2]; decide) (off := 70) (by rw [c2]; rfl) (by decide) ?_
    refine lv_aload_n hx hb dL_act_92 rfl (lv_at hl 1 rfl) ?_
    refine lv_iload_n hx hb dL_act_93 rfl (lv_at hl 2 rfl) ?_
    refine lv_iconst (v := (4 : Int32)) hx hb dL_act_94 (by decide) ?_
    refine lv_ishr hx hb dL_act_95 ?_
    refine lv_iload_n hx hb dL_act_96 rfl (lv_at hl 3 rfl) ?_
    obtain ⟨r3, s4, hq5, hf⟩ := bnd2_of hf
    refine callSI (As := [.ref (a_p0.1 0), .int (x1 >>> ((4 : Int32) &&& 31)), .int x2]) (rest := []) (wr := ([])) (WB := (wB cI cJ cZ cQ a_p0 s4)) hx hb hml hown hts hK hN (c_L_load l D cI cJ cZ cQ a_p0 s_p0 (x1 >>> ((4 : Int32) &&& 31)) x2 hq5) (va_cwS 3 hts gL_act_L_load rfl rfl rfl e_L_load ⟨Nat.le_of_ble_eq_true rfl, Nat.le_of_ble_eq_true rfl⟩) hP hD hS hA pmN pmN.symm rfl hl (Nat.le_of_ble_eq_true rfl) dL_act_97 ⟨Nat.zero_le _, Nat.zero_le _⟩ rfl (fun H locs hP hD hS => ?_)
    obtain rfl := Option.some.inj hf
    exact endI (ty := .int) hC (nzI _) rfl hP hD hS dL_act_100
  · replace hf := brF c2 hf
    by_cases c6 : v1 = (1 : Int32)
    · replace hf := brT c6 hf
      refine lv_tableIn (tgt := 92) hx hb dL_act_22 (by rw [c6]; decide) (by rw [c6]; decide) (off := 70) (by rw [c6]; rfl) (by decide) ?_
      refine lv_aload_n hx hb dL_act_92 rfl (lv_at hl 1 rfl) ?_
      refine lv_iload_n hx hb dL_act_93 rfl (lv_at hl 2 rfl) ?_
      refine lv_iconst (v := (4 : Int32)) hx hb dL_act_94 (by decide) ?_
      refine lv_ishr hx hb dL_act_95 ?_
      refine lv_iload_n hx hb dL_act_96 rfl (lv_at hl 3 rfl) ?_
      obtain ⟨r7, s8, hq9, hf⟩ := bnd2_of hf
      refine callSI (As := [.ref (a_p0.1 0), .int (x1 >>> ((4 : Int32) &&& 31)), .int x2]) (rest := []) (wr := ([])) (WB := (wB cI cJ cZ cQ a_p0 s8)) hx hb hml hown hts hK hN (c_L_load l D cI cJ cZ cQ a_p0 s_p0 (x1 >>> ((4 : Int32) &&& 31)) x2 hq9) (va_cwS 3 hts gL_act_L_load rfl rfl rfl e_L_load ⟨Nat.le_of_ble_eq_true rfl, Nat.le_of_ble_eq_true rfl⟩) hP hD hS hA pmN pmN.symm rfl hl (Nat.le_of_ble_eq_true rfl) dL_act_97 ⟨Nat.zero_le _, Nat.zero_le _⟩ rfl (fun H locs hP hD hS => ?_)
      obtain rfl := Option.some.inj hf
      exact endI (ty := .int) hC (nzI _) rfl hP hD hS dL_act_100
    · replace hf := brF c6 hf
      by_cases c10 : v1 = (2 : Int32)
      · replace hf := brT c10 hf
        refine lv_tableIn (tgt := 92) hx hb dL_act_22 (by rw [c10]; decide) (by rw [c10]; decide) (off := 70) (by rw [c10]; rfl) (by decide) ?_
        refine lv_aload_n hx hb dL_act_92 rfl (lv_at hl 1 rfl) ?_
        refine lv_iload_n hx hb dL_act_93 rfl (lv_at hl 2 rfl) ?_
        refine lv_iconst (v := (4 : Int32)) hx hb dL_act_94 (by decide) ?_
        refine lv_ishr hx hb dL_act_95 ?_
        refine lv_iload_n hx hb dL_act_96 rfl (lv_at hl 3 rfl) ?_
        obtain ⟨r11, s12, hq13, hf⟩ := bnd2_of hf
        refine callSI (As := [.ref (a_p0.1 0), .int (x1 >>> ((4 : Int32) &&& 31)), .int x2]) (rest := []) (wr := ([])) (WB := (wB cI cJ cZ cQ a_p0 s12)) hx hb hml hown hts hK hN (c_L_load l D cI cJ cZ cQ a_p0 s_p0 (x1 >>> ((4 : Int32) &&& 31)) x2 hq13) (va_cwS 3 hts gL_act_L_load rfl rfl rfl e_L_load ⟨Nat.le_of_ble_eq_true rfl, Nat.le_of_ble_eq_true rfl⟩) hP hD hS hA pmN pmN.symm rfl hl (Nat.le_of_ble_eq_true rfl) dL_act_97 ⟨Nat.zero_le _, Nat.zero_le _⟩ rfl (fun H locs hP hD hS => ?_)
        obtain rfl := Option.some.inj hf
        exact endI (ty := .int) hC (nzI _) rfl hP hD hS dL_act_100
      · replace hf := brF c10 hf
        by_cases c14 : v1 = (3 : Int32)
        · replace hf := brT c14 hf
          refine lv_tableIn (tgt := 101) hx hb dL_act_22 (by rw [c14]; decide) (by rw [c14]; decide) (off := 79) (by rw [c14]; rfl) (by decide) ?_
          refine lv_aload_n hx hb dL_act_101 rfl (lv_at hl 1 rfl) ?_
          refine lv_iload_n hx hb dL_act_102 rfl (lv_at hl 3 rfl) ?_
          refine lv_bipush (v := (21 : Int32)) hx hb dL_act_103 (by decide) ?_
          refine lv_irem hx hb dL_act_105 (by decide) ?_
          refine lv_iload_n hx hb dL_act_106 rfl (lv_at hl 3 rfl) ?_
          refine lv_bipush (v := (21 : Int32)) hx hb dL_act_107 (by decide) ?_
          refine lv_idiv hx hb dL_act_109 (by decide) ?_
          refine lv_bipush (v := (21 : Int32)) hx hb dL_act_110 (by decide) ?_
          refine lv_irem hx hb dL_act_112 (by decide) ?_
          refine lv_iload_n hx hb dL_act_113 rfl (lv_at hl 3 rfl) ?_
          refine lv_sipush (v := (441 : Int32)) hx hb dL_act_114 (by decide) ?_
          refine lv_idiv hx hb dL_act_117 (by decide) ?_
          refine lv_iload_n hx hb dL_act_118 rfl (lv_at hl 2 rfl) ?_
          refine lv_iconst (v := (3 : Int32)) hx hb dL_act_119 (by decide) ?_
          refine lv_irem hx hb dL_act_120 (by decide) ?_
          refine lv_if_ne (tgt := 130) hx hb dL_act_121 (by decide) (fun c15 => ?_) (fun c15 => ?_)
          · replace hf := brF c15 hf
            refine lv_bipush (v := (40 : Int32)) hx hb dL_act_130 (by decide) ?_
            exact (t_L_act_132 hC ) s_p0 (x2 - x2 / (21 : Int32) * (21 : Int32)) ((x2 / (21 : Int32)) - (x2 / (21 : Int32)) / (21 : Int32) * (21 : Int32)) (x2 / (441 : Int32)) (40 : Int32) hf _ _ hP hD hS _ (lv_sub hl [] rfl)
          · replace hf := brT c15 hf
            refine lv_sipush (v := (401 : Int32)) hx hb dL_act_124 (by decide) ?_
            refine lv_goto (tgt := 132) hx hb dL_act_127 (by decide) ?_
            exact (t_L_act_132 hC ) s_p0 (x2 - x2 / (21 : Int32) * (21 : Int32)) ((x2 / (21 : Int32)) - (x2 / (21 : Int32)) / (21 : Int32) * (21 : Int32)) (x2 / (441 : Int32)) (401 : Int32) hf _ _ hP hD hS _ (lv_sub hl [] rfl)
        · replace hf := brF c14 hf
          by_cases c16 : v1 = (4 : Int32)
          · replace hf := brT c16 hf
            refine lv_tableIn (tgt := 101) hx hb dL_act_22 (by rw [c16]; decide) (by rw [c16]; decide) (off := 79) (by rw [c16]; rfl) (by decide) ?_
            refine lv_aload_n hx hb dL_act_101 rfl (lv_at hl 1 rfl) ?_
            refine lv_iload_n hx hb dL_act_102 rfl (lv_at hl 3 rfl) ?_
            refine lv_bipush (v := (21 : Int32)) hx hb dL_act_103 (by decide) ?_
            refine lv_irem hx hb dL_act_105 (by decide) ?_
            refine lv_iload_n hx hb dL_act_106 rfl (lv_at hl 3 rfl) ?_
            refine lv_bipush (v := (21 : Int32)) hx hb dL_act_107 (by decide) ?_
            refine lv_idiv hx hb dL_act_109 (by decide) ?_
            refine lv_bipush (v := (21 : Int32)) hx hb dL_act_110 (by decide) ?_
            refine lv_irem hx hb dL_act_112 (by decide) ?_
            refine lv_iload_n hx hb dL_act_113 rfl (lv_at hl 3 rfl) ?_
            refine lv_sipush (v := (441 : Int32)) hx hb dL_act_114 (by decide) ?_
            refine lv_idiv hx hb dL_act_117 (by decide) ?_
            refine lv_iload_n hx hb dL_act_118 rfl (lv_at hl 2 rfl) ?_
            refine lv_iconst (v := (3 : Int32)) hx hb dL_act_119 (by decide) ?_
            refine lv_irem hx hb dL_act_120 (by decide) ?_
            refine lv_if_ne (tgt := 130) hx hb dL_act_121 (by decide) (fun c17 => ?_) (fun c17 => ?_)
            · replace hf := brF c17 hf
              refine lv_bipush (v := (40 : Int32)) hx hb dL_act_130 (by decide) ?_
              exact (t_L_act_132 hC ) s_p0 (x2 - x2 / (21 : Int32) * (21 : Int32)) ((x2 / (21 : Int32)) - (x2 / (21 : Int32)) / (21 : Int32) * (21 : Int32)) (x2 / (441 : Int32)) (40 : Int32) hf _ _ hP hD hS _ (lv_sub hl [] rfl)
            · replace hf := brT c17 hf
              refine lv_sipush (v := (401 : Int32)) hx hb dL_act_124 (by decide) ?_
              refine lv_goto (tgt := 132) hx hb dL_act_127 (by decide) ?_
              exact (t_L_act_132 hC ) s_p0 (x2 - x2 / (21 : Int32) * (21 : Int32)) ((x2 / (21 : Int32)) - (x2 / (21 : Int32)) / (21 : Int32) * (21 : Int32)) (x2 / (441 : Int32)) (401 : Int32) hf _ _ hP hD hS _ (lv_sub hl [] rfl)
          · replace hf := brF c16 hf
            by_cases c18 : v1 = (5 : Int32)
            · replace hf := brT c18 hf
              refine lv_tableIn (tgt := 101) hx hb dL_act_22 (by rw [c18]; decide) (by rw [c18]; decide) (off := 79) (by rw [c18]; rfl) (by decide) ?_
              refine lv_aload_n hx hb dL_act_101 rfl (lv_at hl 1 rfl) ?_
              refine lv_iload_n hx hb dL_act_102 rfl (lv_at hl 3 rfl) ?_
              refine lv_bipush (v := (21 : Int32)) hx hb dL_act_103 (by decide) ?_
              refine lv_irem hx hb dL_act_105 (by decide) ?_
              refine lv_iload_n hx hb dL_act_106 rfl (lv_at hl 3 rfl) ?_
              refine lv_bipush (v := (21 : Int32)) hx hb dL_act_107 (by decide) ?_
              refine lv_idiv hx hb dL_act_109 (by decide) ?_
              refine lv_bipush (v := (21 : Int32)) hx hb dL_act_110 (by decide) ?_
              refine lv_irem hx hb dL_act_112 (by decide) ?_
              refine lv_iload_n hx hb dL_act_113 rfl (lv_at hl 3 rfl) ?_
              refine lv_sipush (v := (441 : Int32)) hx hb dL_act_114 (by decide) ?_
              refine lv_idiv hx hb dL_act_117 (by decide) ?_
              refine lv_iload_n hx hb dL_act_118 rfl (lv_at hl 2 rfl) ?_
              refine lv_iconst (v := (3 : Int32)) hx hb dL_act_119 (by decide) ?_
              refine lv_irem hx hb dL_act_120 (by decide) ?_
              refine lv_if_ne (tgt := 130) hx hb dL_act_121 (by decide) (fun c19 => ?_) (fun c19 => ?_)
              · replace hf := brF c19 hf
                refine lv_bipush (v := (40 : Int32)) hx hb dL_act_130 (by decide) ?_
                exact (t_L_act_132 hC ) s_p0 (x2 - x2 / (21 : Int32) * (21 : Int32)) ((x2 / (21 : Int32)) - (x2 / (21 : Int32)) / (21 : Int32) * (21 : Int32)) (x2 / (441 : Int32)) (40 : Int32) hf _ _ hP hD hS _ (lv_sub hl [] rfl)
              · replace hf := brT c19 hf
                refine lv_sipush (v := (401 : Int32)) hx hb dL_act_124 (by decide) ?_
                refine lv_goto (tgt := 132) hx hb dL_act_127 (by decide) ?_
                exact (t_L_act_132 hC ) s_p0 (x2 - x2 / (21 : Int32) * (21 : Int32)) ((x2 / (21 : Int32)) - (x2 / (21 : Int32)) / (21 : Int32) * (21 : Int32)) (x2 / (441 : Int32)) (401 : Int32) hf _ _ hP hD hS _ (lv_sub hl [] rfl)
            · replace hf := brF c18 hf
              by_cases c20 : v1 = (6 : Int32)
              · replace hf := brT c20 hf
                refine lv_tableIn (tgt := 137) hx hb dL_act_22 (by rw [c20]; decide) (by rw [c20]; decide) (off := 115) (by rw [c20]; rfl) (by decide) ?_
                refine lv_aload_n hx hb dL_act_137 rfl (lv_at hl 1 rfl) ?_
                refine lv_iload hx hb dL_act_138 (lv_at hl 0 rfl) ?_
                obtain ⟨r21, s22, hq23, hf⟩ := bnd2_of hf
                refine callX (As := [.int y0]) (rest := []) (ci := 5) (q0 := 0) (wr := ([])) (WB := (wB cI cJ cZ cQ a_p0 s22)) hx hb hml hown hts hK hN (b_X5_remove l D cI cJ cZ cQ a_p0 s_p0 y0 hq23) (cwV 1 hts gL_act_X5_remove rfl rfl rfl e_X5_remove ⟨Nat.le_of_ble_eq_true rfl, Nat.le_of_ble_eq_true rfl⟩) hP hD hS hA pmN pmN.symm rfl rfl rfl rfl hl (Nat.le_of_ble_eq_true rfl) dL_act_140 ⟨Nat.zero_le _, Nat.zero_le _⟩ rfl (fun H locs hP hD hS => ?_)
                obtain rfl := Option.some.inj hf
                exact endI (ty := .int) hC (nzI _) rfl hP hD hS dL_act_143
              · replace hf := brF c20 hf
                by_cases c24 : v1 = (7 : Int32)
                · replace hf := brT c24 hf
                  refine lv_tableIn (tgt := 144) hx hb dL_act_22 (by rw [c24]; decide) (by rw [c24]; decide) (off := 122) (by rw [c24]; rfl) (by decide) ?_
                  refine lv_aload_n hx hb dL_act_144 rfl (lv_at hl 1 rfl) ?_
                  refine lv_iload hx hb dL_act_145 (lv_at hl 0 rfl) ?_
                  refine lv_iload_n hx hb dL_act_147 rfl (lv_at hl 3 rfl) ?_
                  refine lv_bipush (v := (10 : Int32)) hx hb dL_act_148 (by decide) ?_
                  refine lv_idiv hx hb dL_act_150 (by decide) ?_
                  refine lv_bipush (v := (21 : Int32)) hx hb dL_act_151 (by decide) ?_
                  refine lv_irem hx hb dL_act_153 (by decide) ?_
                  refine lv_iload_n hx hb dL_act_154 rfl (lv_at hl 3 rfl) ?_
                  refine lv_sipush (v := (210 : Int32)) hx hb dL_act_155 (by decide) ?_
                  refine lv_idiv hx hb dL_act_158 (by decide) ?_
                  refine lv_bipush (v := (21 : Int32)) hx hb dL_act_159 (by decide) ?_
                  refine lv_irem hx hb dL_act_161 (by decide) ?_
                  obtain ⟨r25, s26, hq27, hf⟩ := bnd2_of hf
                  refine callX (As := [.int y0, .int ((x2 / (10 : Int32)) - (x2 / (10 : Int32)) / (21 : Int32) * (21 : Int32)), .int ((x2 / (210 : Int32)) - (x2 / (210 : Int32)) / (21 : Int32) * (21 : Int32))]) (rest := []) (ci := 5) (q0 := 0) (wr := ([])) (WB := (wB cI cJ cZ cQ a_p0 s26)) hx hb hml hown hts hK hN (b_X5_move l D cI cJ cZ cQ a_p0 s_p0 y0 ((x2 / (10 : Int32)) - (x2 / (10 : Int32)) / (21 : Int32) * (21 : Int32)) ((x2 / (210 : Int32)) - (x2 / (210 : Int32)) / (21 : Int32) * (21 : Int32)) hq27) (cwV 3 hts gL_act_X5_move rfl rfl rfl e_X5_move ⟨Nat.le_of_ble_eq_true rfl, Nat.le_of_ble_eq_true rfl⟩) hP hD hS hA pmN pmN.symm rfl rfl rfl rfl hl (Nat.le_of_ble_eq_true rfl) dL_act_162 ⟨Nat.zero_le _, Nat.zero_le _⟩ rfl (fun H locs hP hD hS => ?_)
                  obtain rfl := Option.some.inj hf
                  exact endI (ty := .int) hC (nzI _) rfl hP hD hS dL_act_165
                · replace hf := brF c24 hf
                  by_cases c28 : v1 = (8 : Int32)
                  · replace hf := brT c28 hf
                    refine lv_tableIn (tgt := 144) hx hb dL_act_22 (by rw [c28]; decide) (by rw [c28]; decide) (off := 122) (by rw [c28]; rfl) (by decide) ?_
                    refine lv_aload_n hx hb dL_act_144 rfl (lv_at hl 1 rfl) ?_
                    refine lv_iload hx hb dL_act_145 (lv_at hl 0 rfl) ?_
                    refine lv_iload_n hx hb dL_act_147 rfl (lv_at hl 3 rfl) ?_
                    refine lv_bipush (v := (10 : Int32)) hx hb dL_act_148 (by decide) ?_
                    refine lv_idiv hx hb dL_act_150 (by decide) ?_
                    refine lv_bipush (v := (21 : Int32)) hx hb dL_act_151 (by decide) ?_
                    refine lv_irem hx hb dL_act_153 (by decide) ?_
                    refine lv_iload_n hx hb dL_act_154 rfl (lv_at hl 3 rfl) ?_
                    refine lv_sipush (v := (210 : Int32)) hx hb dL_act_155 (by decide) ?_
                    refine lv_idiv hx hb dL_act_158 (by decide) ?_
                    refine lv_bipush (v := (21 : Int32)) hx hb dL_act_159 (by decide) ?_
                    refine lv_irem hx hb dL_act_161 (by decide) ?_
                    obtain ⟨r29, s30, hq31, hf⟩ := bnd2_of hf
                    refine callX (As := [.int y0, .int ((x2 / (10 : Int32)) - (x2 / (10 : Int32)) / (21 : Int32) * (21 : Int32)), .int ((x2 / (210 : Int32)) - (x2 / (210 : Int32)) / (21 : Int32) * (21 : Int32))]) (rest := []) (ci := 5) (q0 := 0) (wr := ([])) (WB := (wB cI cJ cZ cQ a_p0 s30)) hx hb hml hown hts hK hN (b_X5_move l D cI cJ cZ cQ a_p0 s_p0 y0 ((x2 / (10 : Int32)) - (x2 / (10 : Int32)) / (21 : Int32) * (21 : Int32)) ((x2 / (210 : Int32)) - (x2 / (210 : Int32)) / (21 : Int32) * (21 : Int32)) hq31) (cwV 3 hts gL_act_X5_move rfl rfl rfl e_X5_move ⟨Nat.le_of_ble_eq_true rfl, Nat.le_of_ble_eq_true rfl⟩) hP hD hS hA pmN pmN.symm rfl rfl rfl rfl hl (Nat.le_of_ble_eq_true rfl) dL_act_162 ⟨Nat.zero_le _, Nat.zero_le _⟩ rfl (fun H locs hP hD hS => ?_)
                    obtain rfl := Option.some.inj hf
                    exact endI (ty := .int) hC (nzI _) rfl hP hD hS dL_act_165
                  · replace hf := brF c28 hf
                    by_cases c32 : v1 = (9 : Int32)
                    · replace hf := brT c32 hf
                      refine lv_tableIn (tgt := 166) hx hb dL_act_22 (by rw [c32]; decide) (by rw [c32]; decide) (off := 144) (by rw [c32]; rfl) (by decide) ?_
                      refine lv_aload_n hx hb dL_act_166 rfl (lv_at hl 1 rfl) ?_
                      refine lv_iload hx hb dL_act_167 (lv_at hl 0 rfl) ?_
                      refine lv_iload_n hx hb dL_act_169 rfl (lv_at hl 3 rfl) ?_
                      refine lv_bipush (v := (10 : Int32)) hx hb dL_act_170 (by decide) ?_
                      refine lv_idiv hx hb dL_act_172 (by decide) ?_
                      refine lv_sipush (v := (401 : Int32)) hx hb dL_act_173 (by decide) ?_
                      refine lv_irem hx hb dL_act_176 (by decide) ?_
                      obtain ⟨r33, s34, hq35, hf⟩ := bnd2_of hf
                      refine callX (As := [.int y0, .int ((x2 / (10 : Int32)) - (x2 / (10 : Int32)) / (401 : Int32) * (401 : Int32))]) (rest := []) (ci := 5) (q0 := 0) (wr := ([])) (WB := (wB cI cJ cZ cQ a_p0 s34)) hx hb hml hown hts hK hN (b_X5_setWeight l D cI cJ cZ cQ a_p0 s_p0 y0 ((x2 / (10 : Int32)) - (x2 / (10 : Int32)) / (401 : Int32) * (401 : Int32)) hq35) (cwV 2 hts gL_act_X5_setWeight rfl rfl rfl e_X5_setWeight ⟨Nat.le_of_ble_eq_true rfl, Nat.le_of_ble_eq_true rfl⟩) hP hD hS hA pmN pmN.symm rfl rfl rfl rfl hl (Nat.le_of_ble_eq_true rfl) dL_act_177 ⟨Nat.zero_le _, Nat.zero_le _⟩ rfl (fun H locs hP hD hS => ?_)
                      obtain rfl := Option.some.inj hf
                      exact endI (ty := .int) hC (nzI _) rfl hP hD hS dL_act_180
                    · replace hf := brF c32 hf
                      by_cases c36 : v1 = (10 : Int32)
                      · replace hf := brT c36 hf
                        refine lv_tableIn (tgt := 166) hx hb dL_act_22 (by rw [c36]; decide) (by rw [c36]; decide) (off := 144) (by rw [c36]; rfl) (by decide) ?_
                        refine lv_aload_n hx hb dL_act_166 rfl (lv_at hl 1 rfl) ?_
                        refine lv_iload hx hb dL_act_167 (lv_at hl 0 rfl) ?_
                        refine lv_iload_n hx hb dL_act_169 rfl (lv_at hl 3 rfl) ?_
                        refine lv_bipush (v := (10 : Int32)) hx hb dL_act_170 (by decide) ?_
                        refine lv_idiv hx hb dL_act_172 (by decide) ?_
                        refine lv_sipush (v := (401 : Int32)) hx hb dL_act_173 (by decide) ?_
                        refine lv_irem hx hb dL_act_176 (by decide) ?_
                        obtain ⟨r37, s38, hq39, hf⟩ := bnd2_of hf
                        refine callX (As := [.int y0, .int ((x2 / (10 : Int32)) - (x2 / (10 : Int32)) / (401 : Int32) * (401 : Int32))]) (rest := []) (ci := 5) (q0 := 0) (wr := ([])) (WB := (wB cI cJ cZ cQ a_p0 s38)) hx hb hml hown hts hK hN (b_X5_setWeight l D cI cJ cZ cQ a_p0 s_p0 y0 ((x2 / (10 : Int32)) - (x2 / (10 : Int32)) / (401 : Int32) * (401 : Int32)) hq39) (cwV 2 hts gL_act_X5_setWeight rfl rfl rfl e_X5_setWeight ⟨Nat.le_of_ble_eq_true rfl, Nat.le_of_ble_eq_true rfl⟩) hP hD hS hA pmN pmN.symm rfl rfl rfl rfl hl (Nat.le_of_ble_eq_true rfl) dL_act_177 ⟨Nat.zero_le _, Nat.zero_le _⟩ rfl (fun H locs hP hD hS => ?_)
                        obtain rfl := Option.some.inj hf
                        exact endI (ty := .int) hC (nzI _) rfl hP hD hS dL_act_180
                      · replace hf := brF c36 hf
                        by_cases c40 : v1 = (11 : Int32)
                        · replace hf := brT c40 hf
                          refine lv_tableIn (tgt := 181) hx hb dL_act_22 (by rw [c40]; decide) (by rw [c40]; decide) (off := 159) (by rw [c40]; rfl) (by decide) ?_
                          refine lv_iload_n hx hb dL_act_181 rfl (lv_at hl 3 rfl) ?_
                          refine lv_iconst (v := (4 : Int32)) hx hb dL_act_182 (by decide) ?_
                          refine lv_irem hx hb dL_act_183 (by decide) ?_
                          refine lv_if_ne (tgt := 194) hx hb dL_act_184 (by decide) (fun c41 => ?_) (fun c41 => ?_)
                          · replace hf := brF c41 hf
                            refine lv_aload_n hx hb dL_act_194 rfl (lv_at hl 1 rfl) ?_
                            refine lv_iload_n hx hb dL_act_195 rfl (lv_at hl 3 rfl) ?_
                            refine lv_iconst (v := (4 : Int32)) hx hb dL_act_196 (by decide) ?_
                            refine lv_idiv hx hb dL_act_197 (by decide) ?_
                            refine lv_bipush (v := (21 : Int32)) hx hb dL_act_198 (by decide) ?_
                            refine lv_irem hx hb dL_act_200 (by decide) ?_
                            refine lv_iload_n hx hb dL_act_201 rfl (lv_at hl 3 rfl) ?_
                            refine lv_bipush (v := (84 : Int32)) hx hb dL_act_202 (by decide) ?_
                            refine lv_idiv hx hb dL_act_204 (by decide) ?_
                            refine lv_bipush (v := (21 : Int32)) hx hb dL_act_205 (by decide) ?_
                            refine lv_irem hx hb dL_act_207 (by decide) ?_
                            refine lv_iload_n hx hb dL_act_208 rfl (lv_at hl 3 rfl) ?_
                            refine lv_iconst (v := (3 : Int32)) hx hb dL_act_209 (by decide) ?_
                            refine lv_irem hx hb dL_act_210 (by decide) ?_
                            refine lv_if_ne (tgt := 223) hx hb dL_act_211 (by decide) (fun c42 => ?_) (fun c42 => ?_)
                            · replace hf := brF c42 hf
                              refine lv_aload_n hx hb dL_act_223 rfl (lv_at hl 1 rfl) ?_
                              refine lv_iload_n hx hb dL_act_224 rfl (lv_at hl 3 rfl) ?_
                              refine lv_iconst (v := (4 : Int32)) hx hb dL_act_225 (by decide) ?_
                              refine lv_idiv hx hb dL_act_226 (by decide) ?_
                              refine lv_bipush (v := (21 : Int32)) hx hb dL_act_227 (by decide) ?_
                              refine lv_irem hx hb dL_act_229 (by decide) ?_
                              refine lv_iload_n hx hb dL_act_230 rfl (lv_at hl 3 rfl) ?_
                              refine lv_bipush (v := (84 : Int32)) hx hb dL_act_231 (by decide) ?_
                              refine lv_idiv hx hb dL_act_233 (by decide) ?_
                              refine lv_bipush (v := (21 : Int32)) hx hb dL_act_234 (by decide) ?_
                              refine lv_irem hx hb dL_act_236 (by decide) ?_
                              obtain ⟨r43, s44, hq45, hf⟩ := bnd2_of hf
                              refine callX (As := [.int ((x2 / (4 : Int32)) - (x2 / (4 : Int32)) / (21 : Int32) * (21 : Int32)), .int ((x2 / (84 : Int32)) - (x2 / (84 : Int32)) / (21 : Int32) * (21 : Int32))]) (rest := [.int ((x2 / (84 : Int32)) - (x2 / (84 : Int32)) / (21 : Int32) * (21 : Int32)), .int ((x2 / (4 : Int32)) - (x2 / (4 : Int32)) / (21 : Int32) * (21 : Int32)), .ref (a_p0.1 0)]) (ci := 5) (q0 := 0) (wr := ([])) (WB := (wB cI cJ cZ cQ a_p0 s44)) hx hb hml hown hts hK hN (b_X5_owner l D cI cJ cZ cQ a_p0 s_p0 ((x2 / (4 : Int32)) - (x2 / (4 : Int32)) / (21 : Int32) * (21 : Int32)) ((x2 / (84 : Int32)) - (x2 / (84 : Int32)) / (21 : Int32) * (21 : Int32)) hq45) (cwV 2 hts gL_act_X5_owner rfl rfl rfl e_X5_owner ⟨Nat.le_of_ble_eq_true rfl, Nat.le_of_ble_eq_true rfl⟩) hP hD hS hA pmN pmN.symm rfl rfl rfl rfl hl (Nat.le_of_ble_eq_true rfl) dL_act_237 ⟨Nat.zero_le _, Nat.zero_le _⟩ rfl (fun H locs hP hD hS => ?_)
                              exact (t_L_act_240 hC ) s44 ((x2 / (4 : Int32)) - (x2 / (4 : Int32)) / (21 : Int32) * (21 : Int32)) ((x2 / (84 : Int32)) - (x2 / (84 : Int32)) / (21 : Int32) * (21 : Int32)) r43 hf _ _ hP hD hS _ (lv_sub hl [] rfl)
                            · replace hf := brT c42 hf
                              refine lv_iload_n hx hb dL_act_214 rfl (lv_at hl 3 rfl) ?_
                              refine lv_iconst (v := (5 : Int32)) hx hb dL_act_215 (by decide) ?_
                              refine lv_idiv hx hb dL_act_216 (by decide) ?_
                              refine lv_bipush (v := (10 : Int32)) hx hb dL_act_217 (by decide) ?_
                              refine lv_irem hx hb dL_act_219 (by decide) ?_
                              refine lv_goto (tgt := 240) hx hb dL_act_220 (by decide) ?_
                              exact (t_L_act_240 hC ) s_p0 ((x2 / (4 : Int32)) - (x2 / (4 : Int32)) / (21 : Int32) * (21 : Int32)) ((x2 / (84 : Int32)) - (x2 / (84 : Int32)) / (21 : Int32) * (21 : Int32)) ((x2 / (5 : Int32)) - (x2 / (5 : Int32)) / (10 : Int32) * (10 : Int32)) hf _ _ hP hD hS _ (lv_sub hl [] rfl)
                          · replace hf := brT c41 hf
                            refine lv_aload_n hx hb dL_act_187 rfl (lv_at hl 1 rfl) ?_
                            obtain ⟨r46, s47, hq48, hf⟩ := bnd2_of hf
                            refine callX (As := []) (rest := []) (ci := 5) (q0 := 0) (wr := ([])) (WB := (wB cI cJ cZ cQ a_p0 s47)) hx hb hml hown hts hK hN (b_X5_clearObservations l D cI cJ cZ cQ a_p0 s_p0  hq48) (cwV 0 hts gL_act_X5_clearObservations rfl rfl rfl e_X5_clearObservations ⟨Nat.le_of_ble_eq_true rfl, Nat.le_of_ble_eq_true rfl⟩) hP hD hS hA pmN pmN.symm rfl rfl rfl rfl hl (Nat.le_of_ble_eq_true rfl) dL_act_188 ⟨Nat.zero_le _, Nat.zero_le _⟩ rfl (fun H locs hP hD hS => ?_)
                            refine lv_goto (tgt := 243) hx hb dL_act_191 (by decide) ?_
                            obtain rfl := Option.some.inj hf
                            exact endI (ty := .int) hC (nzI _) rfl hP hD hS dL_act_243
                        · replace hf := brF c40 hf
                          by_cases c49 : v1 = (12 : Int32)
                          · replace hf := brT c49 hf
                            refine lv_tableIn (tgt := 244) hx hb dL_act_22 (by rw [c49]; decide) (by rw [c49]; decide) (off := 222) (by rw [c49]; rfl) (by decide) ?_
                            refine lv_aload_n hx hb dL_act_244 rfl (lv_at hl 1 rfl) ?_
                            refine lv_iload_n hx hb dL_act_245 rfl (lv_at hl 3 rfl) ?_
                            refine lv_iconst (v := (1 : Int32)) hx hb dL_act_246 (by decide) ?_
                            refine lv_iand hx hb dL_act_247 ?_
                            obtain ⟨r50, s51, hq52, hf⟩ := bnd2_of hf
                            refine callX (As := [.int (x2 &&& (1 : Int32))]) (rest := []) (ci := 5) (q0 := 0) (wr := ([])) (WB := (wB cI cJ cZ cQ a_p0 s51)) hx hb hml hown hts hK hN (b_X5_save l D cI cJ cZ cQ a_p0 s_p0 (x2 &&& (1 : Int32)) hq52) (cwV 1 hts gL_act_X5_save rfl rfl rfl e_X5_save ⟨Nat.le_of_ble_eq_true rfl, Nat.le_of_ble_eq_true rfl⟩) hP hD hS hA pmN pmN.symm rfl rfl rfl rfl hl (Nat.le_of_ble_eq_true rfl) dL_act_248 ⟨Nat.zero_le _, Nat.zero_le _⟩ rfl (fun H locs hP hD hS => ?_)
                            obtain rfl := Option.some.inj hf
                            exact endI (ty := .int) hC (nzI _) rfl hP hD hS dL_act_251
                          · replace hf := brF c49 hf
                            by_cases c53 : v1 = (13 : Int32)
                            · replace hf := brT c53 hf
                              refine lv_tableIn (tgt := 252) hx hb dL_act_22 (by rw [c53]; decide) (by rw [c53]; decide) (off := 230) (by rw [c53]; rfl) (by decide) ?_
                              refine lv_aload_n hx hb dL_act_252 rfl (lv_at hl 1 rfl) ?_
                              refine lv_iload_n hx hb dL_act_253 rfl (lv_at hl 3 rfl) ?_
                              refine lv_iconst (v := (1 : Int32)) hx hb dL_act_254 (by decide) ?_
                              refine lv_iand hx hb dL_act_255 ?_
                              obtain ⟨r54, s55, hq56, hf⟩ := bnd2_of hf
                              refine callX (As := [.int (x2 &&& (1 : Int32))]) (rest := []) (ci := 5) (q0 := 0) (wr := ([])) (WB := (wB cI cJ cZ cQ a_p0 s55)) hx hb hml hown hts hK hN (b_X5_restore l D cI cJ cZ cQ a_p0 s_p0 (x2 &&& (1 : Int32)) hq56) (cwV 1 hts gL_act_X5_restore rfl rfl rfl e_X5_restore ⟨Nat.le_of_ble_eq_true rfl, Nat.le_of_ble_eq_true rfl⟩) hP hD hS hA pmN pmN.symm rfl rfl rfl rfl hl (Nat.le_of_ble_eq_true rfl) dL_act_256 ⟨Nat.zero_le _, Nat.zero_le _⟩ rfl (fun H locs hP hD hS => ?_)
                              obtain rfl := Option.some.inj hf
                              exact endI (ty := .int) hC (nzI _) rfl hP hD hS dL_act_259
                            · replace hf := brF c53 hf
                              refine lv_tableOut (tgt := 260) hx hb dL_act_22 (tabOut0_13 c2 c6 c10 c14 c16 c18 c20 c24 c28 c32 c36 c40 c49 c53) (by decide) ?_
                              refine lv_aload_n hx hb dL_act_260 rfl (lv_at hl 1 rfl) ?_
                              obtain ⟨r57, s58, hq59, hf⟩ := bnd2_of hf
                              refine callX (As := []) (rest := []) (ci := 5) (q0 := 0) (wr := ([])) (WB := (wB cI cJ cZ cQ a_p0 s58)) hx hb hml hown hts hK hN (b_X5_undo l D cI cJ cZ cQ a_p0 s_p0  hq59) (cwV 0 hts gL_act_X5_undo rfl rfl rfl e_X5_undo ⟨Nat.le_of_ble_eq_true rfl, Nat.le_of_ble_eq_true rfl⟩) hP hD hS hA pmN pmN.symm rfl rfl rfl rfl hl (Nat.le_of_ble_eq_true rfl) dL_act_261 ⟨Nat.zero_le _, Nat.zero_le _⟩ rfl (fun H locs hP hD hS => ?_)
                              obtain rfl := Option.some.inj hf
                              exact endI (ty := .int) hC (nzI _) rfl hP hD hS dL_act_264
set_option maxHeartbeats 4000000 in
set_option maxRecDepth 100000 in
theorem t_L_act_0 {p : Program} {l : Launch} {e : Env} {s : State} {m : MethodId} {args : Array Value} {below : List Frame} {meth : Method} {c : Code} {A : Nat → Prop} {D : va_G} {cI cJ cZ cQ : ClassId} {a_p0 : AB} {res : R_L_act}  (hC : mcx RL cL_act (some .int) 5 wsL_act p s m args meth c A D (tys4 cI cJ cZ cQ))  : S_L_act_0 p l e s m args below meth c A D cI cJ cZ cQ a_p0 res (f_L_act_0 ) := by
  intro s_p0 x1 x2 hf H locs hP hD hS ls hl
  obtain ⟨hx, hb, hr, hml, hown, hts, hlocks, hA, hK, hN⟩ := id hC
  unfold f_L_act_0 at hf
  refine lv_aload_n hx hb dL_act_0 rfl (lv_at hl 0 rfl) ?_
  obtain ⟨r1, s2, hq3, hf⟩ := bnd2_of hf
  refine callX (As := []) (rest := []) (ci := 5) (q0 := 0) (wr := ([])) (WB := (wB cI cJ cZ cQ a_p0 s2)) hx hb hml hown hts hK hN (b_X5_siteCount l D cI cJ cZ cQ a_p0 s_p0  hq3) (cwV 0 hts gL_act_X5_siteCount rfl rfl rfl e_X5_siteCount ⟨Nat.le_of_ble_eq_true rfl, Nat.le_of_ble_eq_true rfl⟩) hP hD hS hA pmN pmN.symm rfl rfl rfl rfl hl (Nat.le_of_ble_eq_true rfl) dL_act_1 ⟨Nat.zero_le _, Nat.zero_le _⟩ rfl (fun H locs hP hD hS => ?_)
  refine lv_istore_n (lv' := [(3, .int r1), (0, .ref (a_p0.1 0)), (1, .int x1), (2, .int x2)]) hx hb dL_act_4 rfl hl (by decide) rfl (fun ls hl => ?_)
  refine lv_iload_n hx hb dL_act_5 rfl (lv_at hl 0 rfl) ?_
  refine lv_if_ne (tgt := 13) hx hb dL_act_6 (by decide) (fun c4 => ?_) (fun c4 => ?_)
  · replace hf := brF c4 hf
    refine lv_iload_n hx hb dL_act_13 rfl (lv_at hl 3 rfl) ?_
    refine lv_iload_n hx hb dL_act_14 rfl (lv_at hl 0 rfl) ?_
    obtain ⟨hz5, hf⟩ := gNz_of hf
    refine lv_irem hx hb dL_act_15 hz5 ?_
    exact (t_L_act_16 hC ) s2 x1 x2 (x2 - x2 / r1 * r1) hf _ _ hP hD hS _ (lv_sub hl [1, 2, 3] rfl)
  · replace hf := brT c4 hf
    refine lv_iconst (v := (0 : Int32)) hx hb dL_act_9 (by decide) ?_
    refine lv_goto (tgt := 16) hx hb dL_act_10 (by decide) ?_
    exact (t_L_act_16 hC ) s2 x1 x2 (0 : Int32) hf _ _ hP hD hS _ (lv_sub hl [1, 2, 3] rfl)
theorem c_L_act (l : Launch) (D : va_G) (cI cJ cZ cQ : ClassId) (a_p0 : AB) (s_p0 : ST) (p1 : Int32) (p2 : Int32) {res : R_L_act} (hf : f_L_act_0 s_p0 p1 p2 = some res) : MetI l D (tys4 cI cJ cZ cQ) yL_act wsL_act rm_L_act [.ref (a_p0.1 0), .int p1, .int p2] (wB cI cJ cZ cQ a_p0 s_p0) (wB cI cJ cZ cQ a_p0 res.2) res.1 := by
  intro sz
  exact metW (own := RL) (cc := cL_act) (nL := 5) (ret := (some .int)) (Qc := fun A => qI D (tys4 cI cJ cZ cQ) (wB cI cJ cZ cQ a_p0 res.2) A res.1) (by decide) rfl rfl (Nat.le_of_ble_eq_true rfl) (fun p e s m args below meth c A hC hP hD hS ls hl => t_L_act_0 hC s_p0 p1 p2 hf _ _ hP hD hS _ (lv_sub hl [0, 1, 2] rfl)) sz
theorem e_L_act : yL_act.cls ≠ "java/lang/invoke/MethodHandle" ∧ yL_act.cls ≠ "java/lang/invoke/VarHandle" ∧ (parseMethodDescriptor yL_act.desc).map (fun d => d.parameters.length) = some 3 := by decide +kernel
