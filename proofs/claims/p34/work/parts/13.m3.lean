/-! X3_put -/
theorem iw_X3_put_3 : ∀ w ∈ wsX30, w ∈ wsX3_put := fun _ h => List.mem_cons_of_mem _ (List.mem_append_right _ h)
def w_X3_put (cI cJ cZ cQ : ClassId) (a_t a_t_characters : Nat) (t_length : Int32) (t_characters : Nat → Int32) : va_W := [(a_t, .inr (3, [.ref a_t_characters, .int t_length])), (a_t_characters, .inl (cI, 80, .inl t_characters))]
abbrev rm_X3_put : Room := { frames := 0, cells := 0, slots := 0, locals := 0 }
def S_X3_put_0 (p : Program) (l : Launch) (e : Env) (s : State) (m : MethodId) (args : Array Value) (below : List Frame) (meth : Method) (c : Code) (A : Nat → Prop) (D : va_G) (cI cJ cZ cQ : ClassId) (a_t a_t_characters : Nat)  (res : R_X3_put) (k : Int32 → (Nat → Int32) → Int32 → Option R_X3_put) : Prop := ∀ (t_length : Int32) (t_characters : Nat → Int32) (x1 : Int32), k t_length t_characters x1 = some res → ∀ (H : Heap) (locs : List Loc), va_P D vwCl (w_X3_put cI cJ cZ cQ a_t a_t_characters t_length t_characters) H → va_D A (w_X3_put cI cJ cZ cQ a_t a_t_characters t_length t_characters) → va_S A s.heap H locs → ∀ ls : Array Slot, lv_has ls 2 [(0, .ref a_t), (1, .int x1)] → W p l e (headSpec wsX3_put rm_X3_put).room s m args below meth c H locs 0 0 (MQ below (qI D (tys4 cI cJ cZ cQ) (w_X3_put cI cJ cZ cQ a_t a_t_characters res.2.1 res.2.2) A res.1) args s 0 0 A) (F0 m 0 ls [])
set_option maxHeartbeats 4000000 in
set_option maxRecDepth 100000 in
theorem t_X3_put_0 {p : Program} {l : Launch} {e : Env} {s : State} {m : MethodId} {args : Array Value} {below : List Frame} {meth : Method} {c : Code} {A : Nat → Prop} {D : va_G} {cI cJ cZ cQ : ClassId} {a_t a_t_characters : Nat}  {res : R_X3_put}   (hC : mcx RX3 cX3_put (some .boolean) 2 wsX3_put p s m args meth c A D (tys4 cI cJ cZ cQ))   : S_X3_put_0 p l e s m args below meth c A D cI cJ cZ cQ a_t a_t_characters res (f_X3_put_0  ) := by
  intro t_length t_characters x1 hf H locs hP hD hS ls hl
  obtain ⟨hx, hb, hr, hml, hown, hts, hlocks, hA, hK, hN⟩ := id hC
  unfold f_X3_put_0 at hf
  refine lv_aload_n hx hb dX3_put_0 rfl (lv_at hl 0 rfl) ?_
  refine va_get (D := D) (ci := 3) (v := .int t_length) (C := RX3) (T := TX3) (N := 2) hx hb hts iw_X3_put_3 hown hK hP 0 rfl rfl 1 (by decide) (hts (.fieldLink RX3 15 "PowerDiagram$SetupText" "length" "I") (List.mem_of_getElem? (i := 1) rfl)) (fun _ h9 => h9) rfl dX3_put_1 ?_
  refine lv_bipush (v := (80 : Int32)) hx hb dX3_put_4 (by decide) ?_
  refine lv_icmp_lt (tgt := 11) hx hb dX3_put_6 (by decide) (fun c1 => ?_) (fun c1 => ?_)
  · replace hf := brT c1 hf
    refine lv_aload_n hx hb dX3_put_11 rfl (lv_at hl 0 rfl) ?_
    refine va_get (D := D) (ci := 3) (v := .ref a_t_characters) (C := RX3) (T := TX3) (N := 2) hx hb hts iw_X3_put_3 hown hK hP 0 rfl rfl 0 (by decide) (hts (.fieldLink RX3 11 "PowerDiagram$SetupText" "characters" "[I") (List.mem_of_getElem? (i := 2) rfl)) (fun _ h9 => h9) rfl dX3_put_12 ?_
    refine lv_aload_n hx hb dX3_put_15 rfl (lv_at hl 0 rfl) ?_
    refine va_get (D := D) (ci := 3) (v := .int t_length) (C := RX3) (T := TX3) (N := 2) hx hb hts iw_X3_put_3 hown hK hP 0 rfl rfl 1 (by decide) (hts (.fieldLink RX3 15 "PowerDiagram$SetupText" "length" "I") (List.mem_of_getElem? (i := 1) rfl)) (fun _ h9 => h9) rfl dX3_put_16 ?_
    refine lv_iload_n hx hb dX3_put_19 rfl (lv_at hl 1 rfl) ?_
    obtain ⟨h2, hf⟩ := gIx_of hf
    refine wrI (WB := (w_X3_put cI cJ cZ cQ a_t a_t_characters t_length (upd t_characters t_length.toNatClampNeg x1))) hx hb hK hP hD hS 1 0 rfl rfl h2 dX3_put_20 rfl (fun H locs hP hD hS => ?_)
    refine lv_aload_n hx hb dX3_put_21 rfl (lv_at hl 0 rfl) ?_
    refine lv_dup hx hb dX3_put_22 rfl ?_
    refine va_get (D := D) (ci := 3) (v := .int t_length) (C := RX3) (T := TX3) (N := 2) hx hb hts iw_X3_put_3 hown hK hP 0 rfl rfl 1 (by decide) (hts (.fieldLink RX3 15 "PowerDiagram$SetupText" "length" "I") (List.mem_of_getElem? (i := 1) rfl)) (fun _ h9 => h9) rfl dX3_put_23 ?_
    refine lv_iconst (v := (1 : Int32)) hx hb dX3_put_26 (by decide) ?_
    refine lv_iadd hx hb dX3_put_27 ?_
    refine lv_topi (fun v3 ev3 => ?_)
    replace hf := nm_of ev3 hf
    refine wrF (D := D) (ci := 3) (v := .int v3) (ty := .int) (C := RX3) (T := TX3) (N := 2) (WB := (w_X3_put cI cJ cZ cQ a_t a_t_characters v3 (upd t_characters t_length.toNatClampNeg x1))) hx hb hts iw_X3_put_3 tyX3 tyX3_ok nmX3 hown hK hP hD hS 0 rfl rfl 1 (by decide) (hts (.fieldLink RX3 15 "PowerDiagram$SetupText" "length" "I") (List.mem_of_getElem? (i := 1) rfl)) (fun _ h9 => h9) rfl rfl rfl rfl (Nat.le_of_ble_eq_true rfl) dX3_put_28 rfl (fun H locs hP hD hS => ?_)
    refine lv_iconst (v := (1 : Int32)) hx hb dX3_put_31 (by decide) ?_
    obtain rfl := Option.some.inj hf
    exact endI (ty := .boolean) hC rfl rfl hP hD hS dX3_put_32
  · replace hf := brF c1 hf
    refine lv_iconst (v := (0 : Int32)) hx hb dX3_put_9 (by decide) ?_
    obtain rfl := Option.some.inj hf
    exact endI (ty := .boolean) hC rfl rfl hP hD hS dX3_put_10
theorem c_X3_put (l : Launch) (D : va_G) (cI cJ cZ cQ : ClassId) (a_t a_t_characters : Nat) (t_length : Int32) (t_characters : Nat → Int32) (p0 : Int32)  (res : R_X3_put)  (hf : f_X3_put_0  t_length t_characters p0 = some res) : MetI l D (tys4 cI cJ cZ cQ) yX3_put wsX3_put rm_X3_put [.ref a_t, .int p0] (w_X3_put cI cJ cZ cQ a_t a_t_characters t_length t_characters) (w_X3_put cI cJ cZ cQ a_t a_t_characters res.2.1 res.2.2) res.1 := by
  intro sz
  exact metW (own := RX3) (cc := cX3_put) (nL := 2) (ret := (some .boolean)) (Qc := fun A => qI D (tys4 cI cJ cZ cQ) (w_X3_put cI cJ cZ cQ a_t a_t_characters res.2.1 res.2.2) A res.1) (by decide) rfl rfl (Nat.le_of_ble_eq_true rfl) (fun p e s m args below meth c A hC hP hD hS ls hl => t_X3_put_0 hC  t_length t_characters p0 hf _ _ hP hD hS _ (lv_sub hl [0, 1] rfl)) sz
theorem e_X3_put : yX3_put.cls = RX3 ∧ yX3_put.cls ≠ "java/lang/invoke/MethodHandle" ∧ yX3_put.cls ≠ "java/lang/invoke/VarHandle" ∧ (parseMethodDescriptor yX3_put.desc).map (fun d => d.parameters.length) = some 1 := by decide +kernel
/-! X3_characterAt -/
theorem iw_X3_characterAt_3 : ∀ w ∈ wsX30, w ∈ wsX3_characterAt := fun _ h => List.mem_cons_of_mem _ (List.mem_append_right _ h)
def w_X3_characterAt (cI cJ cZ cQ : ClassId) (a_t a_t_characters : Nat) (t_length : Int32) (t_characters : Nat → Int32) : va_W := [(a_t, .inr (3, [.ref a_t_characters, .int t_length])), (a_t_characters, .inl (cI, 80, .inl t_characters))]
abbrev rm_X3_characterAt : Room := { frames := 0, cells := 0, slots := 0, locals := 0 }
def S_X3_characterAt_0 (p : Program) (l : Launch) (e : Env) (s : State) (m : MethodId) (args : Array Value) (below : List Frame) (meth : Method) (c : Code) (A : Nat → Prop) (D : va_G) (cI cJ cZ cQ : ClassId) (a_t a_t_characters : Nat) (t_length : Int32) (t_characters : Nat → Int32) (res : R_X3_characterAt) (k : Int32 → Option R_X3_characterAt) : Prop := ∀ (x1 : Int32), k x1 = some res → ∀ (H : Heap) (locs : List Loc), va_P D vwCl (w_X3_characterAt cI cJ cZ cQ a_t a_t_characters t_length t_characters) H → va_D A (w_X3_characterAt cI cJ cZ cQ a_t a_t_characters t_length t_characters) → va_S A s.heap H locs → ∀ ls : Array Slot, lv_has ls 2 [(0, .ref a_t), (1, .int x1)] → W p l e (headSpec wsX3_characterAt rm_X3_characterAt).room s m args below meth c H locs 0 0 (MQ below (qI D (tys4 cI cJ cZ cQ) (w_X3_characterAt cI cJ cZ cQ a_t a_t_characters t_length t_characters) A res) args s 0 0 A) (F0 m 0 ls [])
set_option maxHeartbeats 4000000 in
set_option maxRecDepth 100000 in
theorem t_X3_characterAt_0 {p : Program} {l : Launch} {e : Env} {s : State} {m : MethodId} {args : Array Value} {below : List Frame} {meth : Method} {c : Code} {A : Nat → Prop} {D : va_G} {cI cJ cZ cQ : ClassId} {a_t a_t_characters : Nat} {t_length : Int32} {t_characters : Nat → Int32} {res : R_X3_characterAt}   (hC : mcx RX3 cX3_characterAt (some .int) 2 wsX3_characterAt p s m args meth c A D (tys4 cI cJ cZ cQ))   : S_X3_characterAt_0 p l e s m args below meth c A D cI cJ cZ cQ a_t a_t_characters t_length t_characters res (f_X3_characterAt_0  t_length t_characters) := by
  intro x1 hf H locs hP hD hS ls hl
  obtain ⟨hx, hb, hr, hml, hown, hts, hlocks, hA, hK, hN⟩ := id hC
  unfold f_X3_characterAt_0 at hf
  refine lv_iload_n hx hb dX3_characterAt_0 rfl (lv_at hl 1 rfl) ?_
  refine lv_if_lt (tgt := 21) hx hb dX3_characterAt_1 (by decide) (fun c1 => ?_) (fun c1 => ?_)
  · replace hf := brT c1 hf
    refine lv_iconst (v := (0 : Int32)) hx hb dX3_characterAt_21 (by decide) ?_
    obtain rfl := Option.some.inj hf
    exact endI (ty := .int) hC (nzI _) rfl hP hD hS dX3_characterAt_22
  · replace hf := brF c1 hf
    refine lv_iload_n hx hb dX3_characterAt_4 rfl (lv_at hl 1 rfl) ?_
    refine lv_aload_n hx hb dX3_characterAt_5 rfl (lv_at hl 0 rfl) ?_
    refine va_get (D := D) (ci := 3) (v := .int t_length) (C := RX3) (T := TX3) (N := 2) hx hb hts iw_X3_characterAt_3 hown hK hP 0 rfl rfl 1 (by decide) (hts (.fieldLink RX3 15 "PowerDiagram$SetupText" "length" "I") (List.mem_of_getElem? (i := 1) rfl)) (fun _ h9 => h9) rfl dX3_characterAt_6 ?_
    refine lv_icmp_ge (tgt := 21) hx hb dX3_characterAt_9 (by decide) (fun c2 => ?_) (fun c2 => ?_)
    · replace hf := brT c2 hf
      refine lv_iconst (v := (0 : Int32)) hx hb dX3_characterAt_21 (by decide) ?_
      obtain rfl := Option.some.inj hf
      exact endI (ty := .int) hC (nzI _) rfl hP hD hS dX3_characterAt_22
    · replace hf := brF c2 hf
      refine lv_aload_n hx hb dX3_characterAt_12 rfl (lv_at hl 0 rfl) ?_
      refine va_get (D := D) (ci := 3) (v := .ref a_t_characters) (C := RX3) (T := TX3) (N := 2) hx hb hts iw_X3_characterAt_3 hown hK hP 0 rfl rfl 0 (by decide) (hts (.fieldLink RX3 11 "PowerDiagram$SetupText" "characters" "[I") (List.mem_of_getElem? (i := 2) rfl)) (fun _ h9 => h9) rfl dX3_characterAt_13 ?_
      refine lv_iload_n hx hb dX3_characterAt_16 rfl (lv_at hl 1 rfl) ?_
      obtain ⟨h3, hf⟩ := gIx_of hf
      refine va_iald hx hb hK hP 1 0 rfl rfl h3 dX3_characterAt_17 ?_
      refine lv_goto (tgt := 22) hx hb dX3_characterAt_18 (by decide) ?_
      obtain rfl := Option.some.inj hf
      exact endI (ty := .int) hC (nzI _) rfl hP hD hS dX3_characterAt_22
theorem c_X3_characterAt (l : Launch) (D : va_G) (cI cJ cZ cQ : ClassId) (a_t a_t_characters : Nat) (t_length : Int32) (t_characters : Nat → Int32) (p0 : Int32)  (res : R_X3_characterAt)  (hf : f_X3_characterAt_0 t_length t_characters p0 = some res) : MetI l D (tys4 cI cJ cZ cQ) yX3_characterAt wsX3_characterAt rm_X3_characterAt [.ref a_t, .int p0] (w_X3_characterAt cI cJ cZ cQ a_t a_t_characters t_length t_characters) (w_X3_characterAt cI cJ cZ cQ a_t a_t_characters t_length t_characters) res := by
  intro sz
  exact metW (own := RX3) (cc := cX3_characterAt) (nL := 2) (ret := (some .int)) (Qc := fun A => qI D (tys4 cI cJ cZ cQ) (w_X3_characterAt cI cJ cZ cQ a_t a_t_characters t_length t_characters) A res) (by decide) rfl rfl (Nat.le_of_ble_eq_true rfl) (fun p e s m args below meth c A hC hP hD hS ls hl => t_X3_characterAt_0 hC  p0 hf _ _ hP hD hS _ (lv_sub hl [0, 1] rfl)) sz
theorem e_X3_characterAt : yX3_characterAt.cls = RX3 ∧ yX3_characterAt.cls ≠ "java/lang/invoke/MethodHandle" ∧ yX3_characterAt.cls ≠ "java/lang/invoke/VarHandle" ∧ (parseMethodDescriptor yX3_characterAt.desc).map (fun d => d.parameters.length) = some 1 := by decide +kernel
/-! X3_greatestDigitAt -/
def w_X3_greatestDigitAt (cI cJ cZ cQ : ClassId) (a_t a_t_characters : Nat) (t_length : Int32) (t_characters : Nat → Int32) : va_W := [(a_t, .inr (3, [.ref a_t_characters, .int t_length])), (a_t_characters, .inl (cI, 80, .inl t_characters))]
abbrev rm_X3_greatestDigitAt : Room := { frames := 1, cells := 0, slots := 0, locals := 21 }
def S_X3_greatestDigitAt_0 (p : Program) (l : Launch) (e : Env) (s : State) (m : MethodId) (args : Array Value) (below : List Frame) (meth : Method) (c : Code) (A : Nat → Prop) (D : va_G) (cI cJ cZ cQ : ClassId) (a_t a_t_characters : Nat) (t_length : Int32) (t_characters : Nat → Int32) (res : R_X3_greatestDigitAt) (k : Int32 → Option R_X3_greatestDigitAt) : Prop := ∀ (x1 : Int32), k x1 = some res → ∀ (H : Heap) (locs : List Loc), va_P D vwCl (w_X3_greatestDigitAt cI cJ cZ cQ a_t a_t_characters t_length t_characters) H → va_D A (w_X3_greatestDigitAt cI cJ cZ cQ a_t a_t_characters t_length t_characters) → va_S A s.heap H locs → ∀ ls : Array Slot, lv_has ls 2 [(0, .ref a_t), (1, .int x1)] → W p l e (headSpec wsX3_greatestDigitAt rm_X3_greatestDigitAt).room s m args below meth c H locs 0 0 (MQ below (qI D (tys4 cI cJ cZ cQ) (w_X3_greatestDigitAt cI cJ cZ cQ a_t a_t_characters t_length t_characters) A res) args s 0 0 A) (F0 m 0 ls [])
set_option maxHeartbeats 4000000 in
set_option maxRecDepth 100000 in
theorem t_X3_greatestDigitAt_0 {p : Program} {l : Launch} {e : Env} {s : State} {m : MethodId} {args : Array Value} {below : List Frame} {meth : Method} {c : Code} {A : Nat → Prop} {D : va_G} {cI cJ cZ cQ : ClassId} {a_t a_t_characters : Nat} {t_length : Int32} {t_characters : Nat → Int32} {res : R_X3_greatestDigitAt}   (hC : mcx RX3 cX3_greatestDigitAt (some .int) 2 wsX3_greatestDigitAt p s m args meth c A D (tys4 cI cJ cZ cQ))   : S_X3_greatestDigitAt_0 p l e s m args below meth c A D cI cJ cZ cQ a_t a_t_characters t_length t_characters res (f_X3_greatestDigitAt_0  t_length t_characters) := by
  intro x1 hf H locs hP hD hS ls hl
  obtain ⟨hx, hb, hr, hml, hown, hts, hlocks, hA, hK, hN⟩ := id hC
  unfold f_X3_greatestDigitAt_0 at hf
  refine lv_iload_n hx hb dX3_greatestDigitAt_0 rfl (lv_at hl 1 rfl) ?_
  refine lv_iconst (v := (1 : Int32)) hx hb dX3_greatestDigitAt_1 (by decide) ?_
  refine lv_isub hx hb dX3_greatestDigitAt_2 ?_
  refine lv_bipush (v := (7 : Int32)) hx hb dX3_greatestDigitAt_3 (by decide) ?_
  refine lv_irem hx hb dX3_greatestDigitAt_5 (by decide) ?_
  refine lv_topi (fun v1 ev1 => ?_)
  replace hf := nm_of ev1 hf
  by_cases c2 : v1 = (0 : Int32)
  · replace hf := brT c2 hf
    refine lv_tableIn (tgt := 44) hx hb dX3_greatestDigitAt_6 (by rw [c2]; decide) (by rw [c2]; decide) (off := 38) (by rw [c2]; rfl) (by decide) ?_
    refine lv_bipush (v := (50 : Int32)) hx hb dX3_greatestDigitAt_44 (by decide) ?_
    obtain rfl := Option.some.inj hf
    exact endI (ty := .int) hC (nzI _) rfl hP hD hS dX3_greatestDigitAt_46
  · replace hf := brF c2 hf
    by_cases c3 : v1 = (1 : Int32)
    · replace hf := brT c3 hf
      refine lv_tableIn (tgt := 47) hx hb dX3_greatestDigitAt_6 (by rw [c3]; decide) (by rw [c3]; decide) (off := 41) (by rw [c3]; rfl) (by decide) ?_
      refine lv_aload_n hx hb dX3_greatestDigitAt_47 rfl (lv_at hl 0 rfl) ?_
      refine lv_iload_n hx hb dX3_greatestDigitAt_48 rfl (lv_at hl 1 rfl) ?_
      refine lv_iconst (v := (1 : Int32)) hx hb dX3_greatestDigitAt_49 (by decide) ?_
      refine lv_isub hx hb dX3_greatestDigitAt_50 ?_
      obtain ⟨r4, hq5, hf⟩ := bnd_of hf
      refine jnI (WB := (w_X3_greatestDigitAt cI cJ cZ cQ a_t a_t_characters t_length t_characters)) (rnV (As := [.int (x1 - (1 : Int32))]) (rest := []) (ci := 3) (q0 := 0) (W0 := (w_X3_characterAt cI cJ cZ cQ a_t a_t_characters t_length t_characters)) hx hb hml hown hts hK hN (c_X3_characterAt l D cI cJ cZ cQ a_t a_t_characters t_length t_characters (x1 - (1 : Int32)) r4 hq5 H.size) (cwV 1 hts gX3_greatestDigitAt_X3_characterAt rfl rfl rfl e_X3_characterAt ⟨Nat.le_of_ble_eq_true rfl, Nat.le_of_ble_eq_true rfl⟩) hP hD [0, 1] rfl (by decide) rfl rfl rfl rfl hl (Nat.le_of_ble_eq_true rfl) dX3_greatestDigitAt_51 ⟨Nat.zero_le _, Nat.zero_le _⟩ rfl) hP hD hS hA [0, 1] [] [0, 1] rfl rfl (by decide) (by decide) rfl (by decide) (fun H locs hP hD hS => ?_)
      refine lv_bipush (v := (50 : Int32)) hx hb dX3_greatestDigitAt_54 (by decide) ?_
      refine lv_icmp_ne (tgt := 64) hx hb dX3_greatestDigitAt_56 (by decide) (fun c6 => ?_) (fun c6 => ?_)
      · replace hf := brF c6 hf
        refine lv_bipush (v := (57 : Int32)) hx hb dX3_greatestDigitAt_64 (by decide) ?_
        obtain rfl := Option.some.inj hf
        exact endI (ty := .int) hC (nzI _) rfl hP hD hS dX3_greatestDigitAt_66
      · replace hf := brT c6 hf
        refine lv_bipush (v := (48 : Int32)) hx hb dX3_greatestDigitAt_59 (by decide) ?_
        refine lv_goto (tgt := 66) hx hb dX3_greatestDigitAt_61 (by decide) ?_
        obtain rfl := Option.some.inj hf
        exact endI (ty := .int) hC (nzI _) rfl hP hD hS dX3_greatestDigitAt_66
    · replace hf := brF c3 hf
      by_cases c7 : v1 = (2 : Int32)
      · replace hf := brT c7 hf
        refine lv_tableIn (tgt := 44) hx hb dX3_greatestDigitAt_6 (by rw [c7]; decide) (by rw [c7]; decide) (off := 38) (by rw [c7]; rfl) (by decide) ?_
        refine lv_bipush (v := (50 : Int32)) hx hb dX3_greatestDigitAt_44 (by decide) ?_
        obtain rfl := Option.some.inj hf
        exact endI (ty := .int) hC (nzI _) rfl hP hD hS dX3_greatestDigitAt_46
      · replace hf := brF c7 hf
        by_cases c8 : v1 = (3 : Int32)
        · replace hf := brT c8 hf
          refine lv_tableIn (tgt := 47) hx hb dX3_greatestDigitAt_6 (by rw [c8]; decide) (by rw [c8]; decide) (off := 41) (by rw [c8]; rfl) (by decide) ?_
          refine lv_aload_n hx hb dX3_greatestDigitAt_47 rfl (lv_at hl 0 rfl) ?_
          refine lv_iload_n hx hb dX3_greatestDigitAt_48 rfl (lv_at hl 1 rfl) ?_
          refine lv_iconst (v := (1 : Int32)) hx hb dX3_greatestDigitAt_49 (by decide) ?_
          refine lv_isub hx hb dX3_greatestDigitAt_50 ?_
          obtain ⟨r9, hq10, hf⟩ := bnd_of hf
          refine jnI (WB := (w_X3_greatestDigitAt cI cJ cZ cQ a_t a_t_characters t_length t_characters)) (rnV (As := [.int (x1 - (1 : Int32))]) (rest := []) (ci := 3) (q0 := 0) (W0 := (w_X3_characterAt cI cJ cZ cQ a_t a_t_characters t_length t_characters)) hx hb hml hown hts hK hN (c_X3_characterAt l D cI cJ cZ cQ a_t a_t_characters t_length t_characters (x1 - (1 : Int32)) r9 hq10 H.size) (cwV 1 hts gX3_greatestDigitAt_X3_characterAt rfl rfl rfl e_X3_characterAt ⟨Nat.le_of_ble_eq_true rfl, Nat.le_of_ble_eq_true rfl⟩) hP hD [0, 1] rfl (by decide) rfl rfl rfl rfl hl (Nat.le_of_ble_eq_true rfl) dX3_greatestDigitAt_51 ⟨Nat.zero_le _, Nat.zero_le _⟩ rfl) hP hD hS hA [0, 1] [] [0, 1] rfl rfl (by decide) (by decide) rfl (by decide) (fun H locs hP hD hS => ?_)
          refine lv_bipush (v := (50 : Int32)) hx hb dX3_greatestDigitAt_54 (by decide) ?_
          refine lv_icmp_ne (tgt := 64) hx hb dX3_greatestDigitAt_56 (by decide) (fun c11 => ?_) (fun c11 => ?_)
          · replace hf := brF c11 hf
            refine lv_bipush (v := (57 : Int32)) hx hb dX3_greatestDigitAt_64 (by decide) ?_
            obtain rfl := Option.some.inj hf
            exact endI (ty := .int) hC (nzI _) rfl hP hD hS dX3_greatestDigitAt_66
          · replace hf := brT c11 hf
            refine lv_bipush (v := (48 : Int32)) hx hb dX3_greatestDigitAt_59 (by decide) ?_
            refine lv_goto (tgt := 66) hx hb dX3_greatestDigitAt_61 (by decide) ?_
            obtain rfl := Option.some.inj hf
            exact endI (ty := .int) hC (nzI _) rfl hP hD hS dX3_greatestDigitAt_66
        · replace hf := brF c8 hf
          by_cases c12 : v1 = (4 : Int32)
          · replace hf := brT c12 hf
            refine lv_tableIn (tgt := 67) hx hb dX3_greatestDigitAt_6 (by rw [c12]; decide) (by rw [c12]; decide) (off := 61) (by rw [c12]; rfl) (by decide) ?_
            refine lv_bipush (v := (52 : Int32)) hx hb dX3_greatestDigitAt_67 (by decide) ?_
            obtain rfl := Option.some.inj hf
            exact endI (ty := .int) hC (nzI _) rfl hP hD hS dX3_greatestDigitAt_69
          · replace hf := brF c12 hf
            by_cases c13 : v1 = (5 : Int32)
            · replace hf := brT c13 hf
              refine lv_tableIn (tgt := 70) hx hb dX3_greatestDigitAt_6 (by rw [c13]; decide) (by rw [c13]; decide) (off := 64) (by rw [c13]; rfl) (by decide) ?_
              refine lv_aload_n hx hb dX3_greatestDigitAt_70 rfl (lv_at hl 0 rfl) ?_
              refine lv_iload_n hx hb dX3_greatestDigitAt_71 rfl (lv_at hl 1 rfl) ?_
              refine lv_iconst (v := (1 : Int32)) hx hb dX3_greatestDigitAt_72 (by decide) ?_
              refine lv_isub hx hb dX3_greatestDigitAt_73 ?_
              obtain ⟨r14, hq15, hf⟩ := bnd_of hf
              refine jnI (WB := (w_X3_greatestDigitAt cI cJ cZ cQ a_t a_t_characters t_length t_characters)) (rnV (As := [.int (x1 - (1 : Int32))]) (rest := []) (ci := 3) (q0 := 0) (W0 := (w_X3_characterAt cI cJ cZ cQ a_t a_t_characters t_length t_characters)) hx hb hml hown hts hK hN (c_X3_characterAt l D cI cJ cZ cQ a_t a_t_characters t_length t_characters (x1 - (1 : Int32)) r14 hq15 H.size) (cwV 1 hts gX3_greatestDigitAt_X3_characterAt rfl rfl rfl e_X3_characterAt ⟨Nat.le_of_ble_eq_true rfl, Nat.le_of_ble_eq_true rfl⟩) hP hD [0, 1] rfl (by decide) rfl rfl rfl rfl hl (Nat.le_of_ble_eq_true rfl) dX3_greatestDigitAt_74 ⟨Nat.zero_le _, Nat.zero_le _⟩ rfl) hP hD hS hA [0, 1] [] [0, 1] rfl rfl (by decide) (by decide) rfl (by decide) (fun H locs hP hD hS => ?_)
              refine lv_bipush (v := (52 : Int32)) hx hb dX3_greatestDigitAt_77 (by decide) ?_
              refine lv_icmp_ne (tgt := 87) hx hb dX3_greatestDigitAt_79 (by decide) (fun c16 => ?_) (fun c16 => ?_)
              · replace hf := brF c16 hf
                refine lv_bipush (v := (57 : Int32)) hx hb dX3_greatestDigitAt_87 (by decide) ?_
                obtain rfl := Option.some.inj hf
                exact endI (ty := .int) hC (nzI _) rfl hP hD hS dX3_greatestDigitAt_89
              · replace hf := brT c16 hf
                refine lv_bipush (v := (48 : Int32)) hx hb dX3_greatestDigitAt_82 (by decide) ?_
                refine lv_goto (tgt := 89) hx hb dX3_greatestDigitAt_84 (by decide) ?_
                obtain rfl := Option.some.inj hf
                exact endI (ty := .int) hC (nzI _) rfl hP hD hS dX3_greatestDigitAt_89
            · replace hf := brF c13 hf
              refine lv_tableOut (tgt := 90) hx hb dX3_greatestDigitAt_6 (tabOut0_5 c2 c3 c7 c8 c12 c13) (by decide) ?_
              refine lv_aload_n hx hb dX3_greatestDigitAt_90 rfl (lv_at hl 0 rfl) ?_
              refine lv_iload_n hx hb dX3_greatestDigitAt_91 rfl (lv_at hl 1 rfl) ?_
              refine lv_iconst (v := (2 : Int32)) hx hb dX3_greatestDigitAt_92 (by decide) ?_
              refine lv_isub hx hb dX3_greatestDigitAt_93 ?_
              obtain ⟨r17, hq18, hf⟩ := bnd_of hf
              refine jnI (WB := (w_X3_greatestDigitAt cI cJ cZ cQ a_t a_t_characters t_length t_characters)) (rnV (As := [.int (x1 - (2 : Int32))]) (rest := []) (ci := 3) (q0 := 0) (W0 := (w_X3_characterAt cI cJ cZ cQ a_t a_t_characters t_length t_characters)) hx hb hml hown hts hK hN (c_X3_characterAt l D cI cJ cZ cQ a_t a_t_characters t_length t_characters (x1 - (2 : Int32)) r17 hq18 H.size) (cwV 1 hts gX3_greatestDigitAt_X3_characterAt rfl rfl rfl e_X3_characterAt ⟨Nat.le_of_ble_eq_true rfl, Nat.le_of_ble_eq_true rfl⟩) hP hD [0, 1] rfl (by decide) rfl rfl rfl rfl hl (Nat.le_of_ble_eq_true rfl) dX3_greatestDigitAt_94 ⟨Nat.zero_le _, Nat.zero_le _⟩ rfl) hP hD hS hA [0, 1] [] [0, 1] rfl rfl (by decide) (by decide) rfl (by decide) (fun H locs hP hD hS => ?_)
              refine lv_bipush (v := (52 : Int32)) hx hb dX3_greatestDigitAt_97 (by decide) ?_
              refine lv_icmp_ne (tgt := 107) hx hb dX3_greatestDigitAt_99 (by decide) (fun c19 => ?_) (fun c19 => ?_)
              · replace hf := brF c19 hf
                refine lv_bipush (v := (57 : Int32)) hx hb dX3_greatestDigitAt_107 (by decide) ?_
                obtain rfl := Option.some.inj hf
                exact endI (ty := .int) hC (nzI _) rfl hP hD hS dX3_greatestDigitAt_109
              · replace hf := brT c19 hf
                refine lv_bipush (v := (48 : Int32)) hx hb dX3_greatestDigitAt_102 (by decide) ?_
                refine lv_goto (tgt := 109) hx hb dX3_greatestDigitAt_104 (by decide) ?_
                obtain rfl := Option.some.inj hf
                exact endI (ty := .int) hC (nzI _) rfl hP hD hS dX3_greatestDigitAt_109
theorem c_X3_greatestDigitAt (l : Launch) (D : va_G) (cI cJ cZ cQ : ClassId) (a_t a_t_characters : Nat) (t_length : Int32) (t_characters : Nat → Int32) (p0 : Int32)  (res : R_X3_greatestDigitAt)  (hf : f_X3_greatestDigitAt_0 t_length t_characters p0 = some res) : MetI l D (tys4 cI cJ cZ cQ) yX3_greatestDigitAt wsX3_greatestDigitAt rm_X3_greatestDigitAt [.ref a_t, .int p0] (w_X3_greatestDigitAt cI cJ cZ cQ a_t a_t_characters t_length t_characters) (w_X3_greatestDigitAt cI cJ cZ cQ a_t a_t_characters t_length t_characters) res := by
  intro sz
  exact metW (own := RX3) (cc := cX3_greatestDigitAt) (nL := 2) (ret := (some .int)) (Qc := fun A => qI D (tys4 cI cJ cZ cQ) (w_X3_greatestDigitAt cI cJ cZ cQ a_t a_t_characters t_length t_characters) A res) (by decide) rfl rfl (Nat.le_of_ble_eq_true rfl) (fun p e s m args below meth c A hC hP hD hS ls hl => t_X3_greatestDigitAt_0 hC  p0 hf _ _ hP hD hS _ (lv_sub hl [0, 1] rfl)) sz
theorem e_X3_greatestDigitAt : yX3_greatestDigitAt.cls = RX3 ∧ yX3_greatestDigitAt.cls ≠ "java/lang/invoke/MethodHandle" ∧ yX3_greatestDigitAt.cls ≠ "java/lang/invoke/VarHandle" ∧ (parseMethodDescriptor yX3_greatestDigitAt.desc).map (fun d => d.parameters.length) = some 1 := by decide +kernel
/-! X3_mayStandAt -/
theorem iw_X3_mayStandAt_3 : ∀ w ∈ wsX30, w ∈ wsX3_mayStandAt := fun _ h => List.mem_cons_of_mem _ (List.mem_append_right _ h)
def w_X3_mayStandAt (cI cJ cZ cQ : ClassId) (a_t a_t_characters : Nat) (t_length : Int32) (t_characters : Nat → Int32) : va_W := [(a_t, .inr (3, [.ref a_t_characters, .int t_length])), (a_t_characters, .inl (cI, 80, .inl t_characters))]
abbrev rm_X3_mayStandAt : Room := { frames := 2, cells := 0, slots := 0, locals := 42 }
def S_X3_mayStandAt_0 (p : Program) (l : Launch) (e : Env) (s : State) (m : MethodId) (args : Array Value) (below : List Frame) (meth : Method) (c : Code) (A : Nat → Prop) (D : va_G) (cI cJ cZ cQ : ClassId) (a_t a_t_characters : Nat) (t_length : Int32) (t_characters : Nat → Int32) (res : R_X3_mayStandAt) (k : Int32 → Option R_X3_mayStandAt) : Prop := ∀ (x1 : Int32), k x1 = some res → ∀ (H : Heap) (locs : List Loc), va_P D vwCl (w_X3_mayStandAt cI cJ cZ cQ a_t a_t_characters t_length t_characters) H → va_D A (w_X3_mayStandAt cI cJ cZ cQ a_t a_t_characters t_length t_characters) → va_S A s.heap H locs → ∀ ls : Array Slot, lv_has ls 3 [(0, .ref a_t), (1, .int x1)] → W p l e (headSpec wsX3_mayStandAt rm_X3_mayStandAt).room s m args below meth c H locs 0 0 (MQ below (qI D (tys4 cI cJ cZ cQ) (w_X3_mayStandAt cI cJ cZ cQ a_t a_t_characters t_length t_characters) A res) args s 0 0 A) (F0 m 0 ls [])
set_option maxHeartbeats 4000000 in
set_option maxRecDepth 100000 in
theorem t_X3_mayStandAt_0 {p : Program} {l : Launch} {e : Env} {s : State} {m : MethodId} {args : Array Value} {below : List Frame} {meth : Method} {c : Code} {A : Nat → Prop} {D : va_G} {cI cJ cZ cQ : ClassId} {a_t a_t_characters : Nat} {t_length : Int32} {t_characters : Nat → Int32} {res : R_X3_mayStandAt}   (hC : mcx RX3 cX3_mayStandAt (some .boolean) 3 wsX3_mayStandAt p s m args meth c A D (tys4 cI cJ cZ cQ))   : S_X3_mayStandAt_0 p l e s m args below meth c A D cI cJ cZ cQ a_t a_t_characters t_length t_characters res (f_X3_mayStandAt_0  t_length t_characters) := by
  intro x1 hf H locs hP hD hS ls hl
  obtain ⟨hx, hb, hr, hml, hown, hts, hlocks, hA, hK, hN⟩ := id hC
  unfold f_X3_mayStandAt_0 at hf
  refine lv_aload_n hx hb dX3_mayStandAt_0 rfl (lv_at hl 0 rfl) ?_
  refine va_get (D := D) (ci := 3) (v := .ref a_t_characters) (C := RX3) (T := TX3) (N := 2) hx hb hts iw_X3_mayStandAt_3 hown hK hP 0 rfl rfl 0 (by decide) (hts (.fieldLink RX3 11 "PowerDiagram$SetupText" "characters" "[I") (List.mem_of_getElem? (i := 1) rfl)) (fun _ h9 => h9) rfl dX3_mayStandAt_1 ?_
  refine lv_iload_n hx hb dX3_mayStandAt_4 rfl (lv_at hl 1 rfl) ?_
  obtain ⟨h1, hf⟩ := gIx_of hf
  refine va_iald hx hb hK hP 1 0 rfl rfl h1 dX3_mayStandAt_5 ?_
  refine lv_topi (fun v2 ev2 => ?_)
  replace hf := nm_of ev2 hf
  refine lv_istore_n (lv' := [(2, .int v2), (0, .ref a_t), (1, .int x1)]) hx hb dX3_mayStandAt_6 rfl hl (by decide) rfl (fun ls hl => ?_)
  refine lv_iload_n hx hb dX3_mayStandAt_7 rfl (lv_at hl 2 rfl) ?_
  refine lv_if_ne (tgt := 23) hx hb dX3_mayStandAt_8 (by decide) (fun c3 => ?_) (fun c3 => ?_)
  · replace hf := brF c3 hf
    refine lv_iload_n hx hb dX3_mayStandAt_23 rfl (lv_at hl 2 rfl) ?_
    refine lv_bipush (v := (70 : Int32)) hx hb dX3_mayStandAt_24 (by decide) ?_
    refine lv_icmp_le (tgt := 31) hx hb dX3_mayStandAt_26 (by decide) (fun c4 => ?_) (fun c4 => ?_)
    · replace hf := brT c4 hf
      refine lv_iload_n hx hb dX3_mayStandAt_31 rfl (lv_at hl 0 rfl) ?_
      refine lv_bipush (v := (48 : Int32)) hx hb dX3_mayStandAt_32 (by decide) ?_
      refine lv_icmp_lt (tgt := 50) hx hb dX3_mayStandAt_34 (by decide) (fun c5 => ?_) (fun c5 => ?_)
      · replace hf := brT c5 hf
        refine lv_iconst (v := (0 : Int32)) hx hb dX3_mayStandAt_50 (by decide) ?_
        obtain rfl := Option.some.inj hf
        exact endI (ty := .boolean) hC rfl rfl hP hD hS dX3_mayStandAt_51
      · replace hf := brF c5 hf
        refine lv_iload_n hx hb dX3_mayStandAt_37 rfl (lv_at hl 0 rfl) ?_
        refine lv_aload_n hx hb dX3_mayStandAt_38 rfl (lv_at hl 1 rfl) ?_
        refine lv_iload_n hx hb dX3_mayStandAt_39 rfl (lv_at hl 2 rfl) ?_
        obtain ⟨r6, hq7, hf⟩ := bnd_of hf
        refine jnI (WB := (w_X3_mayStandAt cI cJ cZ cQ a_t a_t_characters t_length t_characters)) (rnV (As := [.int x1]) (rest := [.int v2]) (ci := 3) (q0 := 0) (W0 := (w_X3_greatestDigitAt cI cJ cZ cQ a_t a_t_characters t_length t_characters)) hx hb hml hown hts hK hN (c_X3_greatestDigitAt l D cI cJ cZ cQ a_t a_t_characters t_length t_characters x1 r6 hq7 H.size) (cwV 1 hts gX3_mayStandAt_X3_greatestDigitAt rfl rfl rfl e_X3_greatestDigitAt ⟨Nat.le_of_ble_eq_true rfl, Nat.le_of_ble_eq_true rfl⟩) hP hD [0, 1] rfl (by decide) rfl rfl rfl rfl hl (Nat.le_of_ble_eq_true rfl) dX3_mayStandAt_40 ⟨Nat.zero_le _, Nat.zero_le _⟩ rfl) hP hD hS hA [0, 1] [] [0, 1] rfl rfl (by decide) (by decide) rfl (by decide) (fun H locs hP hD hS => ?_)
        refine lv_icmp_gt (tgt := 50) hx hb dX3_mayStandAt_43 (by decide) (fun c8 => ?_) (fun c8 => ?_)
        · replace hf := brT c8 hf
          refine lv_iconst (v := (0 : Int32)) hx hb dX3_mayStandAt_50 (by decide) ?_
          obtain rfl := Option.some.inj hf
          exact endI (ty := .boolean) hC rfl rfl hP hD hS dX3_mayStandAt_51
        · replace hf := brF c8 hf
          refine lv_iconst (v := (1 : Int32)) hx hb dX3_mayStandAt_46 (by decide) ?_
          refine lv_goto (tgt := 51) hx hb dX3_mayStandAt_47 (by decide) ?_
          obtain rfl := Option.some.inj hf
          exact endI (ty := .boolean) hC rfl rfl hP hD hS dX3_mayStandAt_51
    · replace hf := brF c4 hf
      refine lv_iconst (v := (0 : Int32)) hx hb dX3_mayStandAt_29 (by decide) ?_
      obtain rfl := Option.some.inj hf
      exact endI (ty := .boolean) hC rfl rfl hP hD hS dX3_mayStandAt_30
  · replace hf := brT c3 hf
    refine lv_iload_n hx hb dX3_mayStandAt_11 rfl (lv_at hl 0 rfl) ?_
    refine lv_bipush (v := (80 : Int32)) hx hb dX3_mayStandAt_12 (by decide) ?_
    refine lv_icmp_ne (tgt := 21) hx hb dX3_mayStandAt_14 (by decide) (fun c9 => ?_) (fun c9 => ?_)
    · replace hf := brF c9 hf
      refine lv_iconst (v := (0 : Int32)) hx hb dX3_mayStandAt_21 (by decide) ?_
      obtain rfl := Option.some.inj hf
      exact endI (ty := .boolean) hC rfl rfl hP hD hS dX3_mayStandAt_22
    · replace hf := brT c9 hf
      refine lv_iconst (v := (1 : Int32)) hx hb dX3_mayStandAt_17 (by decide) ?_
      refine lv_goto (tgt := 22) hx hb dX3_mayStandAt_18 (by decide) ?_
      obtain rfl := Option.some.inj hf
      exact endI (ty := .boolean) hC rfl rfl hP hD hS dX3_mayStandAt_22
theorem c_X3_mayStandAt (l : Launch) (D : va_G) (cI cJ cZ cQ : ClassId) (a_t a_t_characters : Nat) (t_length : Int32) (t_characters : Nat → Int32) (p0 : Int32)  (res : R_X3_mayStandAt)  (hf : f_X3_mayStandAt_0 t_length t_characters p0 = some res) : MetI l D (tys4 cI cJ cZ cQ) yX3_mayStandAt wsX3_mayStandAt rm_X3_mayStandAt [.ref a_t, .int p0] (w_X3_mayStandAt cI cJ cZ cQ a_t a_t_characters t_length t_characters) (w_X3_mayStandAt cI cJ cZ cQ a_t a_t_characters t_length t_characters) res := by
  intro sz
  exact metW (own := RX3) (cc := cX3_mayStandAt) (nL := 3) (ret := (some .boolean)) (Qc := fun A => qI D (tys4 cI cJ cZ cQ) (w_X3_mayStandAt cI cJ cZ cQ a_t a_t_characters t_length t_characters) A res) (by decide) rfl rfl (Nat.le_of_ble_eq_true rfl) (fun p e s m args below meth c A hC hP hD hS ls hl => t_X3_mayStandAt_0 hC  p0 hf _ _ hP hD hS _ (lv_sub hl [0, 1] rfl)) sz
theorem e_X3_mayStandAt : yX3_mayStandAt.cls = RX3 ∧ yX3_mayStandAt.cls ≠ "java/lang/invoke/MethodHandle" ∧ yX3_mayStandAt.cls ≠ "java/lang/invoke/VarHandle" ∧ (parseMethodDescriptor yX3_mayStandAt.desc).map (fun d => d.parameters.length) = some 1 := by decide +kernel
/-! X3_firstError -/
theorem iw_X3_firstError_3 : ∀ w ∈ wsX30, w ∈ wsX3_firstError := fun _ h => List.mem_cons_of_mem _ (List.mem_append_right _ h)
def w_X3_firstError (cI cJ cZ cQ : ClassId) (a_t a_t_characters : Nat) (t_length : Int32) (t_characters : Nat → Int32) : va_W := [(a_t, .inr (3, [.ref a_t_characters, .int t_length])), (a_t_characters, .inl (cI, 80, .inl t_characters))]
abbrev rm_X3_firstError : Room := { frames := 3, cells := 0, slots := 0, locals := 64 }
def S_X3_firstError_2 (p : Program) (l : Launch) (e : Env) (s : State) (m : MethodId) (args : Array Value) (below : List Frame) (meth : Method) (c : Code) (A : Nat → Prop) (D : va_G) (cI cJ cZ cQ : ClassId) (a_t a_t_characters : Nat) (t_length : Int32) (t_characters : Nat → Int32) (res : R_X3_firstError) (k : Int32 → Option R_X3_firstError) : Prop := ∀ (x1 : Int32), k x1 = some res → ∀ (H : Heap) (locs : List Loc), va_P D vwCl (w_X3_firstError cI cJ cZ cQ a_t a_t_characters t_length t_characters) H → va_D A (w_X3_firstError cI cJ cZ cQ a_t a_t_characters t_length t_characters) → va_S A s.heap H locs → ∀ ls : Array Slot, lv_has ls 2 [(0, .ref a_t), (1, .int x1)] → W p l e (headSpec wsX3_firstError rm_X3_firstError).room s m args below meth c H locs 0 0 (MQ below (qI D (tys4 cI cJ cZ cQ) (w_X3_firstError cI cJ cZ cQ a_t a_t_characters t_length t_characters) A res) args s 0 0 A) (F0 m 2 ls [])
def S_X3_firstError_0 (p : Program) (l : Launch) (e : Env) (s : State) (m : MethodId) (args : Array Value) (below : List Frame) (meth : Method) (c : Code) (A : Nat → Prop) (D : va_G) (cI cJ cZ cQ : ClassId) (a_t a_t_characters : Nat) (t_length : Int32) (t_characters : Nat → Int32) (res : R_X3_firstError) (k : Option R_X3_firstError) : Prop := k  = some res → ∀ (H : Heap) (locs : List Loc), va_P D vwCl (w_X3_firstError cI cJ cZ cQ a_t a_t_characters t_length t_characters) H → va_D A (w_X3_firstError cI cJ cZ cQ a_t a_t_characters t_length t_characters) → va_S A s.heap H locs → ∀ ls : Array Slot, lv_has ls 2 [(0, .ref a_t)] → W p l e (headSpec wsX3_firstError rm_X3_firstError).room s m args below meth c H locs 0 0 (MQ below (qI D (tys4 cI cJ cZ cQ) (w_X3_firstError cI cJ cZ cQ a_t a_t_characters t_length t_characters) A res) args s 0 0 A) (F0 m 0 ls [])
set_option maxHeartbeats 4000000 in
set_option maxRecDepth 100000 in
theorem i_X3_firstError_2 {p : Program} {l : Launch} {e : Env} {s : State} {m : MethodId} {args : Array Value} {below : List Frame} {meth : Method} {c : Code} {A : Nat → Prop} {D : va_G} {cI cJ cZ cQ : ClassId} {a_t a_t_characters : Nat} {t_length : Int32} {t_characters : Nat → Int32} {res : R_X3_firstError}   {k2 : Int32 → Option R_X3_firstError} (hC : mcx RX3 cX3_firstError (some .int) 2 wsX3_firstError p s m args meth c A D (tys4 cI cJ cZ cQ))   (hk2 : S_X3_firstError_2 p l e s m args below meth c A D cI cJ cZ cQ a_t a_t_characters t_length t_characters res k2) : S_X3_firstError_2 p l e s m args below meth c A D cI cJ cZ cQ a_t a_t_characters t_length t_characters res (g_X3_firstError_2  t_length t_characters k2) := by
  intro x1 hf H locs hP hD hS ls hl
  obtain ⟨hx, hb, hr, hml, hown, hts, hlocks, hA, hK, hN⟩ := id hC
  unfold g_X3_firstError_2 at hf
  refine lv_iload_n hx hb dX3_firstError_2 rfl (lv_at hl 1 rfl) ?_
  refine lv_aload_n hx hb dX3_firstError_3 rfl (lv_at hl 0 rfl) ?_
  refine va_get (D := D) (ci := 3) (v := .int t_length) (C := RX3) (T := TX3) (N := 2) hx hb hts iw_X3_firstError_3 hown hK hP 0 rfl rfl 1 (by decide) (hts (.fieldLink RX3 15 "PowerDiagram$SetupText" "length" "I") (List.mem_of_getElem? (i := 1) rfl)) (fun _ h9 => h9) rfl dX3_firstError_4 ?_
  refine lv_icmp_ge (tgt := 26) hx hb dX3_firstError_7 (by decide) (fun c1 => ?_) (fun c1 => ?_)
  · replace hf := brT c1 hf
    refine lv_aload_n hx hb dX3_firstError_26 rfl (lv_at hl 0 rfl) ?_
    refine va_get (D := D) (ci := 3) (v := .int t_length) (C := RX3) (T := TX3) (N := 2) hx hb hts iw_X3_firstError_3 hown hK hP 0 rfl rfl 1 (by decide) (hts (.fieldLink RX3 15 "PowerDiagram$SetupText" "length" "I") (List.mem_of_getElem? (i := 1) rfl)) (fun _ h9 => h9) rfl dX3_firstError_27 ?_
    refine lv_bipush (v := (7 : Int32)) hx hb dX3_firstError_30 (by decide) ?_
    refine lv_irem hx hb dX3_firstError_32 (by decide) ?_
    refine lv_iconst (v := (1 : Int32)) hx hb dX3_firstError_33 (by decide) ?_
    refine lv_icmp_ne (tgt := 42) hx hb dX3_firstError_34 (by decide) (fun c2 => ?_) (fun c2 => ?_)
    · replace hf := brF c2 hf
      refine lv_aload_n hx hb dX3_firstError_42 rfl (lv_at hl 0 rfl) ?_
      refine va_get (D := D) (ci := 3) (v := .int t_length) (C := RX3) (T := TX3) (N := 2) hx hb hts iw_X3_firstError_3 hown hK hP 0 rfl rfl 1 (by decide) (hts (.fieldLink RX3 15 "PowerDiagram$SetupText" "length" "I") (List.mem_of_getElem? (i := 1) rfl)) (fun _ h9 => h9) rfl dX3_firstError_43 ?_
      obtain rfl := Option.some.inj hf
      exact endI (ty := .int) hC (nzI _) rfl hP hD hS dX3_firstError_46
    · replace hf := brT c2 hf
      refine lv_bipush (v := (-9 : Int32)) hx hb dX3_firstError_37 (by decide) ?_
      refine lv_goto (tgt := 46) hx hb dX3_firstError_39 (by decide) ?_
      obtain rfl := Option.some.inj hf
      exact endI (ty := .int) hC (nzI _) rfl hP hD hS dX3_firstError_46
  · replace hf := brF c1 hf
    refine lv_aload_n hx hb dX3_firstError_10 rfl (lv_at hl 0 rfl) ?_
    refine lv_iload_n hx hb dX3_firstError_11 rfl (lv_at hl 1 rfl) ?_
    obtain ⟨r3, hq4, hf⟩ := bnd_of hf
    refine jnI (WB := (w_X3_firstError cI cJ cZ cQ a_t a_t_characters t_length t_characters)) (rnV (As := [.int x1]) (rest := []) (ci := 3) (q0 := 0) (W0 := (w_X3_mayStandAt cI cJ cZ cQ a_t a_t_characters t_length t_characters)) hx hb hml hown hts hK hN (c_X3_mayStandAt l D cI cJ cZ cQ a_t a_t_characters t_length t_characters x1 r3 hq4 H.size) (cwV 1 hts gX3_firstError_X3_mayStandAt rfl rfl rfl e_X3_mayStandAt ⟨Nat.le_of_ble_eq_true rfl, Nat.le_of_ble_eq_true rfl⟩) hP hD [0, 1] rfl (by decide) rfl rfl rfl rfl hl (Nat.le_of_ble_eq_true rfl) dX3_firstError_12 ⟨Nat.zero_le _, Nat.zero_le _⟩ rfl) hP hD hS hA [0, 1] [] [0, 1] rfl rfl (by decide) (by decide) rfl (by decide) (fun H locs hP hD hS => ?_)
    refine lv_if_ne (tgt := 20) hx hb dX3_firstError_15 (by decide) (fun c5 => ?_) (fun c5 => ?_)
    · replace hf := brF c5 hf
      refine lv_iinc (v := (x1 + (1 : Int32))) (lv' := [(1, .int (x1 + (1 : Int32))), (0, .ref a_t)]) hx hb dX3_firstError_20 hl (k := 1) rfl rfl (by decide) rfl (fun ls hl => ?_)
      refine lv_goto (tgt := 2) hx hb dX3_firstError_23 (by decide) ?_
      exact (hk2) (x1 + (1 : Int32)) hf _ _ hP hD hS _ (lv_sub hl [1, 0] rfl)
    · replace hf := brT c5 hf
      refine lv_iload_n hx hb dX3_firstError_18 rfl (lv_at hl 1 rfl) ?_
      obtain rfl := Option.some.inj hf
      exact endI (ty := .int) hC (nzI _) rfl hP hD hS dX3_firstError_19
theorem t_X3_firstError_2 {p : Program} {l : Launch} {e : Env} {s : State} {m : MethodId} {args : Array Value} {below : List Frame} {meth : Method} {c : Code} {A : Nat → Prop} {D : va_G} {cI cJ cZ cQ : ClassId} {a_t a_t_characters : Nat} {t_length : Int32} {t_characters : Nat → Int32} {res : R_X3_firstError}   (hC : mcx RX3 cX3_firstError (some .int) 2 wsX3_firstError p s m args meth c A D (tys4 cI cJ cZ cQ))   (n : Nat) : S_X3_firstError_2 p l e s m args below meth c A D cI cJ cZ cQ a_t a_t_characters t_length t_characters res (f_X3_firstError_2  t_length t_characters n) := by
  induction n with
  | zero =>
    intro x1 hf
    exact nomatch (show (none : Option R_X3_firstError) = some res from hf)
  | succ n ih => exact i_X3_firstError_2 hC   ih
set_option maxHeartbeats 4000000 in
set_option maxRecDepth 100000 in
theorem t_X3_firstError_0 {p : Program} {l : Launch} {e : Env} {s : State} {m : MethodId} {args : Array Value} {below : List Frame} {meth : Method} {c : Code} {A : Nat → Prop} {D : va_G} {cI cJ cZ cQ : ClassId} {a_t a_t_characters : Nat} {t_length : Int32} {t_characters : Nat → Int32} {res : R_X3_firstError}   (hC : mcx RX3 cX3_firstError (some .int) 2 wsX3_firstError p s m args meth c A D (tys4 cI cJ cZ cQ))   : S_X3_firstError_0 p l e s m args below meth c A D cI cJ cZ cQ a_t a_t_characters t_length t_characters res (f_X3_firstError_0  t_length t_characters) := by
  intro hf H locs hP hD hS ls hl
  obtain ⟨hx, hb, hr, hml, hown, hts, hlocks, hA, hK, hN⟩ := id hC
  unfold f_X3_firstError_0 at hf
  refine lv_iconst (v := (0 : Int32)) hx hb dX3_firstError_0 (by decide) ?_
  refine lv_istore_n (lv' := [(1, .int (0 : Int32)), (0, .ref a_t)]) hx hb dX3_firstError_1 rfl hl (by decide) rfl (fun ls hl => ?_)
  exact (t_X3_firstError_2 hC   fuel) (0 : Int32) hf _ _ hP hD hS _ (lv_sub hl [1, 0] rfl)
theorem c_X3_firstError (l : Launch) (D : va_G) (cI cJ cZ cQ : ClassId) (a_t a_t_characters : Nat) (t_length : Int32) (t_characters : Nat → Int32)   (res : R_X3_firstError)  (hf : f_X3_firstError_0 t_length t_characters = some res) : MetI l D (tys4 cI cJ cZ cQ) yX3_firstError wsX3_firstError rm_X3_firstError [.ref a_t] (w_X3_firstError cI cJ cZ cQ a_t a_t_characters t_length t_characters) (w_X3_firstError cI cJ cZ cQ a_t a_t_characters t_length t_characters) res := by
  intro sz
  exact metW (own := RX3) (cc := cX3_firstError) (nL := 2) (ret := (some .int)) (Qc := fun A => qI D (tys4 cI cJ cZ cQ) (w_X3_firstError cI cJ cZ cQ a_t a_t_characters t_length t_characters) A res) (by decide) rfl rfl (Nat.le_of_ble_eq_true rfl) (fun p e s m args below meth c A hC hP hD hS ls hl => t_X3_firstError_0 hC   hf _ _ hP hD hS _ (lv_sub hl [0] rfl)) sz
theorem e_X3_firstError : yX3_firstError.cls = RX3 ∧ yX3_firstError.cls ≠ "java/lang/invoke/MethodHandle" ∧ yX3_firstError.cls ≠ "java/lang/invoke/VarHandle" ∧ (parseMethodDescriptor yX3_firstError.desc).map (fun d => d.parameters.length) = some 0 := by decide +kernel
/-! X3_number -/
def w_X3_number (cI cJ cZ cQ : ClassId) (a_t a_t_characters : Nat) (t_length : Int32) (t_characters : Nat → Int32) : va_W := [(a_t, .inr (3, [.ref a_t_characters, .int t_length])), (a_t_characters, .inl (cI, 80, .inl t_characters))]
abbrev rm_X3_number : Room := { frames := 1, cells := 0, slots := 0, locals := 21 }
def S_X3_number_5 (p : Program) (l : Launch) (e : Env) (s : State) (m : MethodId) (args : Array Value) (below : List Frame) (meth : Method) (c : Code) (A : Nat → Prop) (D : va_G) (cI cJ cZ cQ : ClassId) (a_t a_t_characters : Nat) (t_length : Int32) (t_characters : Nat → Int32) (res : R_X3_number) (k : Int32 → Int32 → Int32 → Int32 → Option R_X3_number) : Prop := ∀ (x1 : Int32) (x2 : Int32) (x3 : Int32) (x4 : Int32), k x1 x2 x3 x4 = some res → ∀ (H : Heap) (locs : List Loc), va_P D vwCl (w_X3_number cI cJ cZ cQ a_t a_t_characters t_length t_characters) H → va_D A (w_X3_number cI cJ cZ cQ a_t a_t_characters t_length t_characters) → va_S A s.heap H locs → ∀ ls : Array Slot, lv_has ls 5 [(0, .ref a_t), (1, .int x1), (2, .int x2), (3, .int x3), (4, .int x4)] → W p l e (headSpec wsX3_number rm_X3_number).room s m args below meth c H locs 0 0 (MQ below (qI D (tys4 cI cJ cZ cQ) (w_X3_number cI cJ cZ cQ a_t a_t_characters t_length t_characters) A res) args s 0 0 A) (F0 m 5 ls [])
def S_X3_number_0 (p : Program) (l : Launch) (e : Env) (s : State) (m : MethodId) (args : Array Value) (below : List Frame) (meth : Method) (c : Code) (A : Nat → Prop) (D : va_G) (cI cJ cZ cQ : ClassId) (a_t a_t_characters : Nat) (t_length : Int32) (t_characters : Nat → Int32) (res : R_X3_number) (k : Int32 → Int32 → Option R_X3_number) : Prop := ∀ (x1 : Int32) (x2 : Int32), k x1 x2 = some res → ∀ (H : Heap) (locs : List Loc), va_P D vwCl (w_X3_number cI cJ cZ cQ a_t a_t_characters t_length t_characters) H → va_D A (w_X3_number cI cJ cZ cQ a_t a_t_characters t_length t_characters) → va_S A s.heap H locs → ∀ ls : Array Slot, lv_has ls 5 [(0, .ref a_t), (1, .int x1), (2, .int x2)] → W p l e (headSpec wsX3_number rm_X3_number).room s m args below meth c H locs 0 0 (MQ below (qI D (tys4 cI cJ cZ cQ) (w_X3_number cI cJ cZ cQ a_t a_t_characters t_length t_characters) A res) args s 0 0 A) (F0 m 0 ls [])
set_option maxHeartbeats 4000000 in
set_option maxRecDepth 100000 in
theorem i_X3_number_5 {p : Program} {l : Launch} {e : Env} {s : State} {m : MethodId} {args : Array Value} {below : List Frame} {meth : Method} {c : Code} {A : Nat → Prop} {D : va_G} {cI cJ cZ cQ : ClassId} {a_t a_t_characters : Nat} {t_length : Int32} {t_characters : Nat → Int32} {res : R_X3_number}   {k5 : Int32 → Int32 → Int32 → Int32 → Option R_X3_number} (hC : mcx RX3 cX3_number (some .int) 5 wsX3_number p s m args meth c A D (tys4 cI cJ cZ cQ))   (hk5 : S_X3_number_5 p l e s m args below meth c A D cI cJ cZ cQ a_t a_t_characters t_length t_characters res k5) : S_X3_number_5 p l e s m args below meth c A D cI cJ cZ cQ a_t a_t_characters t_length t_characters res (g_X3_number_5  t_length t_characters k5) := by
  intro x1 x2 x3 x4 hf H locs hP hD hS ls hl
  obtain ⟨hx, hb, hr, hml, hown, hts, hlocks, hA, hK, hN⟩ := id hC
  unfold g_X3_number_5 at hf
  refine lv_iload hx hb dX3_number_5 (lv_at hl 4 rfl) ?_
  refine lv_iload_n hx hb dX3_number_7 rfl (lv_at hl 1 rfl) ?_
  refine lv_iload_n hx hb dX3_number_8 rfl (lv_at hl 2 rfl) ?_
  refine lv_iadd hx hb dX3_number_9 ?_
  refine lv_icmp_ge (tgt := 34) hx hb dX3_number_10 (by decide) (fun c1 => ?_) (fun c1 => ?_)
  · replace hf := brT c1 hf
    refine lv_iload_n hx hb dX3_number_34 rfl (lv_at hl 3 rfl) ?_
    obtain rfl := Option.some.inj hf
    exact endI (ty := .int) hC (nzI _) rfl hP hD hS dX3_number_35
  · replace hf := brF c1 hf
    refine lv_bipush (v := (10 : Int32)) hx hb dX3_number_13 (by decide) ?_
    refine lv_iload_n hx hb dX3_number_15 rfl (lv_at hl 3 rfl) ?_
    refine lv_imul hx hb dX3_number_16 ?_
    refine lv_aload_n hx hb dX3_number_17 rfl (lv_at hl 0 rfl) ?_
    refine lv_iload hx hb dX3_number_18 (lv_at hl 4 rfl) ?_
    obtain ⟨r2, hq3, hf⟩ := bnd_of hf
    refine jnI (WB := (w_X3_number cI cJ cZ cQ a_t a_t_characters t_length t_characters)) (rnV (As := [.int x4]) (rest := [.int ((10 : Int32) * x3)]) (ci := 3) (q0 := 0) (W0 := (w_X3_characterAt cI cJ cZ cQ a_t a_t_characters t_length t_characters)) hx hb hml hown hts hK hN (c_X3_characterAt l D cI cJ cZ cQ a_t a_t_characters t_length t_characters x4 r2 hq3 H.size) (cwV 1 hts gX3_number_X3_characterAt rfl rfl rfl e_X3_characterAt ⟨Nat.le_of_ble_eq_true rfl, Nat.le_of_ble_eq_true rfl⟩) hP hD [0, 1] rfl (by decide) rfl rfl rfl rfl hl (Nat.le_of_ble_eq_true rfl) dX3_number_20 ⟨Nat.zero_le _, Nat.zero_le _⟩ rfl) hP hD hS hA [0, 1] [] [0, 1] rfl rfl (by decide) (by decide) rfl (by decide) (fun H locs hP hD hS => ?_)
    refine lv_iadd hx hb dX3_number_23 ?_
    refine lv_bipush (v := (48 : Int32)) hx hb dX3_number_24 (by decide) ?_
    refine lv_isub hx hb dX3_number_26 ?_
    refine lv_topi (fun v4 ev4 => ?_)
    replace hf := nm_of ev4 hf
    refine lv_istore_n (lv' := [(3, .int v4), (0, .ref a_t), (1, .int x1), (2, .int x2), (4, .int x4)]) hx hb dX3_number_27 rfl hl (by decide) rfl (fun ls hl => ?_)
    refine lv_iinc (v := (x4 + (1 : Int32))) (lv' := [(4, .int (x4 + (1 : Int32))), (3, .int v4), (0, .ref a_t), (1, .int x1), (2, .int x2)]) hx hb dX3_number_28 hl (k := 4) rfl rfl (by decide) rfl (fun ls hl => ?_)
    refine lv_goto (tgt := 5) hx hb dX3_number_31 (by decide) ?_
    exact (hk5) x1 x2 v4 (x4 + (1 : Int32)) hf _ _ hP hD hS _ (lv_sub hl [2, 3, 4, 1, 0] rfl)
theorem t_X3_number_5 {p : Program} {l : Launch} {e : Env} {s : State} {m : MethodId} {args : Array Value} {below : List Frame} {meth : Method} {c : Code} {A : Nat → Prop} {D : va_G} {cI cJ cZ cQ : ClassId} {a_t a_t_characters : Nat} {t_length : Int32} {t_characters : Nat → Int32} {res : R_X3_number}   (hC : mcx RX3 cX3_number (some .int) 5 wsX3_number p s m args meth c A D (tys4 cI cJ cZ cQ))   (n : Nat) : S_X3_number_5 p l e s m args below meth c A D cI cJ cZ cQ a_t a_t_characters t_length t_characters res (f_X3_number_5  t_length t_characters n) := by
  induction n with
  | zero =>
    intro x1 x2 x3 x4 hf
    exact nomatch (show (none : Option R_X3_number) = some res from hf)
  | succ n ih => exact i_X3_number_5 hC   ih
set_option maxHeartbeats 4000000 in
set_option maxRecDepth 100000 in
theorem t_X3_number_0 {p : Program} {l : Launch} {e : Env} {s : State} {m : MethodId} {args : Array Value} {below : List Frame} {meth : Method} {c : Code} {A : Nat → Prop} {D : va_G} {cI cJ cZ cQ : ClassId} {a_t a_t_characters : Nat} {t_length : Int32} {t_characters : Nat → Int32} {res : R_X3_number}   (hC : mcx RX3 cX3_number (some .int) 5 wsX3_number p s m args meth c A D (tys4 cI cJ cZ cQ))   : S_X3_number_0 p l e s m args below meth c A D cI cJ cZ cQ a_t a_t_characters t_length t_characters res (f_X3_number_0  t_length t_characters) := by
  intro x1 x2 hf H locs hP hD hS ls hl
  obtain ⟨hx, hb, hr, hml, hown, hts, hlocks, hA, hK, hN⟩ := id hC
  unfold f_X3_number_0 at hf
  refine lv_iconst (v := (0 : Int32)) hx hb dX3_number_0 (by decide) ?_
  refine lv_istore_n (lv' := [(3, .int (0 : Int32)), (0, .ref a_t), (1, .int x1), (2, .int x2)]) hx hb dX3_number_1 rfl hl (by decide) rfl (fun ls hl => ?_)
  refine lv_iload_n hx hb dX3_number_2 rfl (lv_at hl 2 rfl) ?_
  refine lv_istore (lv' := [(4, .int x1), (3, .int (0 : Int32)), (0, .ref a_t), (1, .int x1), (2, .int x2)]) hx hb dX3_number_3 hl (by decide) rfl (fun ls hl => ?_)
  exact (t_X3_number_5 hC   fuel) x1 x2 (0 : Int32) x1 hf _ _ hP hD hS _ (lv_sub hl [2, 3, 4, 1, 0] rfl)
theorem c_X3_number (l : Launch) (D : va_G) (cI cJ cZ cQ : ClassId) (a_t a_t_characters : Nat) (t_length : Int32) (t_characters : Nat → Int32) (p0 : Int32) (p1 : Int32)  (res : R_X3_number)  (hf : f_X3_number_0 t_length t_characters p0 p1 = some res) : MetI l D (tys4 cI cJ cZ cQ) yX3_number wsX3_number rm_X3_number [.ref a_t, .int p0, .int p1] (w_X3_number cI cJ cZ cQ a_t a_t_characters t_length t_characters) (w_X3_number cI cJ cZ cQ a_t a_t_characters t_length t_characters) res := by
  intro sz
  exact metW (own := RX3) (cc := cX3_number) (nL := 5) (ret := (some .int)) (Qc := fun A => qI D (tys4 cI cJ cZ cQ) (w_X3_number cI cJ cZ cQ a_t a_t_characters t_length t_characters) A res) (by decide) rfl rfl (Nat.le_of_ble_eq_true rfl) (fun p e s m args below meth c A hC hP hD hS ls hl => t_X3_number_0 hC  p0 p1 hf _ _ hP hD hS _ (lv_sub hl [0, 1, 2] rfl)) sz
theorem e_X3_number : yX3_number.cls = RX3 ∧ yX3_number.cls ≠ "java/lang/invoke/MethodHandle" ∧ yX3_number.cls ≠ "java/lang/invoke/VarHandle" ∧ (parseMethodDescriptor yX3_number.desc).map (fun d => d.parameters.length) = some 2 := by decide +kernel
/-! X3_readInto -/
theorem iw_X3_readInto_3 : ∀ w ∈ wsX30, w ∈ wsX3_readInto := fun _ h => List.mem_cons_of_mem _ (List.mem_append_right _ h)
theorem iw_X3_readInto_4 : ∀ w ∈ wsX40, w ∈ wsX3_readInto := fun _ h => List.mem_cons_of_mem _ (List.mem_append_left _ (List.mem_append_right _ h))
def w_X3_readInto (cI cJ cZ cQ : ClassId) (a_p0 a_p0_x a_p0_y a_p0_w a_t a_t_characters : Nat) (p0_count : Int32) (t_length : Int32) (t_characters : Nat → Int32) (p0_x : Nat → Int32) (p0_y : Nat → Int32) (p0_w : Nat → Int32) : va_W := [(a_p0, .inr (4, [.ref a_p0_x, .ref a_p0_y, .ref a_p0_w, .int p0_count])), (a_t, .inr (3, [.ref a_t_characters, .int t_length])), (a_t_characters, .inl (cI, 80, .inl t_characters)), (a_p0_x, .inl (cI, 10, .inl p0_x)), (a_p0_y, .inl (cI, 10, .inl p0_y)), (a_p0_w, .inl (cI, 10, .inl p0_w))]
abbrev rm_X3_readInto : Room := { frames := 2, cells := 0, slots := 0, locals := 45 }
def S_X3_readInto_7 (p : Program) (l : Launch) (e : Env) (s : State) (m : MethodId) (args : Array Value) (below : List Frame) (meth : Method) (c : Code) (A : Nat → Prop) (D : va_G) (cI cJ cZ cQ : ClassId) (a_p0 a_p0_x a_p0_y a_p0_w a_t a_t_characters : Nat) (t_length : Int32) (t_characters : Nat → Int32) (res : R_X3_readInto) (k : Int32 → (Nat → Int32) → (Nat → Int32) → (Nat → Int32) → Int32 → Option R_X3_readInto) : Prop := ∀ (p0_count : Int32) (p0_x : Nat → Int32) (p0_y : Nat → Int32) (p0_w : Nat → Int32) (x2 : Int32), k p0_count p0_x p0_y p0_w x2 = some res → ∀ (H : Heap) (locs : List Loc), va_P D vwCl (w_X3_readInto cI cJ cZ cQ a_p0 a_p0_x a_p0_y a_p0_w a_t a_t_characters p0_count t_length t_characters p0_x p0_y p0_w) H → va_D A (w_X3_readInto cI cJ cZ cQ a_p0 a_p0_x a_p0_y a_p0_w a_t a_t_characters p0_count t_length t_characters p0_x p0_y p0_w) → va_S A s.heap H locs → ∀ ls : Array Slot, lv_has ls 3 [(0, .ref a_t), (1, .ref a_p0), (2, .int x2)] → W p l e (headSpec wsX3_readInto rm_X3_readInto).room s m args below meth c H locs 0 0 (MQ below (qV D (tys4 cI cJ cZ cQ) (w_X3_readInto cI cJ cZ cQ a_p0 a_p0_x a_p0_y a_p0_w a_t a_t_characters res.1 t_length t_characters res.2.1 res.2.2.1 res.2.2.2) A) args s 0 0 A) (F0 m 7 ls [])
def S_X3_readInto_0 (p : Program) (l : Launch) (e : Env) (s : State) (m : MethodId) (args : Array Value) (below : List Frame) (meth : Method) (c : Code) (A : Nat → Prop) (D : va_G) (cI cJ cZ cQ : ClassId) (a_p0 a_p0_x a_p0_y a_p0_w a_t a_t_characters : Nat) (t_length : Int32) (t_characters : Nat → Int32) (res : R_X3_readInto) (k : Int32 → (Nat → Int32) → (Nat → Int32) → (Nat → Int32) → Option R_X3_readInto) : Prop := ∀ (p0_count : Int32) (p0_x : Nat → Int32) (p0_y : Nat → Int32) (p0_w : Nat → Int32), k p0_count p0_x p0_y p0_w = some res → ∀ (H : Heap) (locs : List Loc), va_P D vwCl (w_X3_readInto cI cJ cZ cQ a_p0 a_p0_x a_p0_y a_p0_w a_t a_t_characters p0_count t_length t_characters p0_x p0_y p0_w) H → va_D A (w_X3_readInto cI cJ cZ cQ a_p0 a_p0_x a_p0_y a_p0_w a_t a_t_characters p0_count t_length t_characters p0_x p0_y p0_w) → va_S A s.heap H locs → ∀ ls : Array Slot, lv_has ls 3 [(0, .ref a_t), (1, .ref a_p0)] → W p l e (headSpec wsX3_readInto rm_X3_readInto).room s m args below meth c H locs 0 0 (MQ below (qV D (tys4 cI cJ cZ cQ) (w_X3_readInto cI cJ cZ cQ a_p0 a_p0_x a_p0_y a_p0_w a_t a_t_characters res.1 t_length t_characters res.2.1 res.2.2.1 res.2.2.2) A) args s 0 0 A) (F0 m 0 ls [])
set_option maxHeartbeats 4000000 in
set_option maxRecDepth 100000 in
theorem i_X3_readInto_7 {p : Program} {l : Launch} {e : Env} {s : State} {m : MethodId} {args : Array Value} {below : List Frame} {meth : Method} {c : Code} {A : Nat → Prop} {D : va_G} {cI cJ cZ cQ : ClassId} {a_p0 a_p0_x a_p0_y a_p0_w a_t a_t_characters : Nat} {t_length : Int32} {t_characters : Nat → Int32} {res : R_X3_readInto}   {k7 : Int32 → (Nat → Int32) → (Nat → Int32) → (Nat → Int32) → Int32 → Option R_X3_readInto} (hC : mcx RX3 cX3_readInto none 3 wsX3_readInto p s m args meth c A D (tys4 cI cJ cZ cQ))   (hk7 : S_X3_readInto_7 p l e s m args below meth c A D cI cJ cZ cQ a_p0 a_p0_x a_p0_y a_p0_w a_t a_t_characters t_length t_characters res k7) : S_X3_readInto_7 p l e s m args below meth c A D cI cJ cZ cQ a_p0 a_p0_x a_p0_y a_p0_w a_t a_t_characters t_length t_characters res (g_X3_readInto_7  t_length t_characters k7) := by
  intro p0_count p0_x p0_y p0_w x2 hf H locs hP hD hS ls hl
  obtain ⟨hx, hb, hr, hml, hown, hts, hlocks, hA, hK, hN⟩ := id hC
  unfold g_X3_readInto_7 at hf
  refine lv_iload_n hx hb dX3_readInto_7 rfl (lv_at hl 2 rfl) ?_
  refine lv_bipush (v := (7 : Int32)) hx hb dX3_readInto_8 (by decide) ?_
  refine lv_iadd hx hb dX3_readInto_10 ?_
  refine lv_aload_n hx hb dX3_readInto_11 rfl (lv_at hl 0 rfl) ?_
  refine va_get (D := D) (ci := 3) (v := .int t_length) (C := RX3) (T := TX3) (N := 2) hx hb hts iw_X3_readInto_3 hown hK hP 1 rfl rfl 1 (by decide) (hts (.fieldLink RX3 15 "PowerDiagram$SetupText" "length" "I") (List.mem_of_getElem? (i := 2) rfl)) (fun _ h9 => h9) rfl dX3_readInto_12 ?_
  refine lv_icmp_gt (tgt := 50) hx hb dX3_readInto_15 (by decide) (fun c1 => ?_) (fun c1 => ?_)
  · replace hf := brT c1 hf
    obtain rfl := Option.some.inj hf
    exact endV hC hP hD hS dX3_readInto_50
  · replace hf := brF c1 hf
    refine lv_aload_n hx hb dX3_readInto_18 rfl (lv_at hl 1 rfl) ?_
    refine lv_aload_n hx hb dX3_readInto_19 rfl (lv_at hl 0 rfl) ?_
    refine lv_iload_n hx hb dX3_readInto_20 rfl (lv_at hl 2 rfl) ?_
    refine lv_iconst (v := (2 : Int32)) hx hb dX3_readInto_21 (by decide) ?_
    obtain ⟨r2, hq3, hf⟩ := bnd_of hf
    refine jnI (WB := (w_X3_readInto cI cJ cZ cQ a_p0 a_p0_x a_p0_y a_p0_w a_t a_t_characters p0_count t_length t_characters p0_x p0_y p0_w)) (rnV (As := [.int x2, .int (2 : Int32)]) (rest := [.ref a_p0]) (ci := 3) (q0 := 0) (W0 := (w_X3_number cI cJ cZ cQ a_t a_t_characters t_length t_characters)) hx hb hml hown hts hK hN (c_X3_number l D cI cJ cZ cQ a_t a_t_characters t_length t_characters x2 (2 : Int32) r2 hq3 H.size) (cwV 2 hts gX3_readInto_X3_number rfl rfl rfl e_X3_number ⟨Nat.le_of_ble_eq_true rfl, Nat.le_of_ble_eq_true rfl⟩) hP hD [1, 2] rfl (by decide) rfl rfl rfl rfl hl (Nat.le_of_ble_eq_true rfl) dX3_readInto_22 ⟨Nat.zero_le _, Nat.zero_le _⟩ rfl) hP hD hS hA [1, 2] [0, 3, 4, 5] [0, 4, 5, 1, 2, 3] rfl rfl (by decide) (by decide) rfl (by decide) (fun H locs hP hD hS => ?_)
    refine lv_aload_n hx hb dX3_readInto_25 rfl (lv_at hl 0 rfl) ?_
    refine lv_iload_n hx hb dX3_readInto_26 rfl (lv_at hl 2 rfl) ?_
    refine lv_iconst (v := (2 : Int32)) hx hb dX3_readInto_27 (by decide) ?_
    refine lv_iadd hx hb dX3_readInto_28 ?_
    refine lv_iconst (v := (2 : Int32)) hx hb dX3_readInto_29 (by decide) ?_
    obtain ⟨r4, hq5, hf⟩ := bnd_of hf
    refine jnI (WB := (w_X3_readInto cI cJ cZ cQ a_p0 a_p0_x a_p0_y a_p0_w a_t a_t_characters p0_count t_length t_characters p0_x p0_y p0_w)) (rnV (As := [.int (x2 + (2 : Int32)), .int (2 : Int32)]) (rest := [.int r2, .ref a_p0]) (ci := 3) (q0 := 0) (W0 := (w_X3_number cI cJ cZ cQ a_t a_t_characters t_length t_characters)) hx hb hml hown hts hK hN (c_X3_number l D cI cJ cZ cQ a_t a_t_characters t_length t_characters (x2 + (2 : Int32)) (2 : Int32) r4 hq5 H.size) (cwV 2 hts gX3_readInto_X3_number rfl rfl rfl e_X3_number ⟨Nat.le_of_ble_eq_true rfl, Nat.le_of_ble_eq_true rfl⟩) hP hD [1, 2] rfl (by decide) rfl rfl rfl rfl hl (Nat.le_of_ble_eq_true rfl) dX3_readInto_30 ⟨Nat.zero_le _, Nat.zero_le _⟩ rfl) hP hD hS hA [1, 2] [0, 3, 4, 5] [0, 4, 5, 1, 2, 3] rfl rfl (by decide) (by decide) rfl (by decide) (fun H locs hP hD hS => ?_)
    refine lv_aload_n hx hb dX3_readInto_33 rfl (lv_at hl 0 rfl) ?_
    refine lv_iload_n hx hb dX3_readInto_34 rfl (lv_at hl 2 rfl) ?_
    refine lv_iconst (v := (4 : Int32)) hx hb dX3_readInto_35 (by decide) ?_
    refine lv_iadd hx hb dX3_readInto_36 ?_
    refine lv_iconst (v := (3 : Int32)) hx hb dX3_readInto_37 (by decide) ?_
    obtain ⟨r6, hq7, hf⟩ := bnd_of hf
    refine jnI (WB := (w_X3_readInto cI cJ cZ cQ a_p0 a_p0_x a_p0_y a_p0_w a_t a_t_characters p0_count t_length t_characters p0_x p0_y p0_w)) (rnV (As := [.int (x2 + (4 : Int32)), .int (3 : Int32)]) (rest := [.int r4, .int r2, .ref a_p0]) (ci := 3) (q0 := 0) (W0 := (w_X3_number cI cJ cZ cQ a_t a_t_characters t_length t_characters)) hx hb hml hown hts hK hN (c_X3_number l D cI cJ cZ cQ a_t a_t_characters t_length t_characters (x2 + (4 : Int32)) (3 : Int32) r6 hq7 H.size) (cwV 2 hts gX3_readInto_X3_number rfl rfl rfl e_X3_number ⟨Nat.le_of_ble_eq_true rfl, Nat.le_of_ble_eq_true rfl⟩) hP hD [1, 2] rfl (by decide) rfl rfl rfl rfl hl (Nat.le_of_ble_eq_true rfl) dX3_readInto_38 ⟨Nat.zero_le _, Nat.zero_le _⟩ rfl) hP hD hS hA [1, 2] [0, 3, 4, 5] [0, 4, 5, 1, 2, 3] rfl rfl (by decide) (by decide) rfl (by decide) (fun H locs hP hD hS => ?_)
    obtain ⟨u8, u9, u10, u11, hq12, hf⟩ := bnd4_of hf
    refine jnV (WB := (w_X3_readInto cI cJ cZ cQ a_p0 a_p0_x a_p0_y a_p0_w a_t a_t_characters u8 t_length t_characters u9 u10 u11)) (rnV (As := [.int r2, .int r4, .int r6]) (rest := []) (ci := 4) (q0 := 0) (W0 := (w_X4_put cI cJ cZ cQ a_p0 a_p0_x a_p0_y a_p0_w p0_count p0_x p0_y p0_w)) hx hb hml hown hts hK hN (c_X4_put l D cI cJ cZ cQ a_p0 a_p0_x a_p0_y a_p0_w p0_count p0_x p0_y p0_w r2 r4 r6 (u8, u9, u10, u11) hq12 H.size) (cwV 3 hts gX3_readInto_X4_put rfl rfl rfl e_X4_put ⟨Nat.le_of_ble_eq_true rfl, Nat.le_of_ble_eq_true rfl⟩) hP hD [0, 3, 4, 5] rfl (by decide) rfl rfl rfl rfl hl (Nat.le_of_ble_eq_true rfl) dX3_readInto_41 ⟨Nat.zero_le _, Nat.zero_le _⟩ rfl) hP hD hS hA [0, 3, 4, 5] [1, 2] [2, 0, 1, 3, 4, 5] rfl rfl (by decide) (by decide) rfl (by decide) (fun H locs hP hD hS => ?_)
    refine lv_iinc (v := (x2 + (7 : Int32))) (lv' := [(2, .int (x2 + (7 : Int32))), (0, .ref a_t), (1, .ref a_p0)]) hx hb dX3_readInto_44 hl (k := 2) rfl rfl (by decide) rfl (fun ls hl => ?_)
    refine lv_goto (tgt := 7) hx hb dX3_readInto_47 (by decide) ?_
    exact (hk7) u8 u9 u10 u11 (x2 + (7 : Int32)) hf _ _ hP hD hS _ (lv_sub hl [1, 2, 0] rfl)
theorem t_X3_readInto_7 {p : Program} {l : Launch} {e : Env} {s : State} {m : MethodId} {args : Array Value} {below : List Frame} {meth : Method} {c : Code} {A : Nat → Prop} {D : va_G} {cI cJ cZ cQ : ClassId} {a_p0 a_p0_x a_p0_y a_p0_w a_t a_t_characters : Nat} {t_length : Int32} {t_characters : Nat → Int32} {res : R_X3_readInto}   (hC : mcx RX3 cX3_readInto none 3 wsX3_readInto p s m args meth c A D (tys4 cI cJ cZ cQ))   (n : Nat) : S_X3_readInto_7 p l e s m args below meth c A D cI cJ cZ cQ a_p0 a_p0_x a_p0_y a_p0_w a_t a_t_characters t_length t_characters res (f_X3_readInto_7  t_length t_characters n) := by
  induction n with
  | zero =>
    intro p0_count p0_x p0_y p0_w x2 hf
    exact nomatch (show (none : Option R_X3_readInto) = some res from hf)
  | succ n ih => exact i_X3_readInto_7 hC   ih
set_option maxHeartbeats 4000000 in
set_option maxRecDepth 100000 in
theorem t_X3_readInto_0 {p : Program} {l : Launch} {e : Env} {s : State} {m : MethodId} {args : Array Value} {below : List Frame} {meth : Method} {c : Code} {A : Nat → Prop} {D : va_G} {cI cJ cZ cQ : ClassId} {a_p0 a_p0_x a_p0_y a_p0_w a_t a_t_characters : Nat} {t_length : Int32} {t_characters : Nat → Int32} {res : R_X3_readInto}   (hC : mcx RX3 cX3_readInto none 3 wsX3_readInto p s m args meth c A D (tys4 cI cJ cZ cQ))   : S_X3_readInto_0 p l e s m args below meth c A D cI cJ cZ cQ a_p0 a_p0_x a_p0_y a_p0_w a_t a_t_characters t_length t_characters res (f_X3_readInto_0  t_length t_characters) := by
  intro p0_count p0_x p0_y p0_w hf H locs hP hD hS ls hl
  obtain ⟨hx, hb, hr, hml, hown, hts, hlocks, hA, hK, hN⟩ := id hC
  unfold f_X3_readInto_0 at hf
  refine lv_aload_n hx hb dX3_readInto_0 rfl (lv_at hl 1 rfl) ?_
  refine lv_iconst (v := (0 : Int32)) hx hb dX3_readInto_1 (by decide) ?_
  refine wrF (D := D) (ci := 4) (v := .int (0 : Int32)) (ty := .int) (C := RX4) (T := TX4) (N := 4) (WB := (w_X3_readInto cI cJ cZ cQ a_p0 a_p0_x a_p0_y a_p0_w a_t a_t_characters (0 : Int32) t_length t_characters p0_x p0_y p0_w)) hx hb hts iw_X3_readInto_4 tyX4 tyX4_ok nmX4 hown hK hP hD hS 0 rfl rfl 3 (by decide) (hts (.fieldLink RX3 30 "PowerDiagram$Sites" "count" "I") (List.mem_of_getElem? (i := 1) rfl)) (fun _ h9 => h9) rfl rfl rfl rfl (Nat.le_of_ble_eq_true rfl) dX3_readInto_2 rfl (fun H locs hP hD hS => ?_)
  refine lv_iconst (v := (1 : Int32)) hx hb dX3_readInto_5 (by decide) ?_
  refine lv_istore_n (lv' := [(2, .int (1 : Int32)), (0, .ref a_t), (1, .ref a_p0)]) hx hb dX3_readInto_6 rfl hl (by decide) rfl (fun ls hl => ?_)
  exact (t_X3_readInto_7 hC   fuel) (0 : Int32) p0_x p0_y p0_w (1 : Int32) hf _ _ hP hD hS _ (lv_sub hl [1, 2, 0] rfl)
theorem c_X3_readInto (l : Launch) (D : va_G) (cI cJ cZ cQ : ClassId) (a_p0 a_p0_x a_p0_y a_p0_w a_t a_t_characters : Nat) (p0_count : Int32) (t_length : Int32) (t_characters : Nat → Int32) (p0_x : Nat → Int32) (p0_y : Nat → Int32) (p0_w : Nat → Int32)   (res : R_X3_readInto)  (hf : f_X3_readInto_0 t_length t_characters p0_count p0_x p0_y p0_w = some res) : MetV l D (tys4 cI cJ cZ cQ) yX3_readInto wsX3_readInto rm_X3_readInto [.ref a_t, .ref a_p0] (w_X3_readInto cI cJ cZ cQ a_p0 a_p0_x a_p0_y a_p0_w a_t a_t_characters p0_count t_length t_characters p0_x p0_y p0_w) (w_X3_readInto cI cJ cZ cQ a_p0 a_p0_x a_p0_y a_p0_w a_t a_t_characters res.1 t_length t_characters res.2.1 res.2.2.1 res.2.2.2) := by
  intro sz
  exact metW (own := RX3) (cc := cX3_readInto) (nL := 3) (ret := none) (Qc := fun A => qV D (tys4 cI cJ cZ cQ) (w_X3_readInto cI cJ cZ cQ a_p0 a_p0_x a_p0_y a_p0_w a_t a_t_characters res.1 t_length t_characters res.2.1 res.2.2.1 res.2.2.2) A) (by decide) rfl rfl (Nat.le_of_ble_eq_true rfl) (fun p e s m args below meth c A hC hP hD hS ls hl => t_X3_readInto_0 hC  p0_count p0_x p0_y p0_w hf _ _ hP hD hS _ (lv_sub hl [0, 1] rfl)) sz
theorem e_X3_readInto : yX3_readInto.cls = RX3 ∧ yX3_readInto.cls ≠ "java/lang/invoke/MethodHandle" ∧ yX3_readInto.cls ≠ "java/lang/invoke/VarHandle" ∧ (parseMethodDescriptor yX3_readInto.desc).map (fun d => d.parameters.length) = some 1 := by decide +kernel
