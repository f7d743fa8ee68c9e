/-! X0_putOnce -/
theorem iw_X0_putOnce_0 : ∀ w ∈ wsX00, w ∈ wsX0_putOnce := fun _ h => List.mem_cons_of_mem _ (List.mem_append_right _ h)
def w_X0_putOnce (cI cJ cZ cQ : ClassId) (a_t a_t_planes a_t_x a_t_y a_t_d : Nat) (t_count : Int32) (t_d : Nat → Int32) (t_x : Nat → Int32) (t_y : Nat → Int32) : va_W := [(a_t, .inr (0, [.ref a_t_planes, .ref a_t_x, .ref a_t_y, .ref a_t_d, .int t_count])), (a_t_d, .inl (cI, 14, .inl t_d)), (a_t_x, .inl (cI, 14, .inl t_x)), (a_t_y, .inl (cI, 14, .inl t_y))]
abbrev rm_X0_putOnce : Room := { frames := 0, cells := 0, slots := 0, locals := 0 }
def S_X0_putOnce_3 (p : Program) (l : Launch) (e : Env) (s : State) (m : MethodId) (args : Array Value) (below : List Frame) (meth : Method) (c : Code) (A : Nat → Prop) (D : va_G) (cI cJ cZ cQ : ClassId) (a_t a_t_planes a_t_x a_t_y a_t_d : Nat)  (res : R_X0_putOnce) (k : Int32 → (Nat → Int32) → (Nat → Int32) → (Nat → Int32) → Int32 → Int32 → Int32 → Int32 → Option R_X0_putOnce) : Prop := ∀ (t_count : Int32) (t_d : Nat → Int32) (t_x : Nat → Int32) (t_y : Nat → Int32) (x1 : Int32) (x2 : Int32) (x3 : Int32) (x4 : Int32), k t_count t_d t_x t_y x1 x2 x3 x4 = some res → ∀ (H : Heap) (locs : List Loc), va_P D vwCl (w_X0_putOnce cI cJ cZ cQ a_t a_t_planes a_t_x a_t_y a_t_d t_count t_d t_x t_y) H → va_D A (w_X0_putOnce cI cJ cZ cQ a_t a_t_planes a_t_x a_t_y a_t_d t_count t_d t_x t_y) → va_S A s.heap H locs → ∀ ls : Array Slot, lv_has ls 5 [(0, .ref a_t), (1, .int x1), (2, .int x2), (3, .int x3), (4, .int x4)] → W p l e (headSpec wsX0_putOnce rm_X0_putOnce).room s m args below meth c H locs 0 0 (MQ below (qV D (tys4 cI cJ cZ cQ) (w_X0_putOnce cI cJ cZ cQ a_t a_t_planes a_t_x a_t_y a_t_d res.1 res.2.1 res.2.2.1 res.2.2.2) A) args s 0 0 A) (F0 m 3 ls [])
def S_X0_putOnce_0 (p : Program) (l : Launch) (e : Env) (s : State) (m : MethodId) (args : Array Value) (below : List Frame) (meth : Method) (c : Code) (A : Nat → Prop) (D : va_G) (cI cJ cZ cQ : ClassId) (a_t a_t_planes a_t_x a_t_y a_t_d : Nat)  (res : R_X0_putOnce) (k : Int32 → (Nat → Int32) → (Nat → Int32) → (Nat → Int32) → Int32 → Int32 → Int32 → Option R_X0_putOnce) : Prop := ∀ (t_count : Int32) (t_d : Nat → Int32) (t_x : Nat → Int32) (t_y : Nat → Int32) (x1 : Int32) (x2 : Int32) (x3 : Int32), k t_count t_d t_x t_y x1 x2 x3 = some res → ∀ (H : Heap) (locs : List Loc), va_P D vwCl (w_X0_putOnce cI cJ cZ cQ a_t a_t_planes a_t_x a_t_y a_t_d t_count t_d t_x t_y) H → va_D A (w_X0_putOnce cI cJ cZ cQ a_t a_t_planes a_t_x a_t_y a_t_d t_count t_d t_x t_y) → va_S A s.heap H locs → ∀ ls : Array Slot, lv_has ls 5 [(0, .ref a_t), (1, .int x1), (2, .int x2), (3, .int x3)] → W p l e (headSpec wsX0_putOnce rm_X0_putOnce).room s m args below meth c H locs 0 0 (MQ below (qV D (tys4 cI cJ cZ cQ) (w_X0_putOnce cI cJ cZ cQ a_t a_t_planes a_t_x a_t_y a_t_d res.1 res.2.1 res.2.2.1 res.2.2.2) A) args s 0 0 A) (F0 m 0 ls [])
set_option maxHeartbeats 4000000 in
set_option maxRecDepth 100000 in
theorem i_X0_putOnce_3 {p : Program} {l : Launch} {e : Env} {s : State} {m : MethodId} {args : Array Value} {below : List Frame} {meth : Method} {c : Code} {A : Nat → Prop} {D : va_G} {cI cJ cZ cQ : ClassId} {a_t a_t_planes a_t_x a_t_y a_t_d : Nat}  {res : R_X0_putOnce}   {k3 : Int32 → (Nat → Int32) → (Nat → Int32) → (Nat → Int32) → Int32 → Int32 → Int32 → Int32 → Option R_X0_putOnce} (hC : mcx RX0 cX0_putOnce none 5 wsX0_putOnce p s m args meth c A D (tys4 cI cJ cZ cQ))   (hk3 : S_X0_putOnce_3 p l e s m args below meth c A D cI cJ cZ cQ a_t a_t_planes a_t_x a_t_y a_t_d res k3) : S_X0_putOnce_3 p l e s m args below meth c A D cI cJ cZ cQ a_t a_t_planes a_t_x a_t_y a_t_d res (g_X0_putOnce_3   k3) := by
  intro t_count t_d t_x t_y x1 x2 x3 x4 hf H locs hP hD hS ls hl
  obtain ⟨hx, hb, hr, hml, hown, hts, hlocks, hA, hK, hN⟩ := id hC
  unfold g_X0_putOnce_3 at hf
  refine lv_iload hx hb dX0_putOnce_3 (lv_at hl 4 rfl) ?_
  refine lv_aload_n hx hb dX0_putOnce_5 rfl (lv_at hl 0 rfl) ?_
  refine va_get (D := D) (ci := 0) (v := .int t_count) (C := RX0) (T := TX0) (N := 5) hx hb hts iw_X0_putOnce_0 hown hK hP 0 rfl rfl 4 (by decide) (hts (.fieldLink RX0 25 "PowerDiagram$Cell" "count" "I") (List.mem_of_getElem? (i := 1) rfl)) (fun _ h9 => h9) rfl dX0_putOnce_6 ?_
  refine lv_icmp_ge (tgt := 61) hx hb dX0_putOnce_9 (by decide) (fun c1 => ?_) (fun c1 => ?_)
  · replace hf := brT c1 hf
    refine lv_aload_n hx hb dX0_putOnce_61 rfl (lv_at hl 0 rfl) ?_
    refine va_get (D := D) (ci := 0) (v := .int t_count) (C := RX0) (T := TX0) (N := 5) hx hb hts iw_X0_putOnce_0 hown hK hP 0 rfl rfl 4 (by decide) (hts (.fieldLink RX0 25 "PowerDiagram$Cell" "count" "I") (List.mem_of_getElem? (i := 1) rfl)) (fun _ h9 => h9) rfl dX0_putOnce_62 ?_
    refine lv_bipush (v := (14 : Int32)) hx hb dX0_putOnce_65 (by decide) ?_
    refine lv_icmp_lt (tgt := 71) hx hb dX0_putOnce_67 (by decide) (fun c2 => ?_) (fun c2 => ?_)
    · replace hf := brT c2 hf
      refine lv_aload_n hx hb dX0_putOnce_71 rfl (lv_at hl 0 rfl) ?_
      refine va_get (D := D) (ci := 0) (v := .ref a_t_x) (C := RX0) (T := TX0) (N := 5) hx hb hts iw_X0_putOnce_0 hown hK hP 0 rfl rfl 1 (by decide) (hts (.fieldLink RX0 15 "PowerDiagram$Cell" "x" "[I") (List.mem_of_getElem? (i := 3) rfl)) (fun _ h9 => h9) rfl dX0_putOnce_72 ?_
      refine lv_aload_n hx hb dX0_putOnce_75 rfl (lv_at hl 0 rfl) ?_
      refine va_get (D := D) (ci := 0) (v := .int t_count) (C := RX0) (T := TX0) (N := 5) hx hb hts iw_X0_putOnce_0 hown hK hP 0 rfl rfl 4 (by decide) (hts (.fieldLink RX0 25 "PowerDiagram$Cell" "count" "I") (List.mem_of_getElem? (i := 1) rfl)) (fun _ h9 => h9) rfl dX0_putOnce_76 ?_
      refine lv_iload_n hx hb dX0_putOnce_79 rfl (lv_at hl 1 rfl) ?_
      obtain ⟨h3, hf⟩ := gIx_of hf
      refine wrI (WB := (w_X0_putOnce cI cJ cZ cQ a_t a_t_planes a_t_x a_t_y a_t_d t_count t_d (upd t_x t_count.toNatClampNeg x1) t_y)) hx hb hK hP hD hS 2 0 rfl rfl h3 dX0_putOnce_80 rfl (fun H locs hP hD hS => ?_)
      refine lv_aload_n hx hb dX0_putOnce_81 rfl (lv_at hl 0 rfl) ?_
      refine va_get (D := D) (ci := 0) (v := .ref a_t_y) (C := RX0) (T := TX0) (N := 5) hx hb hts iw_X0_putOnce_0 hown hK hP 0 rfl rfl 2 (by decide) (hts (.fieldLink RX0 19 "PowerDiagram$Cell" "y" "[I") (List.mem_of_getElem? (i := 4) rfl)) (fun _ h9 => h9) rfl dX0_putOnce_82 ?_
      refine lv_aload_n hx hb dX0_putOnce_85 rfl (lv_at hl 0 rfl) ?_
      refine va_get (D := D) (ci := 0) (v := .int t_count) (C := RX0) (T := TX0) (N := 5) hx hb hts iw_X0_putOnce_0 hown hK hP 0 rfl rfl 4 (by decide) (hts (.fieldLink RX0 25 "PowerDiagram$Cell" "count" "I") (List.mem_of_getElem? (i := 1) rfl)) (fun _ h9 => h9) rfl dX0_putOnce_86 ?_
      refine lv_iload_n hx hb dX0_putOnce_89 rfl (lv_at hl 2 rfl) ?_
      refine wrI (WB := (w_X0_putOnce cI cJ cZ cQ a_t a_t_planes a_t_x a_t_y a_t_d t_count t_d (upd t_x t_count.toNatClampNeg x1) (upd t_y t_count.toNatClampNeg x2))) hx hb hK hP hD hS 3 0 rfl rfl h3 dX0_putOnce_90 rfl (fun H locs hP hD hS => ?_)
      refine lv_aload_n hx hb dX0_putOnce_91 rfl (lv_at hl 0 rfl) ?_
      refine va_get (D := D) (ci := 0) (v := .ref a_t_d) (C := RX0) (T := TX0) (N := 5) hx hb hts iw_X0_putOnce_0 hown hK hP 0 rfl rfl 3 (by decide) (hts (.fieldLink RX0 22 "PowerDiagram$Cell" "d" "[I") (List.mem_of_getElem? (i := 2) rfl)) (fun _ h9 => h9) rfl dX0_putOnce_92 ?_
      refine lv_aload_n hx hb dX0_putOnce_95 rfl (lv_at hl 0 rfl) ?_
      refine va_get (D := D) (ci := 0) (v := .int t_count) (C := RX0) (T := TX0) (N := 5) hx hb hts iw_X0_putOnce_0 hown hK hP 0 rfl rfl 4 (by decide) (hts (.fieldLink RX0 25 "PowerDiagram$Cell" "count" "I") (List.mem_of_getElem? (i := 1) rfl)) (fun _ h9 => h9) rfl dX0_putOnce_96 ?_
      refine lv_iload_n hx hb dX0_putOnce_99 rfl (lv_at hl 3 rfl) ?_
      refine wrI (WB := (w_X0_putOnce cI cJ cZ cQ a_t a_t_planes a_t_x a_t_y a_t_d t_count (upd t_d t_count.toNatClampNeg x3) (upd t_x t_count.toNatClampNeg x1) (upd t_y t_count.toNatClampNeg x2))) hx hb hK hP hD hS 1 0 rfl rfl h3 dX0_putOnce_100 rfl (fun H locs hP hD hS => ?_)
      refine lv_aload_n hx hb dX0_putOnce_101 rfl (lv_at hl 0 rfl) ?_
      refine lv_dup hx hb dX0_putOnce_102 rfl ?_
      refine va_get (D := D) (ci := 0) (v := .int t_count) (C := RX0) (T := TX0) (N := 5) hx hb hts iw_X0_putOnce_0 hown hK hP 0 rfl rfl 4 (by decide) (hts (.fieldLink RX0 25 "PowerDiagram$Cell" "count" "I") (List.mem_of_getElem? (i := 1) rfl)) (fun _ h9 => h9) rfl dX0_putOnce_103 ?_
      refine lv_iconst (v := (1 : Int32)) hx hb dX0_putOnce_106 (by decide) ?_
      refine lv_iadd hx hb dX0_putOnce_107 ?_
      refine lv_topi (fun v4 ev4 => ?_)
      replace hf := nm_of ev4 hf
      refine wrF (D := D) (ci := 0) (v := .int v4) (ty := .int) (C := RX0) (T := TX0) (N := 5) (WB := (w_X0_putOnce cI cJ cZ cQ a_t a_t_planes a_t_x a_t_y a_t_d v4 (upd t_d t_count.toNatClampNeg x3) (upd t_x t_count.toNatClampNeg x1) (upd t_y t_count.toNatClampNeg x2))) hx hb hts iw_X0_putOnce_0 tyX0 tyX0_ok nmX0 hown hK hP hD hS 0 rfl rfl 4 (by decide) (hts (.fieldLink RX0 25 "PowerDiagram$Cell" "count" "I") (List.mem_of_getElem? (i := 1) rfl)) (fun _ h9 => h9) rfl rfl rfl rfl (Nat.le_of_ble_eq_true rfl) dX0_putOnce_108 rfl (fun H locs hP hD hS => ?_)
      obtain rfl := Option.some.inj hf
      exact endV hC hP hD hS dX0_putOnce_111
    · replace hf := brF c2 hf
      obtain rfl := Option.some.inj hf
      exact endV hC hP hD hS dX0_putOnce_70
  · replace hf := brF c1 hf
    refine lv_iload_n hx hb dX0_putOnce_12 rfl (lv_at hl 1 rfl) ?_
    refine lv_aload_n hx hb dX0_putOnce_13 rfl (lv_at hl 0 rfl) ?_
    refine va_get (D := D) (ci := 0) (v := .ref a_t_d) (C := RX0) (T := TX0) (N := 5) hx hb hts iw_X0_putOnce_0 hown hK hP 0 rfl rfl 3 (by decide) (hts (.fieldLink RX0 22 "PowerDiagram$Cell" "d" "[I") (List.mem_of_getElem? (i := 2) rfl)) (fun _ h9 => h9) rfl dX0_putOnce_14 ?_
    refine lv_iload hx hb dX0_putOnce_17 (lv_at hl 4 rfl) ?_
    obtain ⟨h5, hf⟩ := gIx_of hf
    refine va_iald hx hb hK hP 1 0 rfl rfl h5 dX0_putOnce_19 ?_
    refine lv_imul hx hb dX0_putOnce_20 ?_
    refine lv_aload_n hx hb dX0_putOnce_21 rfl (lv_at hl 0 rfl) ?_
    refine va_get (D := D) (ci := 0) (v := .ref a_t_x) (C := RX0) (T := TX0) (N := 5) hx hb hts iw_X0_putOnce_0 hown hK hP 0 rfl rfl 1 (by decide) (hts (.fieldLink RX0 15 "PowerDiagram$Cell" "x" "[I") (List.mem_of_getElem? (i := 3) rfl)) (fun _ h9 => h9) rfl dX0_putOnce_22 ?_
    refine lv_iload hx hb dX0_putOnce_25 (lv_at hl 4 rfl) ?_
    refine va_iald hx hb hK hP 2 0 rfl rfl h5 dX0_putOnce_27 ?_
    refine lv_iload_n hx hb dX0_putOnce_28 rfl (lv_at hl 3 rfl) ?_
    refine lv_imul hx hb dX0_putOnce_29 ?_
    refine lv_icmp_ne (tgt := 55) hx hb dX0_putOnce_30 (by decide) (fun c6 => ?_) (fun c6 => ?_)
    · replace hf := brF c6 hf
      refine lv_iinc (v := (x4 + (1 : Int32))) (lv' := [(4, .int (x4 + (1 : Int32))), (0, .ref a_t), (1, .int x1), (2, .int x2), (3, .int x3)]) hx hb dX0_putOnce_55 hl (k := 4) rfl rfl (by decide) rfl (fun ls hl => ?_)
      refine lv_goto (tgt := 3) hx hb dX0_putOnce_58 (by decide) ?_
      exact (hk3) t_count t_d t_x t_y x1 x2 x3 (x4 + (1 : Int32)) hf _ _ hP hD hS _ (lv_sub hl [1, 2, 3, 4, 0] rfl)
    · replace hf := brT c6 hf
      refine lv_iload_n hx hb dX0_putOnce_33 rfl (lv_at hl 2 rfl) ?_
      refine lv_aload_n hx hb dX0_putOnce_34 rfl (lv_at hl 0 rfl) ?_
      refine va_get (D := D) (ci := 0) (v := .ref a_t_d) (C := RX0) (T := TX0) (N := 5) hx hb hts iw_X0_putOnce_0 hown hK hP 0 rfl rfl 3 (by decide) (hts (.fieldLink RX0 22 "PowerDiagram$Cell" "d" "[I") (List.mem_of_getElem? (i := 2) rfl)) (fun _ h9 => h9) rfl dX0_putOnce_35 ?_
      refine lv_iload hx hb dX0_putOnce_38 (lv_at hl 4 rfl) ?_
      refine va_iald hx hb hK hP 1 0 rfl rfl h5 dX0_putOnce_40 ?_
      refine lv_imul hx hb dX0_putOnce_41 ?_
      refine lv_aload_n hx hb dX0_putOnce_42 rfl (lv_at hl 0 rfl) ?_
      refine va_get (D := D) (ci := 0) (v := .ref a_t_y) (C := RX0) (T := TX0) (N := 5) hx hb hts iw_X0_putOnce_0 hown hK hP 0 rfl rfl 2 (by decide) (hts (.fieldLink RX0 19 "PowerDiagram$Cell" "y" "[I") (List.mem_of_getElem? (i := 4) rfl)) (fun _ h9 => h9) rfl dX0_putOnce_43 ?_
      refine lv_iload hx hb dX0_putOnce_46 (lv_at hl 4 rfl) ?_
      refine va_iald hx hb hK hP 3 0 rfl rfl h5 dX0_putOnce_48 ?_
      refine lv_iload_n hx hb dX0_putOnce_49 rfl (lv_at hl 3 rfl) ?_
      refine lv_imul hx hb dX0_putOnce_50 ?_
      refine lv_icmp_ne (tgt := 55) hx hb dX0_putOnce_51 (by decide) (fun c7 => ?_) (fun c7 => ?_)
      · replace hf := brF c7 hf
        refine lv_iinc (v := (x4 + (1 : Int32))) (lv' := [(4, .int (x4 + (1 : Int32))), (0, .ref a_t), (1, .int x1), (2, .int x2), (3, .int x3)]) hx hb dX0_putOnce_55 hl (k := 4) rfl rfl (by decide) rfl (fun ls hl => ?_)
        refine lv_goto (tgt := 3) hx hb dX0_putOnce_58 (by decide) ?_
        exact (hk3) t_count t_d t_x t_y x1 x2 x3 (x4 + (1 : Int32)) hf _ _ hP hD hS _ (lv_sub hl [1, 2, 3, 4, 0] rfl)
      · replace hf := brT c7 hf
        obtain rfl := Option.some.inj hf
        exact endV hC hP hD hS dX0_putOnce_54
theorem t_X0_putOnce_3 {p : Program} {l : Launch} {e : Env} {s : State} {m : MethodId} {args : Array Value} {below : List Frame} {meth : Method} {c : Code} {A : Nat → Prop} {D : va_G} {cI cJ cZ cQ : ClassId} {a_t a_t_planes a_t_x a_t_y a_t_d : Nat}  {res : R_X0_putOnce}   (hC : mcx RX0 cX0_putOnce none 5 wsX0_putOnce p s m args meth c A D (tys4 cI cJ cZ cQ))   (n : Nat) : S_X0_putOnce_3 p l e s m args below meth c A D cI cJ cZ cQ a_t a_t_planes a_t_x a_t_y a_t_d res (f_X0_putOnce_3   n) := by
  induction n with
  | zero =>
    intro t_count t_d t_x t_y x1 x2 x3 x4 hf
    exact nomatch (show (none : Option R_X0_putOnce) = some res from hf)
  | succ n ih => exact i_X0_putOnce_3 hC   ih
set_option maxHeartbeats 4000000 in
set_option maxRecDepth 100000 in
theorem t_X0_putOnce_0 {p : Program} {l : Launch} {e : Env} {s : State} {m : MethodId} {args : Array Value} {below : List Frame} {meth : Method} {c : Code} {A : Nat → Prop} {D : va_G} {cI cJ cZ cQ : ClassId} {a_t a_t_planes a_t_x a_t_y a_t_d : Nat}  {res : R_X0_putOnce}   (hC : mcx RX0 cX0_putOnce none 5 wsX0_putOnce p s m args meth c A D (tys4 cI cJ cZ cQ))   : S_X0_putOnce_0 p l e s m args below meth c A D cI cJ cZ cQ a_t a_t_planes a_t_x a_t_y a_t_d res (f_X0_putOnce_0  ) := by
  intro t_count t_d t_x t_y x1 x2 x3 hf H locs hP hD hS ls hl
  obtain ⟨hx, hb, hr, hml, hown, hts, hlocks, hA, hK, hN⟩ := id hC
  unfold f_X0_putOnce_0 at hf
  refine lv_iconst (v := (0 : Int32)) hx hb dX0_putOnce_0 (by decide) ?_
  refine lv_istore (lv' := [(4, .int (0 : Int32)), (0, .ref a_t), (1, .int x1), (2, .int x2), (3, .int x3)]) hx hb dX0_putOnce_1 hl (by decide) rfl (fun ls hl => ?_)
  exact (t_X0_putOnce_3 hC   fuel) t_count t_d t_x t_y x1 x2 x3 (0 : Int32) hf _ _ hP hD hS _ (lv_sub hl [1, 2, 3, 4, 0] rfl)
theorem c_X0_putOnce (l : Launch) (D : va_G) (cI cJ cZ cQ : ClassId) (a_t a_t_planes a_t_x a_t_y a_t_d : Nat) (t_count : Int32) (t_d : Nat → Int32) (t_x : Nat → Int32) (t_y : Nat → Int32) (p0 : Int32) (p1 : Int32) (p2 : Int32)  (res : R_X0_putOnce)  (hf : f_X0_putOnce_0  t_count t_d t_x t_y p0 p1 p2 = some res) : MetV l D (tys4 cI cJ cZ cQ) yX0_putOnce wsX0_putOnce rm_X0_putOnce [.ref a_t, .int p0, .int p1, .int p2] (w_X0_putOnce cI cJ cZ cQ a_t a_t_planes a_t_x a_t_y a_t_d t_count t_d t_x t_y) (w_X0_putOnce cI cJ cZ cQ a_t a_t_planes a_t_x a_t_y a_t_d res.1 res.2.1 res.2.2.1 res.2.2.2) := by
  intro sz
  exact metW (own := RX0) (cc := cX0_putOnce) (nL := 5) (ret := none) (Qc := fun A => qV D (tys4 cI cJ cZ cQ) (w_X0_putOnce cI cJ cZ cQ a_t a_t_planes a_t_x a_t_y a_t_d res.1 res.2.1 res.2.2.1 res.2.2.2) A) (by decide) rfl rfl (Nat.le_of_ble_eq_true rfl) (fun p e s m args below meth c A hC hP hD hS ls hl => t_X0_putOnce_0 hC  t_count t_d t_x t_y p0 p1 p2 hf _ _ hP hD hS _ (lv_sub hl [0, 1, 2, 3] rfl)) sz
theorem e_X0_putOnce : yX0_putOnce.cls = RX0 ∧ yX0_putOnce.cls ≠ "java/lang/invoke/MethodHandle" ∧ yX0_putOnce.cls ≠ "java/lang/invoke/VarHandle" ∧ (parseMethodDescriptor yX0_putOnce.desc).map (fun d => d.parameters.length) = some 3 := by decide +kernel
/-! X0_cutOut -/
theorem iw_X0_cutOut_0 : ∀ w ∈ wsX00, w ∈ wsX0_cutOut := fun _ h => List.mem_cons_of_mem _ (List.mem_append_left _ (List.mem_append_left _ (List.mem_append_right _ h)))
theorem iw_X0_cutOut_1 : ∀ w ∈ wsX10, w ∈ wsX0_cutOut := fun _ h => List.mem_cons_of_mem _ (List.mem_append_left _ (List.mem_append_right _ h))
def w_X0_cutOut (cI cJ cZ cQ : ClassId) (a_t a_t_planes a_t_x a_t_y a_t_d a_t_planes_a a_t_planes_b a_t_planes_c a_p0 a_p0_x a_p0_y a_p0_w : Nat) (t_count : Int32) (t_planes_count : Int32) (t_planes_meetX : Int32) (t_planes_meetY : Int32) (t_planes_meetD : Int32) (p0_count : Int32) (p0_x : Nat → Int32) (p0_y : Nat → Int32) (p0_w : Nat → Int32) (t_planes_a : Nat → Int32) (t_planes_b : Nat → Int32) (t_planes_c : Nat → Int32) (t_d : Nat → Int32) (t_x : Nat → Int32) (t_y : Nat → Int32) : va_W := [(a_t, .inr (0, [.ref a_t_planes, .ref a_t_x, .ref a_t_y, .ref a_t_d, .int t_count])), (a_t_planes, .inr (1, [.ref a_t_planes_a, .ref a_t_planes_b, .ref a_t_planes_c, .int t_planes_count, .int t_planes_meetX, .int t_planes_meetY, .int t_planes_meetD])), (a_p0, .inr (4, [.ref a_p0_x, .ref a_p0_y, .ref a_p0_w, .int p0_count])), (a_p0_x, .inl (cI, 10, .inl p0_x)), (a_p0_y, .inl (cI, 10, .inl p0_y)), (a_p0_w, .inl (cI, 10, .inl p0_w)), (a_t_planes_a, .inl (cI, 14, .inl t_planes_a)), (a_t_planes_b, .inl (cI, 14, .inl t_planes_b)), (a_t_planes_c, .inl (cI, 14, .inl t_planes_c)), (a_t_d, .inl (cI, 14, .inl t_d)), (a_t_x, .inl (cI, 14, .inl t_x)), (a_t_y, .inl (cI, 14, .inl t_y))]
abbrev rm_X0_cutOut : Room := { frames := 3, cells := 0, slots := 0, locals := 66 }
def S_X0_cutOut_39 (p : Program) (l : Launch) (e : Env) (s : State) (m : MethodId) (args : Array Value) (below : List Frame) (meth : Method) (c : Code) (A : Nat → Prop) (D : va_G) (cI cJ cZ cQ : ClassId) (a_t a_t_planes a_t_x a_t_y a_t_d a_t_planes_a a_t_planes_b a_t_planes_c a_p0 a_p0_x a_p0_y a_p0_w : Nat) (p0_count : Int32) (p0_x : Nat → Int32) (p0_y : Nat → Int32) (p0_w : Nat → Int32) (res : R_X0_cutOut) (k : Int32 → Int32 → Int32 → Int32 → Int32 → (Nat → Int32) → (Nat → Int32) → (Nat → Int32) → (Nat → Int32) → (Nat → Int32) → (Nat → Int32) → Int32 → Int32 → Option R_X0_cutOut) : Prop := ∀ (t_count : Int32) (t_planes_count : Int32) (t_planes_meetX : Int32) (t_planes_meetY : Int32) (t_planes_meetD : Int32) (t_planes_a : Nat → Int32) (t_planes_b : Nat → Int32) (t_planes_c : Nat → Int32) (t_d : Nat → Int32) (t_x : Nat → Int32) (t_y : Nat → Int32) (x3 : Int32) (x4 : Int32), k t_count t_planes_count t_planes_meetX t_planes_meetY t_planes_meetD t_planes_a t_planes_b t_planes_c t_d t_x t_y x3 x4 = some res → ∀ (H : Heap) (locs : List Loc), va_P D vwCl (w_X0_cutOut cI cJ cZ cQ a_t a_t_planes a_t_x a_t_y a_t_d a_t_planes_a a_t_planes_b a_t_planes_c a_p0 a_p0_x a_p0_y a_p0_w t_count t_planes_count t_planes_meetX t_planes_meetY t_planes_meetD p0_count p0_x p0_y p0_w t_planes_a t_planes_b t_planes_c t_d t_x t_y) H → va_D A (w_X0_cutOut cI cJ cZ cQ a_t a_t_planes a_t_x a_t_y a_t_d a_t_planes_a a_t_planes_b a_t_planes_c a_p0 a_p0_x a_p0_y a_p0_w t_count t_planes_count t_planes_meetX t_planes_meetY t_planes_meetD p0_count p0_x p0_y p0_w t_planes_a t_planes_b t_planes_c t_d t_x t_y) → va_S A s.heap H locs → ∀ ls : Array Slot, lv_has ls 5 [(0, .ref a_t), (3, .int x3), (4, .int x4)] → W p l e (headSpec wsX0_cutOut rm_X0_cutOut).room s m args below meth c H locs 0 0 (MQ below (qV D (tys4 cI cJ cZ cQ) (w_X0_cutOut cI cJ cZ cQ a_t a_t_planes a_t_x a_t_y a_t_d a_t_planes_a a_t_planes_b a_t_planes_c a_p0 a_p0_x a_p0_y a_p0_w res.1 res.2.1 res.2.2.1 res.2.2.2.1 res.2.2.2.2.1 p0_count p0_x p0_y p0_w res.2.2.2.2.2.1 res.2.2.2.2.2.2.1 res.2.2.2.2.2.2.2.1 res.2.2.2.2.2.2.2.2.1 res.2.2.2.2.2.2.2.2.2.1 res.2.2.2.2.2.2.2.2.2.2) A) args s 0 0 A) (F0 m 39 ls [])
def S_X0_cutOut_23 (p : Program) (l : Launch) (e : Env) (s : State) (m : MethodId) (args : Array Value) (below : List Frame) (meth : Method) (c : Code) (A : Nat → Prop) (D : va_G) (cI cJ cZ cQ : ClassId) (a_t a_t_planes a_t_x a_t_y a_t_d a_t_planes_a a_t_planes_b a_t_planes_c a_p0 a_p0_x a_p0_y a_p0_w : Nat) (p0_count : Int32) (p0_x : Nat → Int32) (p0_y : Nat → Int32) (p0_w : Nat → Int32) (res : R_X0_cutOut) (k : Int32 → Int32 → Int32 → Int32 → Int32 → (Nat → Int32) → (Nat → Int32) → (Nat → Int32) → (Nat → Int32) → (Nat → Int32) → (Nat → Int32) → Int32 → Option R_X0_cutOut) : Prop := ∀ (t_count : Int32) (t_planes_count : Int32) (t_planes_meetX : Int32) (t_planes_meetY : Int32) (t_planes_meetD : Int32) (t_planes_a : Nat → Int32) (t_planes_b : Nat → Int32) (t_planes_c : Nat → Int32) (t_d : Nat → Int32) (t_x : Nat → Int32) (t_y : Nat → Int32) (x3 : Int32), k t_count t_planes_count t_planes_meetX t_planes_meetY t_planes_meetD t_planes_a t_planes_b t_planes_c t_d t_x t_y x3 = some res → ∀ (H : Heap) (locs : List Loc), va_P D vwCl (w_X0_cutOut cI cJ cZ cQ a_t a_t_planes a_t_x a_t_y a_t_d a_t_planes_a a_t_planes_b a_t_planes_c a_p0 a_p0_x a_p0_y a_p0_w t_count t_planes_count t_planes_meetX t_planes_meetY t_planes_meetD p0_count p0_x p0_y p0_w t_planes_a t_planes_b t_planes_c t_d t_x t_y) H → va_D A (w_X0_cutOut cI cJ cZ cQ a_t a_t_planes a_t_x a_t_y a_t_d a_t_planes_a a_t_planes_b a_t_planes_c a_p0 a_p0_x a_p0_y a_p0_w t_count t_planes_count t_planes_meetX t_planes_meetY t_planes_meetD p0_count p0_x p0_y p0_w t_planes_a t_planes_b t_planes_c t_d t_x t_y) → va_S A s.heap H locs → ∀ ls : Array Slot, lv_has ls 5 [(0, .ref a_t), (3, .int x3)] → W p l e (headSpec wsX0_cutOut rm_X0_cutOut).room s m args below meth c H locs 0 0 (MQ below (qV D (tys4 cI cJ cZ cQ) (w_X0_cutOut cI cJ cZ cQ a_t a_t_planes a_t_x a_t_y a_t_d a_t_planes_a a_t_planes_b a_t_planes_c a_p0 a_p0_x a_p0_y a_p0_w res.1 res.2.1 res.2.2.1 res.2.2.2.1 res.2.2.2.2.1 p0_count p0_x p0_y p0_w res.2.2.2.2.2.1 res.2.2.2.2.2.2.1 res.2.2.2.2.2.2.2.1 res.2.2.2.2.2.2.2.2.1 res.2.2.2.2.2.2.2.2.2.1 res.2.2.2.2.2.2.2.2.2.2) A) args s 0 0 A) (F0 m 23 ls [])
def S_X0_cutOut_0 (p : Program) (l : Launch) (e : Env) (s : State) (m : MethodId) (args : Array Value) (below : List Frame) (meth : Method) (c : Code) (A : Nat → Prop) (D : va_G) (cI cJ cZ cQ : ClassId) (a_t a_t_planes a_t_x a_t_y a_t_d a_t_planes_a a_t_planes_b a_t_planes_c a_p0 a_p0_x a_p0_y a_p0_w : Nat) (p0_count : Int32) (p0_x : Nat → Int32) (p0_y : Nat → Int32) (p0_w : Nat → Int32) (res : R_X0_cutOut) (k : Int32 → Int32 → Int32 → Int32 → Int32 → (Nat → Int32) → (Nat → Int32) → (Nat → Int32) → (Nat → Int32) → (Nat → Int32) → (Nat → Int32) → Int32 → Option R_X0_cutOut) : Prop := ∀ (t_count : Int32) (t_planes_count : Int32) (t_planes_meetX : Int32) (t_planes_meetY : Int32) (t_planes_meetD : Int32) (t_planes_a : Nat → Int32) (t_planes_b : Nat → Int32) (t_planes_c : Nat → Int32) (t_d : Nat → Int32) (t_x : Nat → Int32) (t_y : Nat → Int32) (x2 : Int32), k t_count t_planes_count t_planes_meetX t_planes_meetY t_planes_meetD t_planes_a t_planes_b t_planes_c t_d t_x t_y x2 = some res → ∀ (H : Heap) (locs : List Loc), va_P D vwCl (w_X0_cutOut cI cJ cZ cQ a_t a_t_planes a_t_x a_t_y a_t_d a_t_planes_a a_t_planes_b a_t_planes_c a_p0 a_p0_x a_p0_y a_p0_w t_count t_planes_count t_planes_meetX t_planes_meetY t_planes_meetD p0_count p0_x p0_y p0_w t_planes_a t_planes_b t_planes_c t_d t_x t_y) H → va_D A (w_X0_cutOut cI cJ cZ cQ a_t a_t_planes a_t_x a_t_y a_t_d a_t_planes_a a_t_planes_b a_t_planes_c a_p0 a_p0_x a_p0_y a_p0_w t_count t_planes_count t_planes_meetX t_planes_meetY t_planes_meetD p0_count p0_x p0_y p0_w t_planes_a t_planes_b t_planes_c t_d t_x t_y) → va_S A s.heap H locs → ∀ ls : Array Slot, lv_has ls 5 [(0, .ref a_t), (1, .ref a_p0), (2, .int x2)] → W p l e (headSpec wsX0_cutOut rm_X0_cutOut).room s m args below meth c H locs 0 0 (MQ below (qV D (tys4 cI cJ cZ cQ) (w_X0_cutOut cI cJ cZ cQ a_t a_t_planes a_t_x a_t_y a_t_d a_t_planes_a a_t_planes_b a_t_planes_c a_p0 a_p0_x a_p0_y a_p0_w res.1 res.2.1 res.2.2.1 res.2.2.2.1 res.2.2.2.2.1 p0_count p0_x p0_y p0_w res.2.2.2.2.2.1 res.2.2.2.2.2.2.1 res.2.2.2.2.2.2.2.1 res.2.2.2.2.2.2.2.2.1 res.2.2.2.2.2.2.2.2.2.1 res.2.2.2.2.2.2.2.2.2.2) A) args s 0 0 A) (F0 m 0 ls [])
set_option maxHeartbeats 4000000 in
set_option maxRecDepth 100000 in
theorem i_X0_cutOut_39 {p : Program} {l : Launch} {e : Env} {s : State} {m : MethodId} {args : Array Value} {below : List Frame} {meth : Method} {c : Code} {A : Nat → Prop} {D : va_G} {cI cJ cZ cQ : ClassId} {a_t a_t_planes a_t_x a_t_y a_t_d a_t_planes_a a_t_planes_b a_t_planes_c a_p0 a_p0_x a_p0_y a_p0_w : Nat} {p0_count : Int32} {p0_x : Nat → Int32} {p0_y : Nat → Int32} {p0_w : Nat → Int32} {res : R_X0_cutOut}  {k23 : Int32 → Int32 → Int32 → Int32 → Int32 → (Nat → Int32) → (Nat → Int32) → (Nat → Int32) → (Nat → Int32) → (Nat → Int32) → (Nat → Int32) → Int32 → Option R_X0_cutOut} {k39 : Int32 → Int32 → Int32 → Int32 → Int32 → (Nat → Int32) → (Nat → Int32) → (Nat → Int32) → (Nat → Int32) → (Nat → Int32) → (Nat → Int32) → Int32 → Int32 → Option R_X0_cutOut} (hC : mcx RX0 cX0_cutOut none 5 wsX0_cutOut p s m args meth c A D (tys4 cI cJ cZ cQ))  (hk23 : S_X0_cutOut_23 p l e s m args below meth c A D cI cJ cZ cQ a_t a_t_planes a_t_x a_t_y a_t_d a_t_planes_a a_t_planes_b a_t_planes_c a_p0 a_p0_x a_p0_y a_p0_w p0_count p0_x p0_y p0_w res k23) (hk39 : S_X0_cutOut_39 p l e s m args below meth c A D cI cJ cZ cQ a_t a_t_planes a_t_x a_t_y a_t_d a_t_planes_a a_t_planes_b a_t_planes_c a_p0 a_p0_x a_p0_y a_p0_w p0_count p0_x p0_y p0_w res k39) : S_X0_cutOut_39 p l e s m args below meth c A D cI cJ cZ cQ a_t a_t_planes a_t_x a_t_y a_t_d a_t_planes_a a_t_planes_b a_t_planes_c a_p0 a_p0_x a_p0_y a_p0_w p0_count p0_x p0_y p0_w res (g_X0_cutOut_39 k23 p0_count p0_x p0_y p0_w k39) := by
  intro t_count t_planes_count t_planes_meetX t_planes_meetY t_planes_meetD t_planes_a t_planes_b t_planes_c t_d t_x t_y x3 x4 hf H locs hP hD hS ls hl
  obtain ⟨hx, hb, hr, hml, hown, hts, hlocks, hA, hK, hN⟩ := id hC
  unfold g_X0_cutOut_39 at hf
  refine lv_iload hx hb dX0_cutOut_39 (lv_at hl 2 rfl) ?_
  refine lv_aload_n hx hb dX0_cutOut_41 rfl (lv_at hl 0 rfl) ?_
  refine va_get (D := D) (ci := 0) (v := .ref a_t_planes) (C := RX0) (T := TX0) (N := 5) hx hb hts iw_X0_cutOut_0 hown hK hP 0 rfl rfl 0 (by decide) (hts (.fieldLink RX0 9 "PowerDiagram$Cell" "planes" "LPowerDiagram$HalfPlanes;") (List.mem_of_getElem? (i := 1) rfl)) (fun _ h9 => h9) rfl dX0_cutOut_42 ?_
  refine va_get (D := D) (ci := 1) (v := .int t_planes_count) (C := RX1) (T := TX1) (N := 7) hx hb hts iw_X0_cutOut_1 hown hK hP 1 rfl rfl 3 (by decide) (hts (.fieldLink RX0 36 "PowerDiagram$HalfPlanes" "count" "I") (List.mem_of_getElem? (i := 3) rfl)) (fun _ h9 => h9) rfl dX0_cutOut_45 ?_
  refine lv_icmp_ge (tgt := 105) hx hb dX0_cutOut_48 (by decide) (fun c1 => ?_) (fun c1 => ?_)
  · replace hf := brT c1 hf
    refine lv_iinc (v := (x3 + (1 : Int32))) (lv' := [(3, .int (x3 + (1 : Int32))), (0, .ref a_t), (4, .int x4)]) hx hb dX0_cutOut_105 hl (k := 1) rfl rfl (by decide) rfl (fun ls hl => ?_)
    refine lv_goto (tgt := 23) hx hb dX0_cutOut_108 (by decide) ?_
    exact (hk23) t_count t_planes_count t_planes_meetX t_planes_meetY t_planes_meetD t_planes_a t_planes_b t_planes_c t_d t_x t_y (x3 + (1 : Int32)) hf _ _ hP hD hS _ (lv_sub hl [1, 0] rfl)
  · replace hf := brF c1 hf
    refine lv_aload_n hx hb dX0_cutOut_51 rfl (lv_at hl 0 rfl) ?_
    refine va_get (D := D) (ci := 0) (v := .ref a_t_planes) (C := RX0) (T := TX0) (N := 5) hx hb hts iw_X0_cutOut_0 hown hK hP 0 rfl rfl 0 (by decide) (hts (.fieldLink RX0 9 "PowerDiagram$Cell" "planes" "LPowerDiagram$HalfPlanes;") (List.mem_of_getElem? (i := 1) rfl)) (fun _ h9 => h9) rfl dX0_cutOut_52 ?_
    refine lv_iload_n hx hb dX0_cutOut_55 rfl (lv_at hl 1 rfl) ?_
    refine lv_iload hx hb dX0_cutOut_56 (lv_at hl 2 rfl) ?_
    obtain ⟨r2, u3, u4, u5, hq6, hf⟩ := bnd4_of hf
    refine jnI (WB := (w_X0_cutOut cI cJ cZ cQ a_t a_t_planes a_t_x a_t_y a_t_d a_t_planes_a a_t_planes_b a_t_planes_c a_p0 a_p0_x a_p0_y a_p0_w t_count t_planes_count u3 u4 u5 p0_count p0_x p0_y p0_w t_planes_a t_planes_b t_planes_c t_d t_x t_y)) (rnV (As := [.int x3, .int x4]) (rest := []) (ci := 1) (q0 := 0) (W0 := (w_X1_meet cI cJ cZ cQ a_t_planes a_t_planes_a a_t_planes_b a_t_planes_c t_planes_count t_planes_meetX t_planes_meetY t_planes_meetD t_planes_a t_planes_b t_planes_c)) hx hb hml hown hts hK hN (c_X1_meet l D cI cJ cZ cQ a_t_planes a_t_planes_a a_t_planes_b a_t_planes_c t_planes_count t_planes_meetX t_planes_meetY t_planes_meetD t_planes_a t_planes_b t_planes_c x3 x4 (r2, u3, u4, u5) hq6 H.size) (cwV 2 hts gX0_cutOut_X1_meet rfl rfl rfl e_X1_meet ⟨Nat.le_of_ble_eq_true rfl, Nat.le_of_ble_eq_true rfl⟩) hP hD [1, 6, 7, 8] rfl (by decide) rfl rfl rfl rfl hl (Nat.le_of_ble_eq_true rfl) dX0_cutOut_58 ⟨Nat.zero_le _, Nat.zero_le _⟩ rfl) hP hD hS hA [1, 6, 7, 8] [0, 2, 3, 4, 5, 9, 10, 11] [0, 8, 1, 2, 3, 4, 9, 10, 11, 5, 6, 7] rfl rfl (by decide) (by decide) rfl (by decide) (fun H locs hP hD hS => ?_)
    refine lv_if_eq (tgt := 99) hx hb dX0_cutOut_61 (by decide) (fun c7 => ?_) (fun c7 => ?_)
    · replace hf := brT c7 hf
      refine lv_iinc (v := (x4 + (1 : Int32))) (lv' := [(4, .int (x4 + (1 : Int32))), (0, .ref a_t), (3, .int x3)]) hx hb dX0_cutOut_99 hl (k := 2) rfl rfl (by decide) rfl (fun ls hl => ?_)
      refine lv_goto (tgt := 39) hx hb dX0_cutOut_102 (by decide) ?_
      exact (hk39) t_count t_planes_count u3 u4 u5 t_planes_a t_planes_b t_planes_c t_d t_x t_y x3 (x4 + (1 : Int32)) hf _ _ hP hD hS _ (lv_sub hl [1, 2, 0] rfl)
    · replace hf := brF c7 hf
      refine lv_aload_n hx hb dX0_cutOut_64 rfl (lv_at hl 0 rfl) ?_
      refine va_get (D := D) (ci := 0) (v := .ref a_t_planes) (C := RX0) (T := TX0) (N := 5) hx hb hts iw_X0_cutOut_0 hown hK hP 0 rfl rfl 0 (by decide) (hts (.fieldLink RX0 9 "PowerDiagram$Cell" "planes" "LPowerDiagram$HalfPlanes;") (List.mem_of_getElem? (i := 1) rfl)) (fun _ h9 => h9) rfl dX0_cutOut_65 ?_
      obtain ⟨r8, hq9, hf⟩ := bnd_of hf
      refine jnI (WB := (w_X0_cutOut cI cJ cZ cQ a_t a_t_planes a_t_x a_t_y a_t_d a_t_planes_a a_t_planes_b a_t_planes_c a_p0 a_p0_x a_p0_y a_p0_w t_count t_planes_count u3 u4 u5 p0_count p0_x p0_y p0_w t_planes_a t_planes_b t_planes_c t_d t_x t_y)) (rnV (As := []) (rest := []) (ci := 1) (q0 := 0) (W0 := (w_X1_holdMeeting cI cJ cZ cQ a_t_planes a_t_planes_a a_t_planes_b a_t_planes_c t_planes_count u3 u4 u5 t_planes_a t_planes_b t_planes_c)) hx hb hml hown hts hK hN (c_X1_holdMeeting l D cI cJ cZ cQ a_t_planes a_t_planes_a a_t_planes_b a_t_planes_c t_planes_count u3 u4 u5 t_planes_a t_planes_b t_planes_c r8 hq9 H.size) (cwV 0 hts gX0_cutOut_X1_holdMeeting rfl rfl rfl e_X1_holdMeeting ⟨Nat.le_of_ble_eq_true rfl, Nat.le_of_ble_eq_true rfl⟩) hP hD [1, 6, 7, 8] rfl (by decide) rfl rfl rfl rfl hl (Nat.le_of_ble_eq_true rfl) dX0_cutOut_68 ⟨Nat.zero_le _, Nat.zero_le _⟩ rfl) hP hD hS hA [1, 6, 7, 8] [0, 2, 3, 4, 5, 9, 10, 11] [0, 8, 1, 2, 3, 4, 9, 10, 11, 5, 6, 7] rfl rfl (by decide) (by decide) rfl (by decide) (fun H locs hP hD hS => ?_)
      refine lv_if_eq (tgt := 99) hx hb dX0_cutOut_71 (by decide) (fun c10 => ?_) (fun c10 => ?_)
      · replace hf := brT c10 hf
        refine lv_iinc (v := (x4 + (1 : Int32))) (lv' := [(4, .int (x4 + (1 : Int32))), (0, .ref a_t), (3, .int x3)]) hx hb dX0_cutOut_99 hl (k := 2) rfl rfl (by decide) rfl (fun ls hl => ?_)
        refine lv_goto (tgt := 39) hx hb dX0_cutOut_102 (by decide) ?_
        exact (hk39) t_count t_planes_count u3 u4 u5 t_planes_a t_planes_b t_planes_c t_d t_x t_y x3 (x4 + (1 : Int32)) hf _ _ hP hD hS _ (lv_sub hl [1, 2, 0] rfl)
      · replace hf := brF c10 hf
        refine lv_aload_n hx hb dX0_cutOut_74 rfl (lv_at hl 0 rfl) ?_
        refine lv_aload_n hx hb dX0_cutOut_75 rfl (lv_at hl 0 rfl) ?_
        refine va_get (D := D) (ci := 0) (v := .ref a_t_planes) (C := RX0) (T := TX0) (N := 5) hx hb hts iw_X0_cutOut_0 hown hK hP 0 rfl rfl 0 (by decide) (hts (.fieldLink RX0 9 "PowerDiagram$Cell" "planes" "LPowerDiagram$HalfPlanes;") (List.mem_of_getElem? (i := 1) rfl)) (fun _ h9 => h9) rfl dX0_cutOut_76 ?_
        refine va_get (D := D) (ci := 1) (v := .int u3) (C := RX1) (T := TX1) (N := 7) hx hb hts iw_X0_cutOut_1 hown hK hP 1 rfl rfl 4 (by decide) (hts (.fieldLink RX0 45 "PowerDiagram$HalfPlanes" "meetX" "I") (List.mem_of_getElem? (i := 4) rfl)) (fun _ h9 => h9) rfl dX0_cutOut_79 ?_
        refine lv_aload_n hx hb dX0_cutOut_82 rfl (lv_at hl 0 rfl) ?_
        refine va_get (D := D) (ci := 0) (v := .ref a_t_planes) (C := RX0) (T := TX0) (N := 5) hx hb hts iw_X0_cutOut_0 hown hK hP 0 rfl rfl 0 (by decide) (hts (.fieldLink RX0 9 "PowerDiagram$Cell" "planes" "LPowerDiagram$HalfPlanes;") (List.mem_of_getElem? (i := 1) rfl)) (fun _ h9 => h9) rfl dX0_cutOut_83 ?_
        refine va_get (D := D) (ci := 1) (v := .int u4) (C := RX1) (T := TX1) (N := 7) hx hb hts iw_X0_cutOut_1 hown hK hP 1 rfl rfl 5 (by decide) (hts (.fieldLink RX0 48 "PowerDiagram$HalfPlanes" "meetY" "I") (List.mem_of_getElem? (i := 5) rfl)) (fun _ h9 => h9) rfl dX0_cutOut_86 ?_
        refine lv_aload_n hx hb dX0_cutOut_89 rfl (lv_at hl 0 rfl) ?_
        refine va_get (D := D) (ci := 0) (v := .ref a_t_planes) (C := RX0) (T := TX0) (N := 5) hx hb hts iw_X0_cutOut_0 hown hK hP 0 rfl rfl 0 (by decide) (hts (.fieldLink RX0 9 "PowerDiagram$Cell" "planes" "LPowerDiagram$HalfPlanes;") (List.mem_of_getElem? (i := 1) rfl)) (fun _ h9 => h9) rfl dX0_cutOut_90 ?_
        refine va_get (D := D) (ci := 1) (v := .int u5) (C := RX1) (T := TX1) (N := 7) hx hb hts iw_X0_cutOut_1 hown hK hP 1 rfl rfl 6 (by decide) (hts (.fieldLink RX0 51 "PowerDiagram$HalfPlanes" "meetD" "I") (List.mem_of_getElem? (i := 6) rfl)) (fun _ h9 => h9) rfl dX0_cutOut_93 ?_
        obtain ⟨u11, u12, u13, u14, hq15, hf⟩ := bnd4_of hf
        refine jnV (WB := (w_X0_cutOut cI cJ cZ cQ a_t a_t_planes a_t_x a_t_y a_t_d a_t_planes_a a_t_planes_b a_t_planes_c a_p0 a_p0_x a_p0_y a_p0_w u11 t_planes_count u3 u4 u5 p0_count p0_x p0_y p0_w t_planes_a t_planes_b t_planes_c u12 u13 u14)) (rnV (As := [.int u3, .int u4, .int u5]) (rest := []) (ci := 0) (q0 := 0) (W0 := (w_X0_putOnce cI cJ cZ cQ a_t a_t_planes a_t_x a_t_y a_t_d t_count t_d t_x t_y)) hx hb hml hown hts hK hN (c_X0_putOnce l D cI cJ cZ cQ a_t a_t_planes a_t_x a_t_y a_t_d t_count t_d t_x t_y u3 u4 u5 (u11, u12, u13, u14) hq15 H.size) (cwV 3 hts gX0_cutOut_X0_putOnce rfl rfl rfl e_X0_putOnce ⟨Nat.le_of_ble_eq_true rfl, Nat.le_of_ble_eq_true rfl⟩) hP hD [0, 9, 10, 11] rfl (by decide) rfl rfl rfl rfl hl (Nat.le_of_ble_eq_true rfl) dX0_cutOut_96 ⟨Nat.zero_le _, Nat.zero_le _⟩ rfl) hP hD hS hA [0, 9, 10, 11] [1, 2, 3, 4, 5, 6, 7, 8] [8, 0, 1, 2, 3, 4, 5, 6, 7, 9, 10, 11] rfl rfl (by decide) (by decide) rfl (by decide) (fun H locs hP hD hS => ?_)
        refine lv_iinc (v := (x4 + (1 : Int32))) (lv' := [(4, .int (x4 + (1 : Int32))), (0, .ref a_t), (3, .int x3)]) hx hb dX0_cutOut_99 hl (k := 2) rfl rfl (by decide) rfl (fun ls hl => ?_)
        refine lv_goto (tgt := 39) hx hb dX0_cutOut_102 (by decide) ?_
        exact (hk39) u11 t_planes_count u3 u4 u5 t_planes_a t_planes_b t_planes_c u12 u13 u14 x3 (x4 + (1 : Int32)) hf _ _ hP hD hS _ (lv_sub hl [1, 2, 0] rfl)
theorem t_X0_cutOut_39 {p : Program} {l : Launch} {e : Env} {s : State} {m : MethodId} {args : Array Value} {below : List Frame} {meth : Method} {c : Code} {A : Nat → Prop} {D : va_G} {cI cJ cZ cQ : ClassId} {a_t a_t_planes a_t_x a_t_y a_t_d a_t_planes_a a_t_planes_b a_t_planes_c a_p0 a_p0_x a_p0_y a_p0_w : Nat} {p0_count : Int32} {p0_x : Nat → Int32} {p0_y : Nat → Int32} {p0_w : Nat → Int32} {res : R_X0_cutOut}  {k23 : Int32 → Int32 → Int32 → Int32 → Int32 → (Nat → Int32) → (Nat → Int32) → (Nat → Int32) → (Nat → Int32) → (Nat → Int32) → (Nat → Int32) → Int32 → Option R_X0_cutOut} (hC : mcx RX0 cX0_cutOut none 5 wsX0_cutOut p s m args meth c A D (tys4 cI cJ cZ cQ))  (hk23 : S_X0_cutOut_23 p l e s m args below meth c A D cI cJ cZ cQ a_t a_t_planes a_t_x a_t_y a_t_d a_t_planes_a a_t_planes_b a_t_planes_c a_p0 a_p0_x a_p0_y a_p0_w p0_count p0_x p0_y p0_w res k23) (n : Nat) : S_X0_cutOut_39 p l e s m args below meth c A D cI cJ cZ cQ a_t a_t_planes a_t_x a_t_y a_t_d a_t_planes_a a_t_planes_b a_t_planes_c a_p0 a_p0_x a_p0_y a_p0_w p0_count p0_x p0_y p0_w res (f_X0_cutOut_39 k23 p0_count p0_x p0_y p0_w n) := by
  induction n with
  | zero =>
    intro t_count t_planes_count t_planes_meetX t_planes_meetY t_planes_meetD t_planes_a t_planes_b t_planes_c t_d t_x t_y x3 x4 hf
    exact nomatch (show (none : Option R_X0_cutOut) = some res from hf)
  | succ n ih => exact i_X0_cutOut_39 hC  hk23 ih
set_option maxHeartbeats 4000000 in
set_option maxRecDepth 100000 in
theorem i_X0_cutOut_23 {p : Program} {l : Launch} {e : Env} {s : State} {m : MethodId} {args : Array Value} {below : List Frame} {meth : Method} {c : Code} {A : Nat → Prop} {D : va_G} {cI cJ cZ cQ : ClassId} {a_t a_t_planes a_t_x a_t_y a_t_d a_t_planes_a a_t_planes_b a_t_planes_c a_p0 a_p0_x a_p0_y a_p0_w : Nat} {p0_count : Int32} {p0_x : Nat → Int32} {p0_y : Nat → Int32} {p0_w : Nat → Int32} {res : R_X0_cutOut}   {k23 : Int32 → Int32 → Int32 → Int32 → Int32 → (Nat → Int32) → (Nat → Int32) → (Nat → Int32) → (Nat → Int32) → (Nat → Int32) → (Nat → Int32) → Int32 → Option R_X0_cutOut} (hC : mcx RX0 cX0_cutOut none 5 wsX0_cutOut p s m args meth c A D (tys4 cI cJ cZ cQ))   (hk23 : S_X0_cutOut_23 p l e s m args below meth c A D cI cJ cZ cQ a_t a_t_planes a_t_x a_t_y a_t_d a_t_planes_a a_t_planes_b a_t_planes_c a_p0 a_p0_x a_p0_y a_p0_w p0_count p0_x p0_y p0_w res k23) : S_X0_cutOut_23 p l e s m args below meth c A D cI cJ cZ cQ a_t a_t_planes a_t_x a_t_y a_t_d a_t_planes_a a_t_planes_b a_t_planes_c a_p0 a_p0_x a_p0_y a_p0_w p0_count p0_x p0_y p0_w res (g_X0_cutOut_23  p0_count p0_x p0_y p0_w k23) := by
  intro t_count t_planes_count t_planes_meetX t_planes_meetY t_planes_meetD t_planes_a t_planes_b t_planes_c t_d t_x t_y x3 hf H locs hP hD hS ls hl
  obtain ⟨hx, hb, hr, hml, hown, hts, hlocks, hA, hK, hN⟩ := id hC
  unfold g_X0_cutOut_23 at hf
  refine lv_iload_n hx hb dX0_cutOut_23 rfl (lv_at hl 1 rfl) ?_
  refine lv_aload_n hx hb dX0_cutOut_24 rfl (lv_at hl 0 rfl) ?_
  refine va_get (D := D) (ci := 0) (v := .ref a_t_planes) (C := RX0) (T := TX0) (N := 5) hx hb hts iw_X0_cutOut_0 hown hK hP 0 rfl rfl 0 (by decide) (hts (.fieldLink RX0 9 "PowerDiagram$Cell" "planes" "LPowerDiagram$HalfPlanes;") (List.mem_of_getElem? (i := 1) rfl)) (fun _ h9 => h9) rfl dX0_cutOut_25 ?_
  refine va_get (D := D) (ci := 1) (v := .int t_planes_count) (C := RX1) (T := TX1) (N := 7) hx hb hts iw_X0_cutOut_1 hown hK hP 1 rfl rfl 3 (by decide) (hts (.fieldLink RX0 36 "PowerDiagram$HalfPlanes" "count" "I") (List.mem_of_getElem? (i := 3) rfl)) (fun _ h9 => h9) rfl dX0_cutOut_28 ?_
  refine lv_icmp_ge (tgt := 111) hx hb dX0_cutOut_31 (by decide) (fun c1 => ?_) (fun c1 => ?_)
  · replace hf := brT c1 hf
    obtain rfl := Option.some.inj hf
    exact endV hC hP hD hS dX0_cutOut_111
  · replace hf := brF c1 hf
    refine lv_iload_n hx hb dX0_cutOut_34 rfl (lv_at hl 1 rfl) ?_
    refine lv_iconst (v := (1 : Int32)) hx hb dX0_cutOut_35 (by decide) ?_
    refine lv_iadd hx hb dX0_cutOut_36 ?_
    refine lv_topi (fun v2 ev2 => ?_)
    replace hf := nm_of ev2 hf
    refine lv_istore (lv' := [(4, .int v2), (0, .ref a_t), (3, .int x3)]) hx hb dX0_cutOut_37 hl (by decide) rfl (fun ls hl => ?_)
    exact (t_X0_cutOut_39 hC  hk23 fuel) t_count t_planes_count t_planes_meetX t_planes_meetY t_planes_meetD t_planes_a t_planes_b t_planes_c t_d t_x t_y x3 v2 hf _ _ hP hD hS _ (lv_sub hl [1, 2, 0] rfl)
theorem t_X0_cutOut_23 {p : Program} {l : Launch} {e : Env} {s : State} {m : MethodId} {args : Array Value} {below : List Frame} {meth : Method} {c : Code} {A : Nat → Prop} {D : va_G} {cI cJ cZ cQ : ClassId} {a_t a_t_planes a_t_x a_t_y a_t_d a_t_planes_a a_t_planes_b a_t_planes_c a_p0 a_p0_x a_p0_y a_p0_w : Nat} {p0_count : Int32} {p0_x : Nat → Int32} {p0_y : Nat → Int32} {p0_w : Nat → Int32} {res : R_X0_cutOut}   (hC : mcx RX0 cX0_cutOut none 5 wsX0_cutOut p s m args meth c A D (tys4 cI cJ cZ cQ))   (n : Nat) : S_X0_cutOut_23 p l e s m args below meth c A D cI cJ cZ cQ a_t a_t_planes a_t_x a_t_y a_t_d a_t_planes_a a_t_planes_b a_t_planes_c a_p0 a_p0_x a_p0_y a_p0_w p0_count p0_x p0_y p0_w res (f_X0_cutOut_23  p0_count p0_x p0_y p0_w n) := by
  induction n with
  | zero =>
    intro t_count t_planes_count t_planes_meetX t_planes_meetY t_planes_meetD t_planes_a t_planes_b t_planes_c t_d t_x t_y x3 hf
    exact nomatch (show (none : Option R_X0_cutOut) = some res from hf)
  | succ n ih => exact i_X0_cutOut_23 hC   ih
set_option maxHeartbeats 4000000 in
set_option maxRecDepth 100000 in
theorem t_X0_cutOut_0 {p : Program} {l : Launch} {e : Env} {s : State} {m : MethodId} {args : Array Value} {below : List Frame} {meth : Method} {c : Code} {A : Nat → Prop} {D : va_G} {cI cJ cZ cQ : ClassId} {a_t a_t_planes a_t_x a_t_y a_t_d a_t_planes_a a_t_planes_b a_t_planes_c a_p0 a_p0_x a_p0_y a_p0_w : Nat} {p0_count : Int32} {p0_x : Nat → Int32} {p0_y : Nat → Int32} {p0_w : Nat → Int32} {res : R_X0_cutOut}   (hC : mcx RX0 cX0_cutOut none 5 wsX0_cutOut p s m args meth c A D (tys4 cI cJ cZ cQ))   : S_X0_cutOut_0 p l e s m args below meth c A D cI cJ cZ cQ a_t a_t_planes a_t_x a_t_y a_t_d a_t_planes_a a_t_planes_b a_t_planes_c a_p0 a_p0_x a_p0_y a_p0_w p0_count p0_x p0_y p0_w res (f_X0_cutOut_0  p0_count p0_x p0_y p0_w) := by
  intro t_count t_planes_count t_planes_meetX t_planes_meetY t_planes_meetD t_planes_a t_planes_b t_planes_c t_d t_x t_y x2 hf H locs hP hD hS ls hl
  obtain ⟨hx, hb, hr, hml, hown, hts, hlocks, hA, hK, hN⟩ := id hC
  unfold f_X0_cutOut_0 at hf
  refine lv_aload_n hx hb dX0_cutOut_0 rfl (lv_at hl 0 rfl) ?_
  refine va_get (D := D) (ci := 0) (v := .ref a_t_planes) (C := RX0) (T := TX0) (N := 5) hx hb hts iw_X0_cutOut_0 hown hK hP 0 rfl rfl 0 (by decide) (hts (.fieldLink RX0 9 "PowerDiagram$Cell" "planes" "LPowerDiagram$HalfPlanes;") (List.mem_of_getElem? (i := 1) rfl)) (fun _ h9 => h9) rfl dX0_cutOut_1 ?_
  refine lv_aload_n hx hb dX0_cutOut_4 rfl (lv_at hl 1 rfl) ?_
  refine lv_iload_n hx hb dX0_cutOut_5 rfl (lv_at hl 2 rfl) ?_
  obtain ⟨u1, u2, u3, u4, hq5, hf⟩ := bnd4_of hf
  refine jnV (WB := (w_X0_cutOut cI cJ cZ cQ a_t a_t_planes a_t_x a_t_y a_t_d a_t_planes_a a_t_planes_b a_t_planes_c a_p0 a_p0_x a_p0_y a_p0_w t_count u1 t_planes_meetX t_planes_meetY t_planes_meetD p0_count p0_x p0_y p0_w u2 u3 u4 t_d t_x t_y)) (rnV (As := [.ref a_p0, .int x2]) (rest := []) (ci := 1) (q0 := 0) (W0 := (w_X1_compare cI cJ cZ cQ a_t_planes a_t_planes_a a_t_planes_b a_t_planes_c a_p0 a_p0_x a_p0_y a_p0_w t_planes_count t_planes_meetX t_planes_meetY t_planes_meetD p0_count p0_x p0_y p0_w t_planes_a t_planes_b t_planes_c)) hx hb hml hown hts hK hN (c_X1_compare l D cI cJ cZ cQ a_t_planes a_t_planes_a a_t_planes_b a_t_planes_c a_p0 a_p0_x a_p0_y a_p0_w t_planes_count t_planes_meetX t_planes_meetY t_planes_meetD p0_count p0_x p0_y p0_w t_planes_a t_planes_b t_planes_c x2 (u1, u2, u3, u4) hq5 H.size) (cwV 2 hts gX0_cutOut_X1_compare rfl rfl rfl e_X1_compare ⟨Nat.le_of_ble_eq_true rfl, Nat.le_of_ble_eq_true rfl⟩) hP hD [1, 2, 3, 4, 5, 6, 7, 8] rfl (by decide) rfl rfl rfl rfl hl (Nat.le_of_ble_eq_true rfl) dX0_cutOut_6 ⟨Nat.zero_le _, Nat.zero_le _⟩ rfl) hP hD hS hA [1, 2, 3, 4, 5, 6, 7, 8] [0, 9, 10, 11] [0, 4, 5, 6, 7, 8, 9, 10, 11, 1, 2, 3] rfl rfl (by decide) (by decide) rfl (by decide) (fun H locs hP hD hS => ?_)
  refine lv_aload_n hx hb dX0_cutOut_9 rfl (lv_at hl 0 rfl) ?_
  refine va_get (D := D) (ci := 0) (v := .ref a_t_planes) (C := RX0) (T := TX0) (N := 5) hx hb hts iw_X0_cutOut_0 hown hK hP 0 rfl rfl 0 (by decide) (hts (.fieldLink RX0 9 "PowerDiagram$Cell" "planes" "LPowerDiagram$HalfPlanes;") (List.mem_of_getElem? (i := 1) rfl)) (fun _ h9 => h9) rfl dX0_cutOut_10 ?_
  obtain ⟨u6, u7, u8, u9, hq10, hf⟩ := bnd4_of hf
  refine jnV (WB := (w_X0_cutOut cI cJ cZ cQ a_t a_t_planes a_t_x a_t_y a_t_d a_t_planes_a a_t_planes_b a_t_planes_c a_p0 a_p0_x a_p0_y a_p0_w t_count u6 t_planes_meetX t_planes_meetY t_planes_meetD p0_count p0_x p0_y p0_w u7 u8 u9 t_d t_x t_y)) (rnV (As := []) (rest := []) (ci := 1) (q0 := 0) (W0 := (w_X1_addSquare cI cJ cZ cQ a_t_planes a_t_planes_a a_t_planes_b a_t_planes_c u1 t_planes_meetX t_planes_meetY t_planes_meetD u2 u3 u4)) hx hb hml hown hts hK hN (c_X1_addSquare l D cI cJ cZ cQ a_t_planes a_t_planes_a a_t_planes_b a_t_planes_c u1 t_planes_meetX t_planes_meetY t_planes_meetD u2 u3 u4 (u6, u7, u8, u9) hq10 H.size) (cwV 0 hts gX0_cutOut_X1_addSquare rfl rfl rfl e_X1_addSquare ⟨Nat.le_of_ble_eq_true rfl, Nat.le_of_ble_eq_true rfl⟩) hP hD [1, 6, 7, 8] rfl (by decide) rfl rfl rfl rfl hl (Nat.le_of_ble_eq_true rfl) dX0_cutOut_13 ⟨Nat.zero_le _, Nat.zero_le _⟩ rfl) hP hD hS hA [1, 6, 7, 8] [0, 2, 3, 4, 5, 9, 10, 11] [0, 8, 1, 2, 3, 4, 9, 10, 11, 5, 6, 7] rfl rfl (by decide) (by decide) rfl (by decide) (fun H locs hP hD hS => ?_)
  refine lv_aload_n hx hb dX0_cutOut_16 rfl (lv_at hl 0 rfl) ?_
  refine lv_iconst (v := (0 : Int32)) hx hb dX0_cutOut_17 (by decide) ?_
  refine wrF (D := D) (ci := 0) (v := .int (0 : Int32)) (ty := .int) (C := RX0) (T := TX0) (N := 5) (WB := (w_X0_cutOut cI cJ cZ cQ a_t a_t_planes a_t_x a_t_y a_t_d a_t_planes_a a_t_planes_b a_t_planes_c a_p0 a_p0_x a_p0_y a_p0_w (0 : Int32) u6 t_planes_meetX t_planes_meetY t_planes_meetD p0_count p0_x p0_y p0_w u7 u8 u9 t_d t_x t_y)) hx hb hts iw_X0_cutOut_0 tyX0 tyX0_ok nmX0 hown hK hP hD hS 0 rfl rfl 4 (by decide) (hts (.fieldLink RX0 25 "PowerDiagram$Cell" "count" "I") (List.mem_of_getElem? (i := 2) rfl)) (fun _ h9 => h9) rfl rfl rfl rfl (Nat.le_of_ble_eq_true rfl) dX0_cutOut_18 rfl (fun H locs hP hD hS => ?_)
  refine lv_iconst (v := (0 : Int32)) hx hb dX0_cutOut_21 (by decide) ?_
  refine lv_istore_n (lv' := [(3, .int (0 : Int32)), (0, .ref a_t), (1, .ref a_p0), (2, .int x2)]) hx hb dX0_cutOut_22 rfl hl (by decide) rfl (fun ls hl => ?_)
  exact (t_X0_cutOut_23 hC   fuel) (0 : Int32) u6 t_planes_meetX t_planes_meetY t_planes_meetD u7 u8 u9 t_d t_x t_y (0 : Int32) hf _ _ hP hD hS _ (lv_sub hl [1, 0] rfl)
theorem c_X0_cutOut (l : Launch) (D : va_G) (cI cJ cZ cQ : ClassId) (a_t a_t_planes a_t_x a_t_y a_t_d a_t_planes_a a_t_planes_b a_t_planes_c a_p0 a_p0_x a_p0_y a_p0_w : Nat) (t_count : Int32) (t_planes_count : Int32) (t_planes_meetX : Int32) (t_planes_meetY : Int32) (t_planes_meetD : Int32) (p0_count : Int32) (p0_x : Nat → Int32) (p0_y : Nat → Int32) (p0_w : Nat → Int32) (t_planes_a : Nat → Int32) (t_planes_b : Nat → Int32) (t_planes_c : Nat → Int32) (t_d : Nat → Int32) (t_x : Nat → Int32) (t_y : Nat → Int32) (p1 : Int32)  (res : R_X0_cutOut)  (hf : f_X0_cutOut_0 p0_count p0_x p0_y p0_w t_count t_planes_count t_planes_meetX t_planes_meetY t_planes_meetD t_planes_a t_planes_b t_planes_c t_d t_x t_y p1 = some res) : MetV l D (tys4 cI cJ cZ cQ) yX0_cutOut wsX0_cutOut rm_X0_cutOut [.ref a_t, .ref a_p0, .int p1] (w_X0_cutOut cI cJ cZ cQ a_t a_t_planes a_t_x a_t_y a_t_d a_t_planes_a a_t_planes_b a_t_planes_c a_p0 a_p0_x a_p0_y a_p0_w t_count t_planes_count t_planes_meetX t_planes_meetY t_planes_meetD p0_count p0_x p0_y p0_w t_planes_a t_planes_b t_planes_c t_d t_x t_y) (w_X0_cutOut cI cJ cZ cQ a_t a_t_planes a_t_x a_t_y a_t_d a_t_planes_a a_t_planes_b a_t_planes_c a_p0 a_p0_x a_p0_y a_p0_w res.1 res.2.1 res.2.2.1 res.2.2.2.1 res.2.2.2.2.1 p0_count p0_x p0_y p0_w res.2.2.2.2.2.1 res.2.2.2.2.2.2.1 res.2.2.2.2.2.2.2.1 res.2.2.2.2.2.2.2.2.1 res.2.2.2.2.2.2.2.2.2.1 res.2.2.2.2.2.2.2.2.2.2) := by
  intro sz
  exact metW (own := RX0) (cc := cX0_cutOut) (nL := 5) (ret := none) (Qc := fun A => qV D (tys4 cI cJ cZ cQ) (w_X0_cutOut cI cJ cZ cQ a_t a_t_planes a_t_x a_t_y a_t_d a_t_planes_a a_t_planes_b a_t_planes_c a_p0 a_p0_x a_p0_y a_p0_w res.1 res.2.1 res.2.2.1 res.2.2.2.1 res.2.2.2.2.1 p0_count p0_x p0_y p0_w res.2.2.2.2.2.1 res.2.2.2.2.2.2.1 res.2.2.2.2.2.2.2.1 res.2.2.2.2.2.2.2.2.1 res.2.2.2.2.2.2.2.2.2.1 res.2.2.2.2.2.2.2.2.2.2) A) (by decide) rfl rfl (Nat.le_of_ble_eq_true rfl) (fun p e s m args below meth c A hC hP hD hS ls hl => t_X0_cutOut_0 hC  t_count t_planes_count t_planes_meetX t_planes_meetY t_planes_meetD t_planes_a t_planes_b t_planes_c t_d t_x t_y p1 hf _ _ hP hD hS _ (lv_sub hl [0, 1, 2] rfl)) sz
theorem e_X0_cutOut : yX0_cutOut.cls = RX0 ∧ yX0_cutOut.cls ≠ "java/lang/invoke/MethodHandle" ∧ yX0_cutOut.cls ≠ "java/lang/invoke/VarHandle" ∧ (parseMethodDescriptor yX0_cutOut.desc).map (fun d => d.parameters.length) = some 2 := by decide +kernel
/-! X0_polygonCorners -/
theorem iw_X0_polygonCorners_0 : ∀ w ∈ wsX00, w ∈ wsX0_polygonCorners := fun _ h => List.mem_cons_of_mem _ (List.mem_append_right _ h)
def w_X0_polygonCorners (cI cJ cZ cQ : ClassId) (a_t a_t_planes a_t_x a_t_y a_t_d : Nat) (t_count : Int32) : va_W := [(a_t, .inr (0, [.ref a_t_planes, .ref a_t_x, .ref a_t_y, .ref a_t_d, .int t_count]))]
abbrev rm_X0_polygonCorners : Room := { frames := 0, cells := 0, slots := 0, locals := 0 }
def S_X0_polygonCorners_0 (p : Program) (l : Launch) (e : Env) (s : State) (m : MethodId) (args : Array Value) (below : List Frame) (meth : Method) (c : Code) (A : Nat → Prop) (D : va_G) (cI cJ cZ cQ : ClassId) (a_t a_t_planes a_t_x a_t_y a_t_d : Nat) (t_count : Int32) (res : R_X0_polygonCorners) (k : Option R_X0_polygonCorners) : Prop := k  = some res → ∀ (H : Heap) (locs : List Loc), va_P D vwCl (w_X0_polygonCorners cI cJ cZ cQ a_t a_t_planes a_t_x a_t_y a_t_d t_count) H → va_D A (w_X0_polygonCorners cI cJ cZ cQ a_t a_t_planes a_t_x a_t_y a_t_d t_count) → va_S A s.heap H locs → ∀ ls : Array Slot, lv_has ls 1 [(0, .ref a_t)] → W p l e (headSpec wsX0_polygonCorners rm_X0_polygonCorners).room s m args below meth c H locs 0 0 (MQ below (qI D (tys4 cI cJ cZ cQ) (w_X0_polygonCorners cI cJ cZ cQ a_t a_t_planes a_t_x a_t_y a_t_d t_count) A res) args s 0 0 A) (F0 m 0 ls [])
set_option maxHeartbeats 4000000 in
set_option maxRecDepth 100000 in
theorem t_X0_polygonCorners_0 {p : Program} {l : Launch} {e : Env} {s : State} {m : MethodId} {args : Array Value} {below : List Frame} {meth : Method} {c : Code} {A : Nat → Prop} {D : va_G} {cI cJ cZ cQ : ClassId} {a_t a_t_planes a_t_x a_t_y a_t_d : Nat} {t_count : Int32} {res : R_X0_polygonCorners}   (hC : mcx RX0 cX0_polygonCorners (some .int) 1 wsX0_polygonCorners p s m args meth c A D (tys4 cI cJ cZ cQ))   : S_X0_polygonCorners_0 p l e s m args below meth c A D cI cJ cZ cQ a_t a_t_planes a_t_x a_t_y a_t_d t_count res (f_X0_polygonCorners_0  t_count) := by
  intro hf H locs hP hD hS ls hl
  obtain ⟨hx, hb, hr, hml, hown, hts, hlocks, hA, hK, hN⟩ := id hC
  unfold f_X0_polygonCorners_0 at hf
  refine lv_aload_n hx hb dX0_polygonCorners_0 rfl (lv_at hl 0 rfl) ?_
  refine va_get (D := D) (ci := 0) (v := .int t_count) (C := RX0) (T := TX0) (N := 5) hx hb hts iw_X0_polygonCorners_0 hown hK hP 0 rfl rfl 4 (by decide) (hts (.fieldLink RX0 25 "PowerDiagram$Cell" "count" "I") (List.mem_of_getElem? (i := 1) rfl)) (fun _ h9 => h9) rfl dX0_polygonCorners_1 ?_
  refine lv_iconst (v := (3 : Int32)) hx hb dX0_polygonCorners_4 (by decide) ?_
  refine lv_icmp_lt (tgt := 15) hx hb dX0_polygonCorners_5 (by decide) (fun c1 => ?_) (fun c1 => ?_)
  · replace hf := brT c1 hf
    refine lv_iconst (v := (0 : Int32)) hx hb dX0_polygonCorners_15 (by decide) ?_
    obtain rfl := Option.some.inj hf
    exact endI (ty := .int) hC (nzI _) rfl hP hD hS dX0_polygonCorners_16
  · replace hf := brF c1 hf
    refine lv_aload_n hx hb dX0_polygonCorners_8 rfl (lv_at hl 0 rfl) ?_
    refine va_get (D := D) (ci := 0) (v := .int t_count) (C := RX0) (T := TX0) (N := 5) hx hb hts iw_X0_polygonCorners_0 hown hK hP 0 rfl rfl 4 (by decide) (hts (.fieldLink RX0 25 "PowerDiagram$Cell" "count" "I") (List.mem_of_getElem? (i := 1) rfl)) (fun _ h9 => h9) rfl dX0_polygonCorners_9 ?_
    refine lv_goto (tgt := 16) hx hb dX0_polygonCorners_12 (by decide) ?_
    obtain rfl := Option.some.inj hf
    exact endI (ty := .int) hC (nzI _) rfl hP hD hS dX0_polygonCorners_16
theorem c_X0_polygonCorners (l : Launch) (D : va_G) (cI cJ cZ cQ : ClassId) (a_t a_t_planes a_t_x a_t_y a_t_d : Nat) (t_count : Int32)   (res : R_X0_polygonCorners)  (hf : f_X0_polygonCorners_0 t_count = some res) : MetI l D (tys4 cI cJ cZ cQ) yX0_polygonCorners wsX0_polygonCorners rm_X0_polygonCorners [.ref a_t] (w_X0_polygonCorners cI cJ cZ cQ a_t a_t_planes a_t_x a_t_y a_t_d t_count) (w_X0_polygonCorners cI cJ cZ cQ a_t a_t_planes a_t_x a_t_y a_t_d t_count) res := by
  intro sz
  exact metW (own := RX0) (cc := cX0_polygonCorners) (nL := 1) (ret := (some .int)) (Qc := fun A => qI D (tys4 cI cJ cZ cQ) (w_X0_polygonCorners cI cJ cZ cQ a_t a_t_planes a_t_x a_t_y a_t_d t_count) A res) (by decide) rfl rfl (Nat.le_of_ble_eq_true rfl) (fun p e s m args below meth c A hC hP hD hS ls hl => t_X0_polygonCorners_0 hC   hf _ _ hP hD hS _ (lv_sub hl [0] rfl)) sz
theorem e_X0_polygonCorners : yX0_polygonCorners.cls = RX0 ∧ yX0_polygonCorners.cls ≠ "java/lang/invoke/MethodHandle" ∧ yX0_polygonCorners.cls ≠ "java/lang/invoke/VarHandle" ∧ (parseMethodDescriptor yX0_polygonCorners.desc).map (fun d => d.parameters.length) = some 0 := by decide +kernel
/-! X0_hides -/
def w_X0_hides (cI cJ cZ cQ : ClassId) (a_t a_t_planes a_t_x a_t_y a_t_d a_t_planes_a a_t_planes_b a_t_planes_c a_p0 a_p0_x a_p0_y a_p0_w : Nat) (t_count : Int32) (t_planes_count : Int32) (t_planes_meetX : Int32) (t_planes_meetY : Int32) (t_planes_meetD : Int32) (p0_count : Int32) (p0_x : Nat → Int32) (p0_y : Nat → Int32) (p0_w : Nat → Int32) (t_planes_a : Nat → Int32) (t_planes_b : Nat → Int32) (t_planes_c : Nat → Int32) (t_d : Nat → Int32) (t_x : Nat → Int32) (t_y : Nat → Int32) : va_W := [(a_t, .inr (0, [.ref a_t_planes, .ref a_t_x, .ref a_t_y, .ref a_t_d, .int t_count])), (a_t_planes, .inr (1, [.ref a_t_planes_a, .ref a_t_planes_b, .ref a_t_planes_c, .int t_planes_count, .int t_planes_meetX, .int t_planes_meetY, .int t_planes_meetD])), (a_p0, .inr (4, [.ref a_p0_x, .ref a_p0_y, .ref a_p0_w, .int p0_count])), (a_p0_x, .inl (cI, 10, .inl p0_x)), (a_p0_y, .inl (cI, 10, .inl p0_y)), (a_p0_w, .inl (cI, 10, .inl p0_w)), (a_t_planes_a, .inl (cI, 14, .inl t_planes_a)), (a_t_planes_b, .inl (cI, 14, .inl t_planes_b)), (a_t_planes_c, .inl (cI, 14, .inl t_planes_c)), (a_t_d, .inl (cI, 14, .inl t_d)), (a_t_x, .inl (cI, 14, .inl t_x)), (a_t_y, .inl (cI, 14, .inl t_y))]
abbrev rm_X0_hides : Room := { frames := 4, cells := 0, slots := 0, locals := 90 }
def S_X0_hides_0 (p : Program) (l : Launch) (e : Env) (s : State) (m : MethodId) (args : Array Value) (below : List Frame) (meth : Method) (c : Code) (A : Nat → Prop) (D : va_G) (cI cJ cZ cQ : ClassId) (a_t a_t_planes a_t_x a_t_y a_t_d a_t_planes_a a_t_planes_b a_t_planes_c a_p0 a_p0_x a_p0_y a_p0_w : Nat) (p0_count : Int32) (p0_x : Nat → Int32) (p0_y : Nat → Int32) (p0_w : Nat → Int32) (res : R_X0_hides) (k : Int32 → Int32 → Int32 → Int32 → Int32 → (Nat → Int32) → (Nat → Int32) → (Nat → Int32) → (Nat → Int32) → (Nat → Int32) → (Nat → Int32) → Int32 → Option R_X0_hides) : Prop := ∀ (t_count : Int32) (t_planes_count : Int32) (t_planes_meetX : Int32) (t_planes_meetY : Int32) (t_planes_meetD : Int32) (t_planes_a : Nat → Int32) (t_planes_b : Nat → Int32) (t_planes_c : Nat → Int32) (t_d : Nat → Int32) (t_x : Nat → Int32) (t_y : Nat → Int32) (x2 : Int32), k t_count t_planes_count t_planes_meetX t_planes_meetY t_planes_meetD t_planes_a t_planes_b t_planes_c t_d t_x t_y x2 = some res → ∀ (H : Heap) (locs : List Loc), va_P D vwCl (w_X0_hides cI cJ cZ cQ a_t a_t_planes a_t_x a_t_y a_t_d a_t_planes_a a_t_planes_b a_t_planes_c a_p0 a_p0_x a_p0_y a_p0_w t_count t_planes_count t_planes_meetX t_planes_meetY t_planes_meetD p0_count p0_x p0_y p0_w t_planes_a t_planes_b t_planes_c t_d t_x t_y) H → va_D A (w_X0_hides cI cJ cZ cQ a_t a_t_planes a_t_x a_t_y a_t_d a_t_planes_a a_t_planes_b a_t_planes_c a_p0 a_p0_x a_p0_y a_p0_w t_count t_planes_count t_planes_meetX t_planes_meetY t_planes_meetD p0_count p0_x p0_y p0_w t_planes_a t_planes_b t_planes_c t_d t_x t_y) → va_S A s.heap H locs → ∀ ls : Array Slot, lv_has ls 3 [(0, .ref a_t), (1, .ref a_p0), (2, .int x2)] → W p l e (headSpec wsX0_hides rm_X0_hides).room s m args below meth c H locs 0 0 (MQ below (qI D (tys4 cI cJ cZ cQ) (w_X0_hides cI cJ cZ cQ a_t a_t_planes a_t_x a_t_y a_t_d a_t_planes_a a_t_planes_b a_t_planes_c a_p0 a_p0_x a_p0_y a_p0_w res.2.1 res.2.2.1 res.2.2.2.1 res.2.2.2.2.1 res.2.2.2.2.2.1 p0_count p0_x p0_y p0_w res.2.2.2.2.2.2.1 res.2.2.2.2.2.2.2.1 res.2.2.2.2.2.2.2.2.1 res.2.2.2.2.2.2.2.2.2.1 res.2.2.2.2.2.2.2.2.2.2.1 res.2.2.2.2.2.2.2.2.2.2.2) A res.1) args s 0 0 A) (F0 m 0 ls [])
set_option maxHeartbeats 4000000 in
set_option maxRecDepth 100000 in
theorem t_X0_hides_0 {p : Program} {l : Launch} {e : Env} {s : State} {m : MethodId} {args : Array Value} {below : List Frame} {meth : Method} {c : Code} {A : Nat → Prop} {D : va_G} {cI cJ cZ cQ : ClassId} {a_t a_t_planes a_t_x a_t_y a_t_d a_t_planes_a a_t_planes_b a_t_planes_c a_p0 a_p0_x a_p0_y a_p0_w : Nat} {p0_count : Int32} {p0_x : Nat → Int32} {p0_y : Nat → Int32} {p0_w : Nat → Int32} {res : R_X0_hides}   (hC : mcx RX0 cX0_hides (some .boolean) 3 wsX0_hides p s m args meth c A D (tys4 cI cJ cZ cQ))   : S_X0_hides_0 p l e s m args below meth c A D cI cJ cZ cQ a_t a_t_planes a_t_x a_t_y a_t_d a_t_planes_a a_t_planes_b a_t_planes_c a_p0 a_p0_x a_p0_y a_p0_w p0_count p0_x p0_y p0_w res (f_X0_hides_0  p0_count p0_x p0_y p0_w) := by
  intro t_count t_planes_count t_planes_meetX t_planes_meetY t_planes_meetD t_planes_a t_planes_b t_planes_c t_d t_x t_y x2 hf H locs hP hD hS ls hl
  obtain ⟨hx, hb, hr, hml, hown, hts, hlocks, hA, hK, hN⟩ := id hC
  unfold f_X0_hides_0 at hf
  refine lv_aload_n hx hb dX0_hides_0 rfl (lv_at hl 0 rfl) ?_
  refine lv_aload_n hx hb dX0_hides_1 rfl (lv_at hl 1 rfl) ?_
  refine lv_iload_n hx hb dX0_hides_2 rfl (lv_at hl 2 rfl) ?_
  obtain ⟨u1, u2, u3, u4, u5, u6, u7, u8, u9, u10, u11, hq12, hf⟩ := bnd11_of hf
  refine jnV (WB := (w_X0_hides cI cJ cZ cQ a_t a_t_planes a_t_x a_t_y a_t_d a_t_planes_a a_t_planes_b a_t_planes_c a_p0 a_p0_x a_p0_y a_p0_w u1 u2 u3 u4 u5 p0_count p0_x p0_y p0_w u6 u7 u8 u9 u10 u11)) (rnV (As := [.ref a_p0, .int x2]) (rest := []) (ci := 0) (q0 := 0) (W0 := (w_X0_cutOut cI cJ cZ cQ a_t a_t_planes a_t_x a_t_y a_t_d a_t_planes_a a_t_planes_b a_t_planes_c a_p0 a_p0_x a_p0_y a_p0_w t_count t_planes_count t_planes_meetX t_planes_meetY t_planes_meetD p0_count p0_x p0_y p0_w t_planes_a t_planes_b t_planes_c t_d t_x t_y)) hx hb hml hown hts hK hN (c_X0_cutOut l D cI cJ cZ cQ a_t a_t_planes a_t_x a_t_y a_t_d a_t_planes_a a_t_planes_b a_t_planes_c a_p0 a_p0_x a_p0_y a_p0_w t_count t_planes_count t_planes_meetX t_planes_meetY t_planes_meetD p0_count p0_x p0_y p0_w t_planes_a t_planes_b t_planes_c t_d t_x t_y x2 (u1, u2, u3, u4, u5, u6, u7, u8, u9, u10, u11) hq12 H.size) (cwV 2 hts gX0_hides_X0_cutOut rfl rfl rfl e_X0_cutOut ⟨Nat.le_of_ble_eq_true rfl, Nat.le_of_ble_eq_true rfl⟩) hP hD [0, 1, 2, 3, 4, 5, 6, 7, 8, 9, 10, 11] rfl (by decide) rfl rfl rfl rfl hl (Nat.le_of_ble_eq_true rfl) dX0_hides_3 ⟨Nat.zero_le _, Nat.zero_le _⟩ rfl) hP hD hS hA [0, 1, 2, 3, 4, 5, 6, 7, 8, 9, 10, 11] [] [0, 1, 2, 3, 4, 5, 6, 7, 8, 9, 10, 11] rfl rfl (by decide) (by decide) rfl (by decide) (fun H locs hP hD hS => ?_)
  refine lv_aload_n hx hb dX0_hides_6 rfl (lv_at hl 0 rfl) ?_
  obtain ⟨r13, hq14, hf⟩ := bnd_of hf
  refine jnI (WB := (w_X0_hides cI cJ cZ cQ a_t a_t_planes a_t_x a_t_y a_t_d a_t_planes_a a_t_planes_b a_t_planes_c a_p0 a_p0_x a_p0_y a_p0_w u1 u2 u3 u4 u5 p0_count p0_x p0_y p0_w u6 u7 u8 u9 u10 u11)) (rnV (As := []) (rest := []) (ci := 0) (q0 := 0) (W0 := (w_X0_polygonCorners cI cJ cZ cQ a_t a_t_planes a_t_x a_t_y a_t_d u1)) hx hb hml hown hts hK hN (c_X0_polygonCorners l D cI cJ cZ cQ a_t a_t_planes a_t_x a_t_y a_t_d u1 r13 hq14 H.size) (cwV 0 hts gX0_hides_X0_polygonCorners rfl rfl rfl e_X0_polygonCorners ⟨Nat.le_of_ble_eq_true rfl, Nat.le_of_ble_eq_true rfl⟩) hP hD [0] rfl (by decide) rfl rfl rfl rfl hl (Nat.le_of_ble_eq_true rfl) dX0_hides_7 ⟨Nat.zero_le _, Nat.zero_le _⟩ rfl) hP hD hS hA [0] [1, 2, 3, 4, 5, 6, 7, 8, 9, 10, 11] [11, 0, 1, 2, 3, 4, 5, 6, 7, 8, 9, 10] rfl rfl (by decide) (by decide) rfl (by decide) (fun H locs hP hD hS => ?_)
  refine lv_if_ne (tgt := 17) hx hb dX0_hides_10 (by decide) (fun c15 => ?_) (fun c15 => ?_)
  · replace hf := brF c15 hf
    refine lv_iconst (v := (0 : Int32)) hx hb dX0_hides_17 (by decide) ?_
    obtain rfl := Option.some.inj hf
    exact endI (ty := .boolean) hC rfl rfl hP hD hS dX0_hides_18
  · replace hf := brT c15 hf
    refine lv_iconst (v := (1 : Int32)) hx hb dX0_hides_13 (by decide) ?_
    refine lv_goto (tgt := 18) hx hb dX0_hides_14 (by decide) ?_
    obtain rfl := Option.some.inj hf
    exact endI (ty := .boolean) hC rfl rfl hP hD hS dX0_hides_18
theorem c_X0_hides (l : Launch) (D : va_G) (cI cJ cZ cQ : ClassId) (a_t a_t_planes a_t_x a_t_y a_t_d a_t_planes_a a_t_planes_b a_t_planes_c a_p0 a_p0_x a_p0_y a_p0_w : Nat) (t_count : Int32) (t_planes_count : Int32) (t_planes_meetX : Int32) (t_planes_meetY : Int32) (t_planes_meetD : Int32) (p0_count : Int32) (p0_x : Nat → Int32) (p0_y : Nat → Int32) (p0_w : Nat → Int32) (t_planes_a : Nat → Int32) (t_planes_b : Nat → Int32) (t_planes_c : Nat → Int32) (t_d : Nat → Int32) (t_x : Nat → Int32) (t_y : Nat → Int32) (p1 : Int32)  (res : R_X0_hides)  (hf : f_X0_hides_0 p0_count p0_x p0_y p0_w t_count t_planes_count t_planes_meetX t_planes_meetY t_planes_meetD t_planes_a t_planes_b t_planes_c t_d t_x t_y p1 = some res) : MetI l D (tys4 cI cJ cZ cQ) yX0_hides wsX0_hides rm_X0_hides [.ref a_t, .ref a_p0, .int p1] (w_X0_hides cI cJ cZ cQ a_t a_t_planes a_t_x a_t_y a_t_d a_t_planes_a a_t_planes_b a_t_planes_c a_p0 a_p0_x a_p0_y a_p0_w t_count t_planes_count t_planes_meetX t_planes_meetY t_planes_meetD p0_count p0_x p0_y p0_w t_planes_a t_planes_b t_planes_c t_d t_x t_y) (w_X0_hides cI cJ cZ cQ a_t a_t_planes a_t_x a_t_y a_t_d a_t_planes_a a_t_planes_b a_t_planes_c a_p0 a_p0_x a_p0_y a_p0_w res.2.1 res.2.2.1 res.2.2.2.1 res.2.2.2.2.1 res.2.2.2.2.2.1 p0_count p0_x p0_y p0_w res.2.2.2.2.2.2.1 res.2.2.2.2.2.2.2.1 res.2.2.2.2.2.2.2.2.1 res.2.2.2.2.2.2.2.2.2.1 res.2.2.2.2.2.2.2.2.2.2.1 res.2.2.2.2.2.2.2.2.2.2.2) res.1 := by
  intro sz
  exact metW (own := RX0) (cc := cX0_hides) (nL := 3) (ret := (some .boolean)) (Qc := fun A => qI D (tys4 cI cJ cZ cQ) (w_X0_hides cI cJ cZ cQ a_t a_t_planes a_t_x a_t_y a_t_d a_t_planes_a a_t_planes_b a_t_planes_c a_p0 a_p0_x a_p0_y a_p0_w res.2.1 res.2.2.1 res.2.2.2.1 res.2.2.2.2.1 res.2.2.2.2.2.1 p0_count p0_x p0_y p0_w res.2.2.2.2.2.2.1 res.2.2.2.2.2.2.2.1 res.2.2.2.2.2.2.2.2.1 res.2.2.2.2.2.2.2.2.2.1 res.2.2.2.2.2.2.2.2.2.2.1 res.2.2.2.2.2.2.2.2.2.2.2) A res.1) (by decide) rfl rfl (Nat.le_of_ble_eq_true rfl) (fun p e s m args below meth c A hC hP hD hS ls hl => t_X0_hides_0 hC  t_count t_planes_count t_planes_meetX t_planes_meetY t_planes_meetD t_planes_a t_planes_b t_planes_c t_d t_x t_y p1 hf _ _ hP hD hS _ (lv_sub hl [0, 1, 2] rfl)) sz
theorem e_X0_hides : yX0_hides.cls = RX0 ∧ yX0_hides.cls ≠ "java/lang/invoke/MethodHandle" ∧ yX0_hides.cls ≠ "java/lang/invoke/VarHandle" ∧ (parseMethodDescriptor yX0_hides.desc).map (fun d => d.parameters.length) = some 2 := by decide +kernel
/-! X0_cornersSharedWith -/
theorem iw_X0_cornersSharedWith_0 : ∀ w ∈ wsX00, w ∈ wsX0_cornersSharedWith := fun _ h => List.mem_cons_of_mem _ (List.mem_append_left _ (List.mem_append_right _ h))
def w_X0_cornersSharedWith (cI cJ cZ cQ : ClassId) (a_t a_t_planes a_t_x a_t_y a_t_d a_t_planes_a a_t_planes_b a_t_planes_c : Nat) (t_count : Int32) (t_x : Nat → Int32) (t_y : Nat → Int32) (t_d : Nat → Int32) (t_planes_count : Int32) (t_planes_meetX : Int32) (t_planes_meetY : Int32) (t_planes_meetD : Int32) (t_planes_a : Nat → Int32) (t_planes_b : Nat → Int32) (t_planes_c : Nat → Int32) : va_W := [(a_t, .inr (0, [.ref a_t_planes, .ref a_t_x, .ref a_t_y, .ref a_t_d, .int t_count])), (a_t_x, .inl (cI, 14, .inl t_x)), (a_t_y, .inl (cI, 14, .inl t_y)), (a_t_d, .inl (cI, 14, .inl t_d)), (a_t_planes, .inr (1, [.ref a_t_planes_a, .ref a_t_planes_b, .ref a_t_planes_c, .int t_planes_count, .int t_planes_meetX, .int t_planes_meetY, .int t_planes_meetD])), (a_t_planes_a, .inl (cI, 14, .inl t_planes_a)), (a_t_planes_b, .inl (cI, 14, .inl t_planes_b)), (a_t_planes_c, .inl (cI, 14, .inl t_planes_c))]
abbrev rm_X0_cornersSharedWith : Room := { frames := 2, cells := 0, slots := 0, locals := 45 }
def S_X0_cornersSharedWith_4 (p : Program) (l : Launch) (e : Env) (s : State) (m : MethodId) (args : Array Value) (below : List Frame) (meth : Method) (c : Code) (A : Nat → Prop) (D : va_G) (cI cJ cZ cQ : ClassId) (a_t a_t_planes a_t_x a_t_y a_t_d a_t_planes_a a_t_planes_b a_t_planes_c : Nat) (t_count : Int32) (t_x : Nat → Int32) (t_y : Nat → Int32) (t_d : Nat → Int32) (t_planes_count : Int32) (t_planes_meetX : Int32) (t_planes_meetY : Int32) (t_planes_meetD : Int32) (t_planes_a : Nat → Int32) (t_planes_b : Nat → Int32) (t_planes_c : Nat → Int32) (res : R_X0_cornersSharedWith) (k : Int32 → Int32 → Int32 → Option R_X0_cornersSharedWith) : Prop := ∀ (x1 : Int32) (x2 : Int32) (x3 : Int32), k x1 x2 x3 = some res → ∀ (H : Heap) (locs : List Loc), va_P D vwCl (w_X0_cornersSharedWith cI cJ cZ cQ a_t a_t_planes a_t_x a_t_y a_t_d a_t_planes_a a_t_planes_b a_t_planes_c t_count t_x t_y t_d t_planes_count t_planes_meetX t_planes_meetY t_planes_meetD t_planes_a t_planes_b t_planes_c) H → va_D A (w_X0_cornersSharedWith cI cJ cZ cQ a_t a_t_planes a_t_x a_t_y a_t_d a_t_planes_a a_t_planes_b a_t_planes_c t_count t_x t_y t_d t_planes_count t_planes_meetX t_planes_meetY t_planes_meetD t_planes_a t_planes_b t_planes_c) → va_S A s.heap H locs → ∀ ls : Array Slot, lv_has ls 4 [(0, .ref a_t), (1, .int x1), (2, .int x2), (3, .int x3)] → W p l e (headSpec wsX0_cornersSharedWith rm_X0_cornersSharedWith).room s m args below meth c H locs 0 0 (MQ below (qI D (tys4 cI cJ cZ cQ) (w_X0_cornersSharedWith cI cJ cZ cQ a_t a_t_planes a_t_x a_t_y a_t_d a_t_planes_a a_t_planes_b a_t_planes_c t_count t_x t_y t_d t_planes_count t_planes_meetX t_planes_meetY t_planes_meetD t_planes_a t_planes_b t_planes_c) A res) args s 0 0 A) (F0 m 4 ls [])
def S_X0_cornersSharedWith_0 (p : Program) (l : Launch) (e : Env) (s : State) (m : MethodId) (args : Array Value) (below : List Frame) (meth : Method) (c : Code) (A : Nat → Prop) (D : va_G) (cI cJ cZ cQ : ClassId) (a_t a_t_planes a_t_x a_t_y a_t_d a_t_planes_a a_t_planes_b a_t_planes_c : Nat) (t_count : Int32) (t_x : Nat → Int32) (t_y : Nat → Int32) (t_d : Nat → Int32) (t_planes_count : Int32) (t_planes_meetX : Int32) (t_planes_meetY : Int32) (t_planes_meetD : Int32) (t_planes_a : Nat → Int32) (t_planes_b : Nat → Int32) (t_planes_c : Nat → Int32) (res : R_X0_cornersSharedWith) (k : Int32 → Option R_X0_cornersSharedWith) : Prop := ∀ (x1 : Int32), k x1 = some res → ∀ (H : Heap) (locs : List Loc), va_P D vwCl (w_X0_cornersSharedWith cI cJ cZ cQ a_t a_t_planes a_t_x a_t_y a_t_d a_t_planes_a a_t_planes_b a_t_planes_c t_count t_x t_y t_d t_planes_count t_planes_meetX t_planes_meetY t_planes_meetD t_planes_a t_planes_b t_planes_c) H → va_D A (w_X0_cornersSharedWith cI cJ cZ cQ a_t a_t_planes a_t_x a_t_y a_t_d a_t_planes_a a_t_planes_b a_t_planes_c t_count t_x t_y t_d t_planes_count t_planes_meetX t_planes_meetY t_planes_meetD t_planes_a t_planes_b t_planes_c) → va_S A s.heap H locs → ∀ ls : Array Slot, lv_has ls 4 [(0, .ref a_t), (1, .int x1)] → W p l e (headSpec wsX0_cornersSharedWith rm_X0_cornersSharedWith).room s m args below meth c H locs 0 0 (MQ below (qI D (tys4 cI cJ cZ cQ) (w_X0_cornersSharedWith cI cJ cZ cQ a_t a_t_planes a_t_x a_t_y a_t_d a_t_planes_a a_t_planes_b a_t_planes_c t_count t_x t_y t_d t_planes_count t_planes_meetX t_planes_meetY t_planes_meetD t_planes_a t_planes_b t_planes_c) A res) args s 0 0 A) (F0 m 0 ls [])
set_option maxHeartbeats 4000000 in
set_option maxRecDepth 100000 in
theorem i_X0_cornersSharedWith_4 {p : Program} {l : Launch} {e : Env} {s : State} {m : MethodId} {args : Array Value} {below : List Frame} {meth : Method} {c : Code} {A : Nat → Prop} {D : va_G} {cI cJ cZ cQ : ClassId} {a_t a_t_planes a_t_x a_t_y a_t_d a_t_planes_a a_t_planes_b a_t_planes_c : Nat} {t_count : Int32} {t_x : Nat → Int32} {t_y : Nat → Int32} {t_d : Nat → Int32} {t_planes_count : Int32} {t_planes_meetX : Int32} {t_planes_meetY : Int32} {t_planes_meetD : Int32} {t_planes_a : Nat → Int32} {t_planes_b : Nat → Int32} {t_planes_c : Nat → Int32} {res : R_X0_cornersSharedWith}   {k4 : Int32 → Int32 → Int32 → Option R_X0_cornersSharedWith} (hC : mcx RX0 cX0_cornersSharedWith (some .int) 4 wsX0_cornersSharedWith p s m args meth c A D (tys4 cI cJ cZ cQ))   (hk4 : S_X0_cornersSharedWith_4 p l e s m args below meth c A D cI cJ cZ cQ a_t a_t_planes a_t_x a_t_y a_t_d a_t_planes_a a_t_planes_b a_t_planes_c t_count t_x t_y t_d t_planes_count t_planes_meetX t_planes_meetY t_planes_meetD t_planes_a t_planes_b t_planes_c res k4) : S_X0_cornersSharedWith_4 p l e s m args below meth c A D cI cJ cZ cQ a_t a_t_planes a_t_x a_t_y a_t_d a_t_planes_a a_t_planes_b a_t_planes_c t_count t_x t_y t_d t_planes_count t_planes_meetX t_planes_meetY t_planes_meetD t_planes_a t_planes_b t_planes_c res (g_X0_cornersSharedWith_4  t_count t_x t_y t_d t_planes_count t_planes_a t_planes_b t_planes_c k4) := by
  intro x1 x2 x3 hf H locs hP hD hS ls hl
  obtain ⟨hx, hb, hr, hml, hown, hts, hlocks, hA, hK, hN⟩ := id hC
  unfold g_X0_cornersSharedWith_4 at hf
  refine lv_iload_n hx hb dX0_cornersSharedWith_4 rfl (lv_at hl 3 rfl) ?_
  refine lv_aload_n hx hb dX0_cornersSharedWith_5 rfl (lv_at hl 0 rfl) ?_
  refine va_get (D := D) (ci := 0) (v := .int t_count) (C := RX0) (T := TX0) (N := 5) hx hb hts iw_X0_cornersSharedWith_0 hown hK hP 0 rfl rfl 4 (by decide) (hts (.fieldLink RX0 25 "PowerDiagram$Cell" "count" "I") (List.mem_of_getElem? (i := 1) rfl)) (fun _ h9 => h9) rfl dX0_cornersSharedWith_6 ?_
  refine lv_icmp_ge (tgt := 50) hx hb dX0_cornersSharedWith_9 (by decide) (fun c1 => ?_) (fun c1 => ?_)
  · replace hf := brT c1 hf
    refine lv_iload_n hx hb dX0_cornersSharedWith_50 rfl (lv_at hl 2 rfl) ?_
    obtain rfl := Option.some.inj hf
    exact endI (ty := .int) hC (nzI _) rfl hP hD hS dX0_cornersSharedWith_51
  · replace hf := brF c1 hf
    refine lv_aload_n hx hb dX0_cornersSharedWith_12 rfl (lv_at hl 0 rfl) ?_
    refine va_get (D := D) (ci := 0) (v := .ref a_t_planes) (C := RX0) (T := TX0) (N := 5) hx hb hts iw_X0_cornersSharedWith_0 hown hK hP 0 rfl rfl 0 (by decide) (hts (.fieldLink RX0 9 "PowerDiagram$Cell" "planes" "LPowerDiagram$HalfPlanes;") (List.mem_of_getElem? (i := 2) rfl)) (fun _ h9 => h9) rfl dX0_cornersSharedWith_13 ?_
    refine lv_iload_n hx hb dX0_cornersSharedWith_16 rfl (lv_at hl 1 rfl) ?_
    refine lv_aload_n hx hb dX0_cornersSharedWith_17 rfl (lv_at hl 0 rfl) ?_
    refine va_get (D := D) (ci := 0) (v := .ref a_t_x) (C := RX0) (T := TX0) (N := 5) hx hb hts iw_X0_cornersSharedWith_0 hown hK hP 0 rfl rfl 1 (by decide) (hts (.fieldLink RX0 15 "PowerDiagram$Cell" "x" "[I") (List.mem_of_getElem? (i := 3) rfl)) (fun _ h9 => h9) rfl dX0_cornersSharedWith_18 ?_
    refine lv_iload_n hx hb dX0_cornersSharedWith_21 rfl (lv_at hl 3 rfl) ?_
    obtain ⟨h2, hf⟩ := gIx_of hf
    refine va_iald hx hb hK hP 1 0 rfl rfl h2 dX0_cornersSharedWith_22 ?_
    refine lv_aload_n hx hb dX0_cornersSharedWith_23 rfl (lv_at hl 0 rfl) ?_
    refine va_get (D := D) (ci := 0) (v := .ref a_t_y) (C := RX0) (T := TX0) (N := 5) hx hb hts iw_X0_cornersSharedWith_0 hown hK hP 0 rfl rfl 2 (by decide) (hts (.fieldLink RX0 19 "PowerDiagram$Cell" "y" "[I") (List.mem_of_getElem? (i := 4) rfl)) (fun _ h9 => h9) rfl dX0_cornersSharedWith_24 ?_
    refine lv_iload_n hx hb dX0_cornersSharedWith_27 rfl (lv_at hl 3 rfl) ?_
    refine va_iald hx hb hK hP 2 0 rfl rfl h2 dX0_cornersSharedWith_28 ?_
    refine lv_aload_n hx hb dX0_cornersSharedWith_29 rfl (lv_at hl 0 rfl) ?_
    refine va_get (D := D) (ci := 0) (v := .ref a_t_d) (C := RX0) (T := TX0) (N := 5) hx hb hts iw_X0_cornersSharedWith_0 hown hK hP 0 rfl rfl 3 (by decide) (hts (.fieldLink RX0 22 "PowerDiagram$Cell" "d" "[I") (List.mem_of_getElem? (i := 5) rfl)) (fun _ h9 => h9) rfl dX0_cornersSharedWith_30 ?_
    refine lv_iload_n hx hb dX0_cornersSharedWith_33 rfl (lv_at hl 3 rfl) ?_
    refine va_iald hx hb hK hP 3 0 rfl rfl h2 dX0_cornersSharedWith_34 ?_
    obtain ⟨r3, hq4, hf⟩ := bnd_of hf
    refine jnI (WB := (w_X0_cornersSharedWith cI cJ cZ cQ a_t a_t_planes a_t_x a_t_y a_t_d a_t_planes_a a_t_planes_b a_t_planes_c t_count t_x t_y t_d t_planes_count t_planes_meetX t_planes_meetY t_planes_meetD t_planes_a t_planes_b t_planes_c)) (rnV (As := [.int x1, .int (t_x x3.toNatClampNeg), .int (t_y x3.toNatClampNeg), .int (t_d x3.toNatClampNeg)]) (rest := []) (ci := 1) (q0 := 0) (W0 := (w_X1_borderHolds cI cJ cZ cQ a_t_planes a_t_planes_a a_t_planes_b a_t_planes_c t_planes_count t_planes_meetX t_planes_meetY t_planes_meetD t_planes_a t_planes_b t_planes_c)) hx hb hml hown hts hK hN (c_X1_borderHolds l D cI cJ cZ cQ a_t_planes a_t_planes_a a_t_planes_b a_t_planes_c t_planes_count t_planes_meetX t_planes_meetY t_planes_meetD t_planes_a t_planes_b t_planes_c x1 (t_x x3.toNatClampNeg) (t_y x3.toNatClampNeg) (t_d x3.toNatClampNeg) r3 hq4 H.size) (cwV 4 hts gX0_cornersSharedWith_X1_borderHolds rfl rfl rfl e_X1_borderHolds ⟨Nat.le_of_ble_eq_true rfl, Nat.le_of_ble_eq_true rfl⟩) hP hD [4, 5, 6, 7] rfl (by decide) rfl rfl rfl rfl hl (Nat.le_of_ble_eq_true rfl) dX0_cornersSharedWith_35 ⟨Nat.zero_le _, Nat.zero_le _⟩ rfl) hP hD hS hA [4, 5, 6, 7] [0, 1, 2, 3] [0, 1, 2, 3, 4, 5, 6, 7] rfl rfl (by decide) (by decide) rfl (by decide) (fun H locs hP hD hS => ?_)
    refine lv_if_eq (tgt := 44) hx hb dX0_cornersSharedWith_38 (by decide) (fun c5 => ?_) (fun c5 => ?_)
    · replace hf := brT c5 hf
      refine lv_iinc (v := (x3 + (1 : Int32))) (lv' := [(3, .int (x3 + (1 : Int32))), (0, .ref a_t), (1, .int x1), (2, .int x2)]) hx hb dX0_cornersSharedWith_44 hl (k := 3) rfl rfl (by decide) rfl (fun ls hl => ?_)
      refine lv_goto (tgt := 4) hx hb dX0_cornersSharedWith_47 (by decide) ?_
      exact (hk4) x1 x2 (x3 + (1 : Int32)) hf _ _ hP hD hS _ (lv_sub hl [1, 2, 3, 0] rfl)
    · replace hf := brF c5 hf
      refine lv_iinc (v := (x2 + (1 : Int32))) (lv' := [(2, .int (x2 + (1 : Int32))), (0, .ref a_t), (1, .int x1), (3, .int x3)]) hx hb dX0_cornersSharedWith_41 hl (k := 2) rfl rfl (by decide) rfl (fun ls hl => ?_)
      refine lv_iinc (v := (x3 + (1 : Int32))) (lv' := [(3, .int (x3 + (1 : Int32))), (2, .int (x2 + (1 : Int32))), (0, .ref a_t), (1, .int x1)]) hx hb dX0_cornersSharedWith_44 hl (k := 3) rfl rfl (by decide) rfl (fun ls hl => ?_)
      refine lv_goto (tgt := 4) hx hb dX0_cornersSharedWith_47 (by decide) ?_
      exact (hk4) x1 (x2 + (1 : Int32)) (x3 + (1 : Int32)) hf _ _ hP hD hS _ (lv_sub hl [2, 3, 1, 0] rfl)
theorem t_X0_cornersSharedWith_4 {p : Program} {l : Launch} {e : Env} {s : State} {m : MethodId} {args : Array Value} {below : List Frame} {meth : Method} {c : Code} {A : Nat → Prop} {D : va_G} {cI cJ cZ cQ : ClassId} {a_t a_t_planes a_t_x a_t_y a_t_d a_t_planes_a a_t_planes_b a_t_planes_c : Nat} {t_count : Int32} {t_x : Nat → Int32} {t_y : Nat → Int32} {t_d : Nat → Int32} {t_planes_count : Int32} {t_planes_meetX : Int32} {t_planes_meetY : Int32} {t_planes_meetD : Int32} {t_planes_a : Nat → Int32} {t_planes_b : Nat → Int32} {t_planes_c : Nat → Int32} {res : R_X0_cornersSharedWith}   (hC : mcx RX0 cX0_cornersSharedWith (some .int) 4 wsX0_cornersSharedWith p s m args meth c A D (tys4 cI cJ cZ cQ))   (n : Nat) : S_X0_cornersSharedWith_4 p l e s m args below meth c A D cI cJ cZ cQ a_t a_t_planes a_t_x a_t_y a_t_d a_t_planes_a a_t_planes_b a_t_planes_c t_count t_x t_y t_d t_planes_count t_planes_meetX t_planes_meetY t_planes_meetD t_planes_a t_planes_b t_planes_c res (f_X0_cornersSharedWith_4  t_count t_x t_y t_d t_planes_count t_planes_a t_planes_b t_planes_c n) := by
  induction n with
  | zero =>
    intro x1 x2 x3 hf
    exact nomatch (show (none : Option R_X0_cornersSharedWith) = some res from hf)
  | succ n ih => exact i_X0_cornersSharedWith_4 hC   ih
set_option maxHeartbeats 4000000 in
set_option maxRecDepth 100000 in
theorem t_X0_cornersSharedWith_0 {p : Program} {l : Launch} {e : Env} {s : State} {m : MethodId} {args : Array Value} {below : List Frame} {meth : Method} {c : Code} {A : Nat → Prop} {D : va_G} {cI cJ cZ cQ : ClassId} {a_t a_t_planes a_t_x a_t_y a_t_d a_t_planes_a a_t_planes_b a_t_planes_c : Nat} {t_count : Int32} {t_x : Nat → Int32} {t_y : Nat → Int32} {t_d : Nat → Int32} {t_planes_count : Int32} {t_planes_meetX : Int32} {t_planes_meetY : Int32} {t_planes_meetD : Int32} {t_planes_a : Nat → Int32} {t_planes_b : Nat → Int32} {t_planes_c : Nat → Int32} {res : R_X0_cornersSharedWith}   (hC : mcx RX0 cX0_cornersSharedWith (some .int) 4 wsX0_cornersSharedWith p s m args meth c A D (tys4 cI cJ cZ cQ))   : S_X0_cornersSharedWith_0 p l e s m args below meth c A D cI cJ cZ cQ a_t a_t_planes a_t_x a_t_y a_t_d a_t_planes_a a_t_planes_b a_t_planes_c t_count t_x t_y t_d t_planes_count t_planes_meetX t_planes_meetY t_planes_meetD t_planes_a t_planes_b t_planes_c res (f_X0_cornersSharedWith_0  t_count t_x t_y t_d t_planes_count t_planes_a t_planes_b t_planes_c) := by
  intro x1 hf H locs hP hD hS ls hl
  obtain ⟨hx, hb, hr, hml, hown, hts, hlocks, hA, hK, hN⟩ := id hC
  unfold f_X0_cornersSharedWith_0 at hf
  refine lv_iconst (v := (0 : Int32)) hx hb dX0_cornersSharedWith_0 (by decide) ?_
  refine lv_istore_n (lv' := [(2, .int (0 : Int32)), (0, .ref a_t), (1, .int x1)]) hx hb dX0_cornersSharedWith_1 rfl hl (by decide) rfl (fun ls hl => ?_)
  refine lv_iconst (v := (0 : Int32)) hx hb dX0_cornersSharedWith_2 (by decide) ?_
  refine lv_istore_n (lv' := [(3, .int (0 : Int32)), (2, .int (0 : Int32)), (0, .ref a_t), (1, .int x1)]) hx hb dX0_cornersSharedWith_3 rfl hl (by decide) rfl (fun ls hl => ?_)
  exact (t_X0_cornersSharedWith_4 hC   fuel) x1 (0 : Int32) (0 : Int32) hf _ _ hP hD hS _ (lv_sub hl [2, 3, 1, 0] rfl)
theorem c_X0_cornersSharedWith (l : Launch) (D : va_G) (cI cJ cZ cQ : ClassId) (a_t a_t_planes a_t_x a_t_y a_t_d a_t_planes_a a_t_planes_b a_t_planes_c : Nat) (t_count : Int32) (t_x : Nat → Int32) (t_y : Nat → Int32) (t_d : Nat → Int32) (t_planes_count : Int32) (t_planes_meetX : Int32) (t_planes_meetY : Int32) (t_planes_meetD : Int32) (t_planes_a : Nat → Int32) (t_planes_b : Nat → Int32) (t_planes_c : Nat → Int32) (p0 : Int32)  (res : R_X0_cornersSharedWith)  (hf : f_X0_cornersSharedWith_0 t_count t_x t_y t_d t_planes_count t_planes_a t_planes_b t_planes_c p0 = some res) : MetI l D (tys4 cI cJ cZ cQ) yX0_cornersSharedWith wsX0_cornersSharedWith rm_X0_cornersSharedWith [.ref a_t, .int p0] (w_X0_cornersSharedWith cI cJ cZ cQ a_t a_t_planes a_t_x a_t_y a_t_d a_t_planes_a a_t_planes_b a_t_planes_c t_count t_x t_y t_d t_planes_count t_planes_meetX t_planes_meetY t_planes_meetD t_planes_a t_planes_b t_planes_c) (w_X0_cornersSharedWith cI cJ cZ cQ a_t a_t_planes a_t_x a_t_y a_t_d a_t_planes_a a_t_planes_b a_t_planes_c t_count t_x t_y t_d t_planes_count t_planes_meetX t_planes_meetY t_planes_meetD t_planes_a t_planes_b t_planes_c) res := by
  intro sz
  exact metW (own := RX0) (cc := cX0_cornersSharedWith) (nL := 4) (ret := (some .int)) (Qc := fun A => qI D (tys4 cI cJ cZ cQ) (w_X0_cornersSharedWith cI cJ cZ cQ a_t a_t_planes a_t_x a_t_y a_t_d a_t_planes_a a_t_planes_b a_t_planes_c t_count t_x t_y t_d t_planes_count t_planes_meetX t_planes_meetY t_planes_meetD t_planes_a t_planes_b t_planes_c) A res) (by decide) rfl rfl (Nat.le_of_ble_eq_true rfl) (fun p e s m args below meth c A hC hP hD hS ls hl => t_X0_cornersSharedWith_0 hC  p0 hf _ _ hP hD hS _ (lv_sub hl [0, 1] rfl)) sz
theorem e_X0_cornersSharedWith : yX0_cornersSharedWith.cls = RX0 ∧ yX0_cornersSharedWith.cls ≠ "java/lang/invoke/MethodHandle" ∧ yX0_cornersSharedWith.cls ≠ "java/lang/invoke/VarHandle" ∧ (parseMethodDescriptor yX0_cornersSharedWith.desc).map (fun d => d.parameters.length) = some 1 := by decide +kernel
/-! X0_isBefore -/
theorem iw_X0_isBefore_0 : ∀ w ∈ wsX00, w ∈ wsX0_isBefore := fun _ h => List.mem_cons_of_mem _ (List.mem_append_right _ h)
def w_X0_isBefore (cI cJ cZ cQ : ClassId) (a_t a_t_planes a_t_x a_t_y a_t_d : Nat) (t_count : Int32) (t_x : Nat → Int32) (t_d : Nat → Int32) (t_y : Nat → Int32) : va_W := [(a_t, .inr (0, [.ref a_t_planes, .ref a_t_x, .ref a_t_y, .ref a_t_d, .int t_count])), (a_t_x, .inl (cI, 14, .inl t_x)), (a_t_d, .inl (cI, 14, .inl t_d)), (a_t_y, .inl (cI, 14, .inl t_y))]
abbrev rm_X0_isBefore : Room := { frames := 0, cells := 0, slots := 0, locals := 0 }
def S_X0_isBefore_0 (p : Program) (l : Launch) (e : Env) (s : State) (m : MethodId) (args : Array Value) (below : List Frame) (meth : Method) (c : Code) (A : Nat → Prop) (D : va_G) (cI cJ cZ cQ : ClassId) (a_t a_t_planes a_t_x a_t_y a_t_d : Nat) (t_count : Int32) (t_x : Nat → Int32) (t_d : Nat → Int32) (t_y : Nat → Int32) (res : R_X0_isBefore) (k : Int32 → Int32 → Option R_X0_isBefore) : Prop := ∀ (x1 : Int32) (x2 : Int32), k x1 x2 = some res → ∀ (H : Heap) (locs : List Loc), va_P D vwCl (w_X0_isBefore cI cJ cZ cQ a_t a_t_planes a_t_x a_t_y a_t_d t_count t_x t_d t_y) H → va_D A (w_X0_isBefore cI cJ cZ cQ a_t a_t_planes a_t_x a_t_y a_t_d t_count t_x t_d t_y) → va_S A s.heap H locs → ∀ ls : Array Slot, lv_has ls 5 [(0, .ref a_t), (1, .int x1), (2, .int x2)] → W p l e (headSpec wsX0_isBefore rm_X0_isBefore).room s m args below meth c H locs 0 0 (MQ below (qI D (tys4 cI cJ cZ cQ) (w_X0_isBefore cI cJ cZ cQ a_t a_t_planes a_t_x a_t_y a_t_d t_count t_x t_d t_y) A res) args s 0 0 A) (F0 m 0 ls [])
set_option maxHeartbeats 4000000 in
set_option maxRecDepth 100000 in
theorem t_X0_isBefore_0 {p : Program} {l : Launch} {e : Env} {s : State} {m : MethodId} {args : Array Value} {below : List Frame} {meth : Method} {c : Code} {A : Nat → Prop} {D : va_G} {cI cJ cZ cQ : ClassId} {a_t a_t_planes a_t_x a_t_y a_t_d : Nat} {t_count : Int32} {t_x : Nat → Int32} {t_d : Nat → Int32} {t_y : Nat → Int32} {res : R_X0_isBefore}   (hC : mcx RX0 cX0_isBefore (some .boolean) 5 wsX0_isBefore p s m args meth c A D (tys4 cI cJ cZ cQ))   : S_X0_isBefore_0 p l e s m args below meth c A D cI cJ cZ cQ a_t a_t_planes a_t_x a_t_y a_t_d t_count t_x t_d t_y res (f_X0_isBefore_0  t_x t_d t_y) := by
  intro x1 x2 hf H locs hP hD hS ls hl
  obtain ⟨hx, hb, hr, hml, hown, hts, hlocks, hA, hK, hN⟩ := id hC
  unfold f_X0_isBefore_0 at hf
  refine lv_aload_n hx hb dX0_isBefore_0 rfl (lv_at hl 0 rfl) ?_
  refine va_get (D := D) (ci := 0) (v := .ref a_t_x) (C := RX0) (T := TX0) (N := 5) hx hb hts iw_X0_isBefore_0 hown hK hP 0 rfl rfl 1 (by decide) (hts (.fieldLink RX0 15 "PowerDiagram$Cell" "x" "[I") (List.mem_of_getElem? (i := 1) rfl)) (fun _ h9 => h9) rfl dX0_isBefore_1 ?_
  refine lv_iload_n hx hb dX0_isBefore_4 rfl (lv_at hl 1 rfl) ?_
  obtain ⟨h1, hf⟩ := gIx_of hf
  refine va_iald hx hb hK hP 1 0 rfl rfl h1 dX0_isBefore_5 ?_
  refine lv_aload_n hx hb dX0_isBefore_6 rfl (lv_at hl 0 rfl) ?_
  refine va_get (D := D) (ci := 0) (v := .ref a_t_d) (C := RX0) (T := TX0) (N := 5) hx hb hts iw_X0_isBefore_0 hown hK hP 0 rfl rfl 3 (by decide) (hts (.fieldLink RX0 22 "PowerDiagram$Cell" "d" "[I") (List.mem_of_getElem? (i := 2) rfl)) (fun _ h9 => h9) rfl dX0_isBefore_7 ?_
  refine lv_iload_n hx hb dX0_isBefore_10 rfl (lv_at hl 2 rfl) ?_
  obtain ⟨h2, hf⟩ := gIx_of hf
  refine va_iald hx hb hK hP 2 0 rfl rfl h2 dX0_isBefore_11 ?_
  refine lv_imul hx hb dX0_isBefore_12 ?_
  refine lv_topi (fun v3 ev3 => ?_)
  replace hf := nm_of ev3 hf
  refine lv_istore_n (lv' := [(3, .int v3), (0, .ref a_t), (1, .int x1), (2, .int x2)]) hx hb dX0_isBefore_13 rfl hl (by decide) rfl (fun ls hl => ?_)
  refine lv_aload_n hx hb dX0_isBefore_14 rfl (lv_at hl 1 rfl) ?_
  refine va_get (D := D) (ci := 0) (v := .ref a_t_x) (C := RX0) (T := TX0) (N := 5) hx hb hts iw_X0_isBefore_0 hown hK hP 0 rfl rfl 1 (by decide) (hts (.fieldLink RX0 15 "PowerDiagram$Cell" "x" "[I") (List.mem_of_getElem? (i := 1) rfl)) (fun _ h9 => h9) rfl dX0_isBefore_15 ?_
  refine lv_iload_n hx hb dX0_isBefore_18 rfl (lv_at hl 3 rfl) ?_
  refine va_iald hx hb hK hP 1 0 rfl rfl h2 dX0_isBefore_19 ?_
  refine lv_aload_n hx hb dX0_isBefore_20 rfl (lv_at hl 1 rfl) ?_
  refine va_get (D := D) (ci := 0) (v := .ref a_t_d) (C := RX0) (T := TX0) (N := 5) hx hb hts iw_X0_isBefore_0 hown hK hP 0 rfl rfl 3 (by decide) (hts (.fieldLink RX0 22 "PowerDiagram$Cell" "d" "[I") (List.mem_of_getElem? (i := 2) rfl)) (fun _ h9 => h9) rfl dX0_isBefore_21 ?_
  refine lv_iload_n hx hb dX0_isBefore_24 rfl (lv_at hl 2 rfl) ?_
  refine va_iald hx hb hK hP 2 0 rfl rfl h1 dX0_isBefore_25 ?_
  refine lv_imul hx hb dX0_isBefore_26 ?_
  refine lv_topi (fun v4 ev4 => ?_)
  replace hf := nm_of ev4 hf
  refine lv_istore (lv' := [(4, .int v4), (3, .int v3), (0, .ref a_t), (1, .int x1), (2, .int x2)]) hx hb dX0_isBefore_27 hl (by decide) rfl (fun ls hl => ?_)
  refine lv_iload_n hx hb dX0_isBefore_29 rfl (lv_at hl 1 rfl) ?_
  refine lv_iload hx hb dX0_isBefore_30 (lv_at hl 0 rfl) ?_
  refine lv_icmp_eq (tgt := 49) hx hb dX0_isBefore_32 (by decide) (fun c5 => ?_) (fun c5 => ?_)
  · replace hf := brT c5 hf
    refine lv_aload_n hx hb dX0_isBefore_49 rfl (lv_at hl 2 rfl) ?_
    refine va_get (D := D) (ci := 0) (v := .ref a_t_y) (C := RX0) (T := TX0) (N := 5) hx hb hts iw_X0_isBefore_0 hown hK hP 0 rfl rfl 2 (by decide) (hts (.fieldLink RX0 19 "PowerDiagram$Cell" "y" "[I") (List.mem_of_getElem? (i := 3) rfl)) (fun _ h9 => h9) rfl dX0_isBefore_50 ?_
    refine lv_iload_n hx hb dX0_isBefore_53 rfl (lv_at hl 3 rfl) ?_
    refine va_iald hx hb hK hP 3 0 rfl rfl h1 dX0_isBefore_54 ?_
    refine lv_aload_n hx hb dX0_isBefore_55 rfl (lv_at hl 2 rfl) ?_
    refine va_get (D := D) (ci := 0) (v := .ref a_t_d) (C := RX0) (T := TX0) (N := 5) hx hb hts iw_X0_isBefore_0 hown hK hP 0 rfl rfl 3 (by decide) (hts (.fieldLink RX0 22 "PowerDiagram$Cell" "d" "[I") (List.mem_of_getElem? (i := 2) rfl)) (fun _ h9 => h9) rfl dX0_isBefore_56 ?_
    refine lv_iload_n hx hb dX0_isBefore_59 rfl (lv_at hl 4 rfl) ?_
    refine va_iald hx hb hK hP 2 0 rfl rfl h2 dX0_isBefore_60 ?_
    refine lv_imul hx hb dX0_isBefore_61 ?_
    refine lv_aload_n hx hb dX0_isBefore_62 rfl (lv_at hl 2 rfl) ?_
    refine va_get (D := D) (ci := 0) (v := .ref a_t_y) (C := RX0) (T := TX0) (N := 5) hx hb hts iw_X0_isBefore_0 hown hK hP 0 rfl rfl 2 (by decide) (hts (.fieldLink RX0 19 "PowerDiagram$Cell" "y" "[I") (List.mem_of_getElem? (i := 3) rfl)) (fun _ h9 => h9) rfl dX0_isBefore_63 ?_
    refine lv_iload_n hx hb dX0_isBefore_66 rfl (lv_at hl 4 rfl) ?_
    refine va_iald hx hb hK hP 3 0 rfl rfl h2 dX0_isBefore_67 ?_
    refine lv_aload_n hx hb dX0_isBefore_68 rfl (lv_at hl 2 rfl) ?_
    refine va_get (D := D) (ci := 0) (v := .ref a_t_d) (C := RX0) (T := TX0) (N := 5) hx hb hts iw_X0_isBefore_0 hown hK hP 0 rfl rfl 3 (by decide) (hts (.fieldLink RX0 22 "PowerDiagram$Cell" "d" "[I") (List.mem_of_getElem? (i := 2) rfl)) (fun _ h9 => h9) rfl dX0_isBefore_69 ?_
    refine lv_iload_n hx hb dX0_isBefore_72 rfl (lv_at hl 3 rfl) ?_
    refine va_iald hx hb hK hP 2 0 rfl rfl h1 dX0_isBefore_73 ?_
    refine lv_imul hx hb dX0_isBefore_74 ?_
    refine lv_icmp_ge (tgt := 82) hx hb dX0_isBefore_75 (by decide) (fun c6 => ?_) (fun c6 => ?_)
    · replace hf := brT c6 hf
      refine lv_iconst (v := (0 : Int32)) hx hb dX0_isBefore_82 (by decide) ?_
      obtain rfl := Option.some.inj hf
      exact endI (ty := .boolean) hC rfl rfl hP hD hS dX0_isBefore_83
    · replace hf := brF c6 hf
      refine lv_iconst (v := (1 : Int32)) hx hb dX0_isBefore_78 (by decide) ?_
      refine lv_goto (tgt := 83) hx hb dX0_isBefore_79 (by decide) ?_
      obtain rfl := Option.some.inj hf
      exact endI (ty := .boolean) hC rfl rfl hP hD hS dX0_isBefore_83
  · replace hf := brF c5 hf
    refine lv_iload_n hx hb dX0_isBefore_35 rfl (lv_at hl 1 rfl) ?_
    refine lv_iload hx hb dX0_isBefore_36 (lv_at hl 0 rfl) ?_
    refine lv_icmp_ge (tgt := 45) hx hb dX0_isBefore_38 (by decide) (fun c7 => ?_) (fun c7 => ?_)
    · replace hf := brT c7 hf
      refine lv_iconst (v := (0 : Int32)) hx hb dX0_isBefore_45 (by decide) ?_
      refine lv_goto (tgt := 83) hx hb dX0_isBefore_46 (by decide) ?_
      obtain rfl := Option.some.inj hf
      exact endI (ty := .boolean) hC rfl rfl hP hD hS dX0_isBefore_83
    · replace hf := brF c7 hf
      refine lv_iconst (v := (1 : Int32)) hx hb dX0_isBefore_41 (by decide) ?_
      refine lv_goto (tgt := 83) hx hb dX0_isBefore_42 (by decide) ?_
      obtain rfl := Option.some.inj hf
      exact endI (ty := .boolean) hC rfl rfl hP hD hS dX0_isBefore_83
theorem c_X0_isBefore (l : Launch) (D : va_G) (cI cJ cZ cQ : ClassId) (a_t a_t_planes a_t_x a_t_y a_t_d : Nat) (t_count : Int32) (t_x : Nat → Int32) (t_d : Nat → Int32) (t_y : Nat → Int32) (p0 : Int32) (p1 : Int32)  (res : R_X0_isBefore)  (hf : f_X0_isBefore_0 t_x t_d t_y p0 p1 = some res) : MetI l D (tys4 cI cJ cZ cQ) yX0_isBefore wsX0_isBefore rm_X0_isBefore [.ref a_t, .int p0, .int p1] (w_X0_isBefore cI cJ cZ cQ a_t a_t_planes a_t_x a_t_y a_t_d t_count t_x t_d t_y) (w_X0_isBefore cI cJ cZ cQ a_t a_t_planes a_t_x a_t_y a_t_d t_count t_x t_d t_y) res := by
  intro sz
  exact metW (own := RX0) (cc := cX0_isBefore) (nL := 5) (ret := (some .boolean)) (Qc := fun A => qI D (tys4 cI cJ cZ cQ) (w_X0_isBefore cI cJ cZ cQ a_t a_t_planes a_t_x a_t_y a_t_d t_count t_x t_d t_y) A res) (by decide) rfl rfl (Nat.le_of_ble_eq_true rfl) (fun p e s m args below meth c A hC hP hD hS ls hl => t_X0_isBefore_0 hC  p0 p1 hf _ _ hP hD hS _ (lv_sub hl [0, 1, 2] rfl)) sz
theorem e_X0_isBefore : yX0_isBefore.cls = RX0 ∧ yX0_isBefore.cls ≠ "java/lang/invoke/MethodHandle" ∧ yX0_isBefore.cls ≠ "java/lang/invoke/VarHandle" ∧ (parseMethodDescriptor yX0_isBefore.desc).map (fun d => d.parameters.length) = some 2 := by decide +kernel
/-! X0_swapIn -/
def w_X0_swapIn (cI cJ cZ cQ : ClassId) (a_p0 : Nat) (p0 : Nat → Int32) : va_W := [(a_p0, .inl (cI, 14, .inl p0))]
abbrev rm_X0_swapIn : Room := { frames := 0, cells := 0, slots := 0, locals := 0 }
def S_X0_swapIn_0 (p : Program) (l : Launch) (e : Env) (s : State) (m : MethodId) (args : Array Value) (below : List Frame) (meth : Method) (c : Code) (A : Nat → Prop) (D : va_G) (cI cJ cZ cQ : ClassId) (a_p0 : Nat)  (res : R_X0_swapIn) (k : (Nat → Int32) → Int32 → Int32 → Option R_X0_swapIn) : Prop := ∀ (p0 : Nat → Int32) (x1 : Int32) (x2 : Int32), k p0 x1 x2 = some res → ∀ (H : Heap) (locs : List Loc), va_P D vwCl (w_X0_swapIn cI cJ cZ cQ a_p0 p0) H → va_D A (w_X0_swapIn cI cJ cZ cQ a_p0 p0) → va_S A s.heap H locs → ∀ ls : Array Slot, lv_has ls 4 [(0, .ref a_p0), (1, .int x1), (2, .int x2)] → W p l e (headSpec wsX0_swapIn rm_X0_swapIn).room s m args below meth c H locs 0 0 (MQ below (qV D (tys4 cI cJ cZ cQ) (w_X0_swapIn cI cJ cZ cQ a_p0 res) A) args s 0 0 A) (F0 m 0 ls [])
set_option maxHeartbeats 4000000 in
set_option maxRecDepth 100000 in
theorem t_X0_swapIn_0 {p : Program} {l : Launch} {e : Env} {s : State} {m : MethodId} {args : Array Value} {below : List Frame} {meth : Method} {c : Code} {A : Nat → Prop} {D : va_G} {cI cJ cZ cQ : ClassId} {a_p0 : Nat}  {res : R_X0_swapIn}   (hC : mcx RX0 cX0_swapIn none 4 wsX0_swapIn p s m args meth c A D (tys4 cI cJ cZ cQ))   : S_X0_swapIn_0 p l e s m args below meth c A D cI cJ cZ cQ a_p0 res (f_X0_swapIn_0  ) := by
  intro p0 x1 x2 hf H locs hP hD hS ls hl
  obtain ⟨hx, hb, hr, hml, hown, hts, hlocks, hA, hK, hN⟩ := id hC
  unfold f_X0_swapIn_0 at hf
  refine lv_aload_n hx hb dX0_swapIn_0 rfl (lv_at hl 0 rfl) ?_
  refine lv_iload_n hx hb dX0_swapIn_1 rfl (lv_at hl 1 rfl) ?_
  obtain ⟨h1, hf⟩ := gIx_of hf
  refine va_iald hx hb hK hP 0 0 rfl rfl h1 dX0_swapIn_2 ?_
  refine lv_topi (fun v2 ev2 => ?_)
  replace hf := nm_of ev2 hf
  refine lv_istore_n (lv' := [(3, .int v2), (0, .ref a_p0), (1, .int x1), (2, .int x2)]) hx hb dX0_swapIn_3 rfl hl (by decide) rfl (fun ls hl => ?_)
  refine lv_aload_n hx hb dX0_swapIn_4 rfl (lv_at hl 1 rfl) ?_
  refine lv_iload_n hx hb dX0_swapIn_5 rfl (lv_at hl 2 rfl) ?_
  refine lv_aload_n hx hb dX0_swapIn_6 rfl (lv_at hl 1 rfl) ?_
  refine lv_iload_n hx hb dX0_swapIn_7 rfl (lv_at hl 3 rfl) ?_
  obtain ⟨h3, hf⟩ := gIx_of hf
  refine va_iald hx hb hK hP 0 0 rfl rfl h3 dX0_swapIn_8 ?_
  refine wrI (WB := (w_X0_swapIn cI cJ cZ cQ a_p0 (upd p0 x1.toNatClampNeg (p0 x2.toNatClampNeg)))) hx hb hK hP hD hS 0 0 rfl rfl h1 dX0_swapIn_9 rfl (fun H locs hP hD hS => ?_)
  refine lv_aload_n hx hb dX0_swapIn_10 rfl (lv_at hl 1 rfl) ?_
  refine lv_iload_n hx hb dX0_swapIn_11 rfl (lv_at hl 3 rfl) ?_
  refine lv_iload_n hx hb dX0_swapIn_12 rfl (lv_at hl 0 rfl) ?_
  refine wrI (WB := (w_X0_swapIn cI cJ cZ cQ a_p0 (upd (upd p0 x1.toNatClampNeg (p0 x2.toNatClampNeg)) x2.toNatClampNeg v2))) hx hb hK hP hD hS 0 0 rfl rfl h3 dX0_swapIn_13 rfl (fun H locs hP hD hS => ?_)
  obtain rfl := Option.some.inj hf
  exact endV hC hP hD hS dX0_swapIn_14
theorem c_X0_swapIn (l : Launch) (D : va_G) (cI cJ cZ cQ : ClassId) (a_p0 : Nat) (p0 : Nat → Int32) (p1 : Int32) (p2 : Int32)  (res : R_X0_swapIn)  (hf : f_X0_swapIn_0  p0 p1 p2 = some res) : MetV l D (tys4 cI cJ cZ cQ) yX0_swapIn wsX0_swapIn rm_X0_swapIn [.ref a_p0, .int p1, .int p2] (w_X0_swapIn cI cJ cZ cQ a_p0 p0) (w_X0_swapIn cI cJ cZ cQ a_p0 res) := by
  intro sz
  exact metW (own := RX0) (cc := cX0_swapIn) (nL := 4) (ret := none) (Qc := fun A => qV D (tys4 cI cJ cZ cQ) (w_X0_swapIn cI cJ cZ cQ a_p0 res) A) (by decide) rfl rfl (Nat.le_of_ble_eq_true rfl) (fun p e s m args below meth c A hC hP hD hS ls hl => t_X0_swapIn_0 hC  p0 p1 p2 hf _ _ hP hD hS _ (lv_sub hl [0, 1, 2] rfl)) sz
theorem e_X0_swapIn : yX0_swapIn.cls ≠ "java/lang/invoke/MethodHandle" ∧ yX0_swapIn.cls ≠ "java/lang/invoke/VarHandle" ∧ (parseMethodDescriptor yX0_swapIn.desc).map (fun d => d.parameters.length) = some 3 := by decide +kernel
/-! X0_swap -/
theorem iw_X0_swap_0 : ∀ w ∈ wsX00, w ∈ wsX0_swap := fun _ h => List.mem_cons_of_mem _ (List.mem_append_right _ h)
def w_X0_swap (cI cJ cZ cQ : ClassId) (a_t a_t_planes a_t_x a_t_y a_t_d : Nat) (t_count : Int32) (t_x : Nat → Int32) (t_y : Nat → Int32) (t_d : Nat → Int32) : va_W := [(a_t, .inr (0, [.ref a_t_planes, .ref a_t_x, .ref a_t_y, .ref a_t_d, .int t_count])), (a_t_x, .inl (cI, 14, .inl t_x)), (a_t_y, .inl (cI, 14, .inl t_y)), (a_t_d, .inl (cI, 14, .inl t_d))]
abbrev rm_X0_swap : Room := { frames := 1, cells := 0, slots := 0, locals := 23 }
def S_X0_swap_0 (p : Program) (l : Launch) (e : Env) (s : State) (m : MethodId) (args : Array Value) (below : List Frame) (meth : Method) (c : Code) (A : Nat → Prop) (D : va_G) (cI cJ cZ cQ : ClassId) (a_t a_t_planes a_t_x a_t_y a_t_d : Nat) (t_count : Int32) (res : R_X0_swap) (k : (Nat → Int32) → (Nat → Int32) → (Nat → Int32) → Int32 → Int32 → Option R_X0_swap) : Prop := ∀ (t_x : Nat → Int32) (t_y : Nat → Int32) (t_d : Nat → Int32) (x1 : Int32) (x2 : Int32), k t_x t_y t_d x1 x2 = some res → ∀ (H : Heap) (locs : List Loc), va_P D vwCl (w_X0_swap cI cJ cZ cQ a_t a_t_planes a_t_x a_t_y a_t_d t_count t_x t_y t_d) H → va_D A (w_X0_swap cI cJ cZ cQ a_t a_t_planes a_t_x a_t_y a_t_d t_count t_x t_y t_d) → va_S A s.heap H locs → ∀ ls : Array Slot, lv_has ls 3 [(0, .ref a_t), (1, .int x1), (2, .int x2)] → W p l e (headSpec wsX0_swap rm_X0_swap).room s m args below meth c H locs 0 0 (MQ below (qV D (tys4 cI cJ cZ cQ) (w_X0_swap cI cJ cZ cQ a_t a_t_planes a_t_x a_t_y a_t_d t_count res.1 res.2.1 res.2.2) A) args s 0 0 A) (F0 m 0 ls [])
set_option maxHeartbeats 4000000 in
set_option maxRecDepth 100000 in
theorem t_X0_swap_0 {p : Program} {l : Launch} {e : Env} {s : State} {m : MethodId} {args : Array Value} {below : List Frame} {meth : Method} {c : Code} {A : Nat → Prop} {D : va_G} {cI cJ cZ cQ : ClassId} {a_t a_t_planes a_t_x a_t_y a_t_d : Nat} {t_count : Int32} {res : R_X0_swap}   (hC : mcx RX0 cX0_swap none 3 wsX0_swap p s m args meth c A D (tys4 cI cJ cZ cQ))   : S_X0_swap_0 p l e s m args below meth c A D cI cJ cZ cQ a_t a_t_planes a_t_x a_t_y a_t_d t_count res (f_X0_swap_0  ) := by
  intro t_x t_y t_d x1 x2 hf H locs hP hD hS ls hl
  obtain ⟨hx, hb, hr, hml, hown, hts, hlocks, hA, hK, hN⟩ := id hC
  unfold f_X0_swap_0 at hf
  refine lv_aload_n hx hb dX0_swap_0 rfl (lv_at hl 0 rfl) ?_
  refine va_get (D := D) (ci := 0) (v := .ref a_t_x) (C := RX0) (T := TX0) (N := 5) hx hb hts iw_X0_swap_0 hown hK hP 0 rfl rfl 1 (by decide) (hts (.fieldLink RX0 15 "PowerDiagram$Cell" "x" "[I") (List.mem_of_getElem? (i := 1) rfl)) (fun _ h9 => h9) rfl dX0_swap_1 ?_
  refine lv_iload_n hx hb dX0_swap_4 rfl (lv_at hl 1 rfl) ?_
  refine lv_iload_n hx hb dX0_swap_5 rfl (lv_at hl 2 rfl) ?_
  obtain ⟨u1, hq2, hf⟩ := bnd_of hf
  refine jnV (WB := (w_X0_swap cI cJ cZ cQ a_t a_t_planes a_t_x a_t_y a_t_d t_count u1 t_y t_d)) (rnS (As := [.ref a_t_x, .int x1, .int x2]) (rest := []) (W0 := (w_X0_swapIn cI cJ cZ cQ a_t_x t_x)) hx hb hml hown hts hK hN (c_X0_swapIn l D cI cJ cZ cQ a_t_x t_x x1 x2 u1 hq2 H.size) (va_cwS 3 hts gX0_swap_X0_swapIn rfl rfl rfl e_X0_swapIn ⟨Nat.le_of_ble_eq_true rfl, Nat.le_of_ble_eq_true rfl⟩) hP hD [1] rfl (by decide) rfl hl (Nat.le_of_ble_eq_true rfl) dX0_swap_6 ⟨Nat.zero_le _, Nat.zero_le _⟩ rfl) hP hD hS hA [1] [0, 2, 3] [0, 3, 1, 2] rfl rfl (by decide) (by decide) rfl (by decide) (fun H locs hP hD hS => ?_)
  refine lv_aload_n hx hb dX0_swap_9 rfl (lv_at hl 0 rfl) ?_
  refine va_get (D := D) (ci := 0) (v := .ref a_t_y) (C := RX0) (T := TX0) (N := 5) hx hb hts iw_X0_swap_0 hown hK hP 0 rfl rfl 2 (by decide) (hts (.fieldLink RX0 19 "PowerDiagram$Cell" "y" "[I") (List.mem_of_getElem? (i := 2) rfl)) (fun _ h9 => h9) rfl dX0_swap_10 ?_
  refine lv_iload_n hx hb dX0_swap_13 rfl (lv_at hl 1 rfl) ?_
  refine lv_iload_n hx hb dX0_swap_14 rfl (lv_at hl 2 rfl) ?_
  obtain ⟨u3, hq4, hf⟩ := bnd_of hf
  refine jnV (WB := (w_X0_swap cI cJ cZ cQ a_t a_t_planes a_t_x a_t_y a_t_d t_count u1 u3 t_d)) (rnS (As := [.ref a_t_y, .int x1, .int x2]) (rest := []) (W0 := (w_X0_swapIn cI cJ cZ cQ a_t_y t_y)) hx hb hml hown hts hK hN (c_X0_swapIn l D cI cJ cZ cQ a_t_y t_y x1 x2 u3 hq4 H.size) (va_cwS 3 hts gX0_swap_X0_swapIn rfl rfl rfl e_X0_swapIn ⟨Nat.le_of_ble_eq_true rfl, Nat.le_of_ble_eq_true rfl⟩) hP hD [2] rfl (by decide) rfl hl (Nat.le_of_ble_eq_true rfl) dX0_swap_15 ⟨Nat.zero_le _, Nat.zero_le _⟩ rfl) hP hD hS hA [2] [0, 1, 3] [0, 1, 3, 2] rfl rfl (by decide) (by decide) rfl (by decide) (fun H locs hP hD hS => ?_)
  refine lv_aload_n hx hb dX0_swap_18 rfl (lv_at hl 0 rfl) ?_
  refine va_get (D := D) (ci := 0) (v := .ref a_t_d) (C := RX0) (T := TX0) (N := 5) hx hb hts iw_X0_swap_0 hown hK hP 0 rfl rfl 3 (by decide) (hts (.fieldLink RX0 22 "PowerDiagram$Cell" "d" "[I") (List.mem_of_getElem? (i := 3) rfl)) (fun _ h9 => h9) rfl dX0_swap_19 ?_
  refine lv_iload_n hx hb dX0_swap_22 rfl (lv_at hl 1 rfl) ?_
  refine lv_iload_n hx hb dX0_swap_23 rfl (lv_at hl 2 rfl) ?_
  obtain ⟨u5, hq6, hf⟩ := bnd_of hf
  refine jnV (WB := (w_X0_swap cI cJ cZ cQ a_t a_t_planes a_t_x a_t_y a_t_d t_count u1 u3 u5)) (rnS (As := [.ref a_t_d, .int x1, .int x2]) (rest := []) (W0 := (w_X0_swapIn cI cJ cZ cQ a_t_d t_d)) hx hb hml hown hts hK hN (c_X0_swapIn l D cI cJ cZ cQ a_t_d t_d x1 x2 u5 hq6 H.size) (va_cwS 3 hts gX0_swap_X0_swapIn rfl rfl rfl e_X0_swapIn ⟨Nat.le_of_ble_eq_true rfl, Nat.le_of_ble_eq_true rfl⟩) hP hD [3] rfl (by decide) rfl hl (Nat.le_of_ble_eq_true rfl) dX0_swap_24 ⟨Nat.zero_le _, Nat.zero_le _⟩ rfl) hP hD hS hA [3] [0, 1, 2] [0, 1, 2, 3] rfl rfl (by decide) (by decide) rfl (by decide) (fun H locs hP hD hS => ?_)
  obtain rfl := Option.some.inj hf
  exact endV hC hP hD hS dX0_swap_27
theorem c_X0_swap (l : Launch) (D : va_G) (cI cJ cZ cQ : ClassId) (a_t a_t_planes a_t_x a_t_y a_t_d : Nat) (t_count : Int32) (t_x : Nat → Int32) (t_y : Nat → Int32) (t_d : Nat → Int32) (p0 : Int32) (p1 : Int32)  (res : R_X0_swap)  (hf : f_X0_swap_0  t_x t_y t_d p0 p1 = some res) : MetV l D (tys4 cI cJ cZ cQ) yX0_swap wsX0_swap rm_X0_swap [.ref a_t, .int p0, .int p1] (w_X0_swap cI cJ cZ cQ a_t a_t_planes a_t_x a_t_y a_t_d t_count t_x t_y t_d) (w_X0_swap cI cJ cZ cQ a_t a_t_planes a_t_x a_t_y a_t_d t_count res.1 res.2.1 res.2.2) := by
  intro sz
  exact metW (own := RX0) (cc := cX0_swap) (nL := 3) (ret := none) (Qc := fun A => qV D (tys4 cI cJ cZ cQ) (w_X0_swap cI cJ cZ cQ a_t a_t_planes a_t_x a_t_y a_t_d t_count res.1 res.2.1 res.2.2) A) (by decide) rfl rfl (Nat.le_of_ble_eq_true rfl) (fun p e s m args below meth c A hC hP hD hS ls hl => t_X0_swap_0 hC  t_x t_y t_d p0 p1 hf _ _ hP hD hS _ (lv_sub hl [0, 1, 2] rfl)) sz
theorem e_X0_swap : yX0_swap.cls = RX0 ∧ yX0_swap.cls ≠ "java/lang/invoke/MethodHandle" ∧ yX0_swap.cls ≠ "java/lang/invoke/VarHandle" ∧ (parseMethodDescriptor yX0_swap.desc).map (fun d => d.parameters.length) = some 2 := by decide +kernel
/-! X0_turn -/
theorem iw_X0_turn_0 : ∀ w ∈ wsX00, w ∈ wsX0_turn := fun _ h => List.mem_cons_of_mem _ (List.mem_append_right _ h)
def w_X0_turn (cI cJ cZ cQ : ClassId) (a_t a_t_planes a_t_x a_t_y a_t_d : Nat) (t_count : Int32) (t_x : Nat → Int32) (t_y : Nat → Int32) (t_d : Nat → Int32) : va_W := [(a_t, .inr (0, [.ref a_t_planes, .ref a_t_x, .ref a_t_y, .ref a_t_d, .int t_count])), (a_t_x, .inl (cI, 14, .inl t_x)), (a_t_y, .inl (cI, 14, .inl t_y)), (a_t_d, .inl (cI, 14, .inl t_d))]
abbrev rm_X0_turn : Room := { frames := 0, cells := 0, slots := 0, locals := 0 }
def S_X0_turn_0 (p : Program) (l : Launch) (e : Env) (s : State) (m : MethodId) (args : Array Value) (below : List Frame) (meth : Method) (c : Code) (A : Nat → Prop) (D : va_G) (cI cJ cZ cQ : ClassId) (a_t a_t_planes a_t_x a_t_y a_t_d : Nat) (t_count : Int32) (t_x : Nat → Int32) (t_y : Nat → Int32) (t_d : Nat → Int32) (res : R_X0_turn) (k : Int32 → Int32 → Option R_X0_turn) : Prop := ∀ (x1 : Int32) (x2 : Int32), k x1 x2 = some res → ∀ (H : Heap) (locs : List Loc), va_P D vwCl (w_X0_turn cI cJ cZ cQ a_t a_t_planes a_t_x a_t_y a_t_d t_count t_x t_y t_d) H → va_D A (w_X0_turn cI cJ cZ cQ a_t a_t_planes a_t_x a_t_y a_t_d t_count t_x t_y t_d) → va_S A s.heap H locs → ∀ ls : Array Slot, lv_has ls 3 [(0, .ref a_t), (1, .int x1), (2, .int x2)] → W p l e (headSpec wsX0_turn rm_X0_turn).room s m args below meth c H locs 0 0 (MQ below (qL D (tys4 cI cJ cZ cQ) (w_X0_turn cI cJ cZ cQ a_t a_t_planes a_t_x a_t_y a_t_d t_count t_x t_y t_d) A res) args s 0 0 A) (F0 m 0 ls [])
set_option maxHeartbeats 4000000 in
set_option maxRecDepth 100000 in
theorem t_X0_turn_0 {p : Program} {l : Launch} {e : Env} {s : State} {m : MethodId} {args : Array Value} {below : List Frame} {meth : Method} {c : Code} {A : Nat → Prop} {D : va_G} {cI cJ cZ cQ : ClassId} {a_t a_t_planes a_t_x a_t_y a_t_d : Nat} {t_count : Int32} {t_x : Nat → Int32} {t_y : Nat → Int32} {t_d : Nat → Int32} {res : R_X0_turn}   (hC : mcx RX0 cX0_turn (some .long) 3 wsX0_turn p s m args meth c A D (tys4 cI cJ cZ cQ))   : S_X0_turn_0 p l e s m args below meth c A D cI cJ cZ cQ a_t a_t_planes a_t_x a_t_y a_t_d t_count t_x t_y t_d res (f_X0_turn_0  t_x t_y t_d) := by
  intro x1 x2 hf H locs hP hD hS ls hl
  obtain ⟨hx, hb, hr, hml, hown, hts, hlocks, hA, hK, hN⟩ := id hC
  unfold f_X0_turn_0 at hf
  refine lv_aload_n hx hb dX0_turn_0 rfl (lv_at hl 0 rfl) ?_
  refine va_get (D := D) (ci := 0) (v := .ref a_t_x) (C := RX0) (T := TX0) (N := 5) hx hb hts iw_X0_turn_0 hown hK hP 0 rfl rfl 1 (by decide) (hts (.fieldLink RX0 15 "PowerDiagram$Cell" "x" "[I") (List.mem_of_getElem? (i := 1) rfl)) (fun _ h9 => h9) rfl dX0_turn_1 ?_
  refine lv_iconst (v := (0 : Int32)) hx hb dX0_turn_4 (by decide) ?_
  refine va_iald hx hb hK hP 1 0 rfl rfl (in_lit (by decide)) dX0_turn_5 ?_
  refine lv_i2l (v := (t_x (0 : Int32).toNatClampNeg).toInt64) hx hb dX0_turn_6 rfl ?_
  refine lv_aload_n hx hb dX0_turn_7 rfl (lv_at hl 0 rfl) ?_
  refine va_get (D := D) (ci := 0) (v := .ref a_t_y) (C := RX0) (T := TX0) (N := 5) hx hb hts iw_X0_turn_0 hown hK hP 0 rfl rfl 2 (by decide) (hts (.fieldLink RX0 19 "PowerDiagram$Cell" "y" "[I") (List.mem_of_getElem? (i := 2) rfl)) (fun _ h9 => h9) rfl dX0_turn_8 ?_
  refine lv_iload_n hx hb dX0_turn_11 rfl (lv_at hl 1 rfl) ?_
  obtain ⟨h1, hf⟩ := gIx_of hf
  refine va_iald hx hb hK hP 2 0 rfl rfl h1 dX0_turn_12 ?_
  refine lv_i2l (v := (t_y x1.toNatClampNeg).toInt64) hx hb dX0_turn_13 rfl ?_
  refine lv_aload_n hx hb dX0_turn_14 rfl (lv_at hl 0 rfl) ?_
  refine va_get (D := D) (ci := 0) (v := .ref a_t_d) (C := RX0) (T := TX0) (N := 5) hx hb hts iw_X0_turn_0 hown hK hP 0 rfl rfl 3 (by decide) (hts (.fieldLink RX0 22 "PowerDiagram$Cell" "d" "[I") (List.mem_of_getElem? (i := 3) rfl)) (fun _ h9 => h9) rfl dX0_turn_15 ?_
  refine lv_iload_n hx hb dX0_turn_18 rfl (lv_at hl 2 rfl) ?_
  obtain ⟨h2, hf⟩ := gIx_of hf
  refine va_iald hx hb hK hP 3 0 rfl rfl h2 dX0_turn_19 ?_
  refine lv_i2l (v := (t_d x2.toNatClampNeg).toInt64) hx hb dX0_turn_20 rfl ?_
  refine lv_lmul hx hb dX0_turn_21 ?_
  refine lv_aload_n hx hb dX0_turn_22 rfl (lv_at hl 0 rfl) ?_
  refine va_get (D := D) (ci := 0) (v := .ref a_t_y) (C := RX0) (T := TX0) (N := 5) hx hb hts iw_X0_turn_0 hown hK hP 0 rfl rfl 2 (by decide) (hts (.fieldLink RX0 19 "PowerDiagram$Cell" "y" "[I") (List.mem_of_getElem? (i := 2) rfl)) (fun _ h9 => h9) rfl dX0_turn_23 ?_
  refine lv_iload_n hx hb dX0_turn_26 rfl (lv_at hl 2 rfl) ?_
  refine va_iald hx hb hK hP 2 0 rfl rfl h2 dX0_turn_27 ?_
  refine lv_i2l (v := (t_y x2.toNatClampNeg).toInt64) hx hb dX0_turn_28 rfl ?_
  refine lv_aload_n hx hb dX0_turn_29 rfl (lv_at hl 0 rfl) ?_
  refine va_get (D := D) (ci := 0) (v := .ref a_t_d) (C := RX0) (T := TX0) (N := 5) hx hb hts iw_X0_turn_0 hown hK hP 0 rfl rfl 3 (by decide) (hts (.fieldLink RX0 22 "PowerDiagram$Cell" "d" "[I") (List.mem_of_getElem? (i := 3) rfl)) (fun _ h9 => h9) rfl dX0_turn_30 ?_
  refine lv_iload_n hx hb dX0_turn_33 rfl (lv_at hl 1 rfl) ?_
  refine va_iald hx hb hK hP 3 0 rfl rfl h1 dX0_turn_34 ?_
  refine lv_i2l (v := (t_d x1.toNatClampNeg).toInt64) hx hb dX0_turn_35 rfl ?_
  refine lv_lmul hx hb dX0_turn_36 ?_
  refine lv_lsub hx hb dX0_turn_37 ?_
  refine lv_lmul hx hb dX0_turn_38 ?_
  refine lv_aload_n hx hb dX0_turn_39 rfl (lv_at hl 0 rfl) ?_
  refine va_get (D := D) (ci := 0) (v := .ref a_t_y) (C := RX0) (T := TX0) (N := 5) hx hb hts iw_X0_turn_0 hown hK hP 0 rfl rfl 2 (by decide) (hts (.fieldLink RX0 19 "PowerDiagram$Cell" "y" "[I") (List.mem_of_getElem? (i := 2) rfl)) (fun _ h9 => h9) rfl dX0_turn_40 ?_
  refine lv_iconst (v := (0 : Int32)) hx hb dX0_turn_43 (by decide) ?_
  refine va_iald hx hb hK hP 2 0 rfl rfl (in_lit (by decide)) dX0_turn_44 ?_
  refine lv_i2l (v := (t_y (0 : Int32).toNatClampNeg).toInt64) hx hb dX0_turn_45 rfl ?_
  refine lv_aload_n hx hb dX0_turn_46 rfl (lv_at hl 0 rfl) ?_
  refine va_get (D := D) (ci := 0) (v := .ref a_t_x) (C := RX0) (T := TX0) (N := 5) hx hb hts iw_X0_turn_0 hown hK hP 0 rfl rfl 1 (by decide) (hts (.fieldLink RX0 15 "PowerDiagram$Cell" "x" "[I") (List.mem_of_getElem? (i := 1) rfl)) (fun _ h9 => h9) rfl dX0_turn_47 ?_
  refine lv_iload_n hx hb dX0_turn_50 rfl (lv_at hl 1 rfl) ?_
  refine va_iald hx hb hK hP 1 0 rfl rfl h1 dX0_turn_51 ?_
  refine lv_i2l (v := (t_x x1.toNatClampNeg).toInt64) hx hb dX0_turn_52 rfl ?_
  refine lv_aload_n hx hb dX0_turn_53 rfl (lv_at hl 0 rfl) ?_
  refine va_get (D := D) (ci := 0) (v := .ref a_t_d) (C := RX0) (T := TX0) (N := 5) hx hb hts iw_X0_turn_0 hown hK hP 0 rfl rfl 3 (by decide) (hts (.fieldLink RX0 22 "PowerDiagram$Cell" "d" "[I") (List.mem_of_getElem? (i := 3) rfl)) (fun _ h9 => h9) rfl dX0_turn_54 ?_
  refine lv_iload_n hx hb dX0_turn_57 rfl (lv_at hl 2 rfl) ?_
  refine va_iald hx hb hK hP 3 0 rfl rfl h2 dX0_turn_58 ?_
  refine lv_i2l (v := (t_d x2.toNatClampNeg).toInt64) hx hb dX0_turn_59 rfl ?_
  refine lv_lmul hx hb dX0_turn_60 ?_
  refine lv_aload_n hx hb dX0_turn_61 rfl (lv_at hl 0 rfl) ?_
  refine va_get (D := D) (ci := 0) (v := .ref a_t_x) (C := RX0) (T := TX0) (N := 5) hx hb hts iw_X0_turn_0 hown hK hP 0 rfl rfl 1 (by decide) (hts (.fieldLink RX0 15 "PowerDiagram$Cell" "x" "[I") (List.mem_of_getElem? (i := 1) rfl)) (fun _ h9 => h9) rfl dX0_turn_62 ?_
  refine lv_iload_n hx hb dX0_turn_65 rfl (lv_at hl 2 rfl) ?_
  refine va_iald hx hb hK hP 1 0 rfl rfl h2 dX0_turn_66 ?_
  refine lv_i2l (v := (t_x x2.toNatClampNeg).toInt64) hx hb dX0_turn_67 rfl ?_
  refine lv_aload_n hx hb dX0_turn_68 rfl (lv_at hl 0 rfl) ?_
  refine va_get (D := D) (ci := 0) (v := .ref a_t_d) (C := RX0) (T := TX0) (N := 5) hx hb hts iw_X0_turn_0 hown hK hP 0 rfl rfl 3 (by decide) (hts (.fieldLink RX0 22 "PowerDiagram$Cell" "d" "[I") (List.mem_of_getElem? (i := 3) rfl)) (fun _ h9 => h9) rfl dX0_turn_69 ?_
  refine lv_iload_n hx hb dX0_turn_72 rfl (lv_at hl 1 rfl) ?_
  refine va_iald hx hb hK hP 3 0 rfl rfl h1 dX0_turn_73 ?_
  refine lv_i2l (v := (t_d x1.toNatClampNeg).toInt64) hx hb dX0_turn_74 rfl ?_
  refine lv_lmul hx hb dX0_turn_75 ?_
  refine lv_lsub hx hb dX0_turn_76 ?_
  refine lv_lmul hx hb dX0_turn_77 ?_
  refine lv_lsub hx hb dX0_turn_78 ?_
  refine lv_aload_n hx hb dX0_turn_79 rfl (lv_at hl 0 rfl) ?_
  refine va_get (D := D) (ci := 0) (v := .ref a_t_d) (C := RX0) (T := TX0) (N := 5) hx hb hts iw_X0_turn_0 hown hK hP 0 rfl rfl 3 (by decide) (hts (.fieldLink RX0 22 "PowerDiagram$Cell" "d" "[I") (List.mem_of_getElem? (i := 3) rfl)) (fun _ h9 => h9) rfl dX0_turn_80 ?_
  refine lv_iconst (v := (0 : Int32)) hx hb dX0_turn_83 (by decide) ?_
  refine va_iald hx hb hK hP 3 0 rfl rfl (in_lit (by decide)) dX0_turn_84 ?_
  refine lv_i2l (v := (t_d (0 : Int32).toNatClampNeg).toInt64) hx hb dX0_turn_85 rfl ?_
  refine lv_aload_n hx hb dX0_turn_86 rfl (lv_at hl 0 rfl) ?_
  refine va_get (D := D) (ci := 0) (v := .ref a_t_x) (C := RX0) (T := TX0) (N := 5) hx hb hts iw_X0_turn_0 hown hK hP 0 rfl rfl 1 (by decide) (hts (.fieldLink RX0 15 "PowerDiagram$Cell" "x" "[I") (List.mem_of_getElem? (i := 1) rfl)) (fun _ h9 => h9) rfl dX0_turn_87 ?_
  refine lv_iload_n hx hb dX0_turn_90 rfl (lv_at hl 1 rfl) ?_
  refine va_iald hx hb hK hP 1 0 rfl rfl h1 dX0_turn_91 ?_
  refine lv_i2l (v := (t_x x1.toNatClampNeg).toInt64) hx hb dX0_turn_92 rfl ?_
  refine lv_aload_n hx hb dX0_turn_93 rfl (lv_at hl 0 rfl) ?_
  refine va_get (D := D) (ci := 0) (v := .ref a_t_y) (C := RX0) (T := TX0) (N := 5) hx hb hts iw_X0_turn_0 hown hK hP 0 rfl rfl 2 (by decide) (hts (.fieldLink RX0 19 "PowerDiagram$Cell" "y" "[I") (List.mem_of_getElem? (i := 2) rfl)) (fun _ h9 => h9) rfl dX0_turn_94 ?_
  refine lv_iload_n hx hb dX0_turn_97 rfl (lv_at hl 2 rfl) ?_
  refine va_iald hx hb hK hP 2 0 rfl rfl h2 dX0_turn_98 ?_
  refine lv_i2l (v := (t_y x2.toNatClampNeg).toInt64) hx hb dX0_turn_99 rfl ?_
  refine lv_lmul hx hb dX0_turn_100 ?_
  refine lv_aload_n hx hb dX0_turn_101 rfl (lv_at hl 0 rfl) ?_
  refine va_get (D := D) (ci := 0) (v := .ref a_t_x) (C := RX0) (T := TX0) (N := 5) hx hb hts iw_X0_turn_0 hown hK hP 0 rfl rfl 1 (by decide) (hts (.fieldLink RX0 15 "PowerDiagram$Cell" "x" "[I") (List.mem_of_getElem? (i := 1) rfl)) (fun _ h9 => h9) rfl dX0_turn_102 ?_
  refine lv_iload_n hx hb dX0_turn_105 rfl (lv_at hl 2 rfl) ?_
  refine va_iald hx hb hK hP 1 0 rfl rfl h2 dX0_turn_106 ?_
  refine lv_i2l (v := (t_x x2.toNatClampNeg).toInt64) hx hb dX0_turn_107 rfl ?_
  refine lv_aload_n hx hb dX0_turn_108 rfl (lv_at hl 0 rfl) ?_
  refine va_get (D := D) (ci := 0) (v := .ref a_t_y) (C := RX0) (T := TX0) (N := 5) hx hb hts iw_X0_turn_0 hown hK hP 0 rfl rfl 2 (by decide) (hts (.fieldLink RX0 19 "PowerDiagram$Cell" "y" "[I") (List.mem_of_getElem? (i := 2) rfl)) (fun _ h9 => h9) rfl dX0_turn_109 ?_
  refine lv_iload_n hx hb dX0_turn_112 rfl (lv_at hl 1 rfl) ?_
  refine va_iald hx hb hK hP 2 0 rfl rfl h1 dX0_turn_113 ?_
  refine lv_i2l (v := (t_y x1.toNatClampNeg).toInt64) hx hb dX0_turn_114 rfl ?_
  refine lv_lmul hx hb dX0_turn_115 ?_
  refine lv_lsub hx hb dX0_turn_116 ?_
  refine lv_lmul hx hb dX0_turn_117 ?_
  refine lv_ladd hx hb dX0_turn_118 ?_
  obtain rfl := Option.some.inj hf
  exact endL hC rfl hP hD hS dX0_turn_119
theorem c_X0_turn (l : Launch) (D : va_G) (cI cJ cZ cQ : ClassId) (a_t a_t_planes a_t_x a_t_y a_t_d : Nat) (t_count : Int32) (t_x : Nat → Int32) (t_y : Nat → Int32) (t_d : Nat → Int32) (p0 : Int32) (p1 : Int32)  (res : R_X0_turn)  (hf : f_X0_turn_0 t_x t_y t_d p0 p1 = some res) : MetL l D (tys4 cI cJ cZ cQ) yX0_turn wsX0_turn rm_X0_turn [.ref a_t, .int p0, .int p1] (w_X0_turn cI cJ cZ cQ a_t a_t_planes a_t_x a_t_y a_t_d t_count t_x t_y t_d) (w_X0_turn cI cJ cZ cQ a_t a_t_planes a_t_x a_t_y a_t_d t_count t_x t_y t_d) res := by
  intro sz
  exact metW (own := RX0) (cc := cX0_turn) (nL := 3) (ret := (some .long)) (Qc := fun A => qL D (tys4 cI cJ cZ cQ) (w_X0_turn cI cJ cZ cQ a_t a_t_planes a_t_x a_t_y a_t_d t_count t_x t_y t_d) A res) (by decide) rfl rfl (Nat.le_of_ble_eq_true rfl) (fun p e s m args below meth c A hC hP hD hS ls hl => t_X0_turn_0 hC  p0 p1 hf _ _ hP hD hS _ (lv_sub hl [0, 1, 2] rfl)) sz
theorem e_X0_turn : yX0_turn.cls = RX0 ∧ yX0_turn.cls ≠ "java/lang/invoke/MethodHandle" ∧ yX0_turn.cls ≠ "java/lang/invoke/VarHandle" ∧ (parseMethodDescriptor yX0_turn.desc).map (fun d => d.parameters.length) = some 2 := by decide +kernel
/-! X0_putInOrder -/
theorem iw_X0_putInOrder_0 : ∀ w ∈ wsX00, w ∈ wsX0_putInOrder := fun _ h => List.mem_cons_of_mem _ (List.mem_append_right _ h)
def w_X0_putInOrder (cI cJ cZ cQ : ClassId) (a_t a_t_planes a_t_x a_t_y a_t_d : Nat) (t_count : Int32) (t_x : Nat → Int32) (t_d : Nat → Int32) (t_y : Nat → Int32) : va_W := [(a_t, .inr (0, [.ref a_t_planes, .ref a_t_x, .ref a_t_y, .ref a_t_d, .int t_count])), (a_t_x, .inl (cI, 14, .inl t_x)), (a_t_d, .inl (cI, 14, .inl t_d)), (a_t_y, .inl (cI, 14, .inl t_y))]
abbrev rm_X0_putInOrder : Room := { frames := 2, cells := 0, slots := 0, locals := 45 }
def S_X0_putInOrder_43 (p : Program) (l : Launch) (e : Env) (s : State) (m : MethodId) (args : Array Value) (below : List Frame) (meth : Method) (c : Code) (A : Nat → Prop) (D : va_G) (cI cJ cZ cQ : ClassId) (a_t a_t_planes a_t_x a_t_y a_t_d : Nat) (t_count : Int32) (res : R_X0_putInOrder) (k : (Nat → Int32) → (Nat → Int32) → (Nat → Int32) → Int32 → Int32 → Option R_X0_putInOrder) : Prop := ∀ (t_x : Nat → Int32) (t_d : Nat → Int32) (t_y : Nat → Int32) (x1 : Int32) (x2 : Int32), k t_x t_d t_y x1 x2 = some res → ∀ (H : Heap) (locs : List Loc), va_P D vwCl (w_X0_putInOrder cI cJ cZ cQ a_t a_t_planes a_t_x a_t_y a_t_d t_count t_x t_d t_y) H → va_D A (w_X0_putInOrder cI cJ cZ cQ a_t a_t_planes a_t_x a_t_y a_t_d t_count t_x t_d t_y) → va_S A s.heap H locs → ∀ ls : Array Slot, lv_has ls 3 [(0, .ref a_t), (1, .int x1), (2, .int x2)] → W p l e (headSpec wsX0_putInOrder rm_X0_putInOrder).room s m args below meth c H locs 0 0 (MQ below (qV D (tys4 cI cJ cZ cQ) (w_X0_putInOrder cI cJ cZ cQ a_t a_t_planes a_t_x a_t_y a_t_d t_count res.1 res.2.1 res.2.2) A) args s 0 0 A) (F0 m 43 ls [])
def S_X0_putInOrder_33 (p : Program) (l : Launch) (e : Env) (s : State) (m : MethodId) (args : Array Value) (below : List Frame) (meth : Method) (c : Code) (A : Nat → Prop) (D : va_G) (cI cJ cZ cQ : ClassId) (a_t a_t_planes a_t_x a_t_y a_t_d : Nat) (t_count : Int32) (res : R_X0_putInOrder) (k : (Nat → Int32) → (Nat → Int32) → (Nat → Int32) → Int32 → Option R_X0_putInOrder) : Prop := ∀ (t_x : Nat → Int32) (t_d : Nat → Int32) (t_y : Nat → Int32) (x1 : Int32), k t_x t_d t_y x1 = some res → ∀ (H : Heap) (locs : List Loc), va_P D vwCl (w_X0_putInOrder cI cJ cZ cQ a_t a_t_planes a_t_x a_t_y a_t_d t_count t_x t_d t_y) H → va_D A (w_X0_putInOrder cI cJ cZ cQ a_t a_t_planes a_t_x a_t_y a_t_d t_count t_x t_d t_y) → va_S A s.heap H locs → ∀ ls : Array Slot, lv_has ls 3 [(0, .ref a_t), (1, .int x1)] → W p l e (headSpec wsX0_putInOrder rm_X0_putInOrder).room s m args below meth c H locs 0 0 (MQ below (qV D (tys4 cI cJ cZ cQ) (w_X0_putInOrder cI cJ cZ cQ a_t a_t_planes a_t_x a_t_y a_t_d t_count res.1 res.2.1 res.2.2) A) args s 0 0 A) (F0 m 33 ls [])
def S_X0_putInOrder_2 (p : Program) (l : Launch) (e : Env) (s : State) (m : MethodId) (args : Array Value) (below : List Frame) (meth : Method) (c : Code) (A : Nat → Prop) (D : va_G) (cI cJ cZ cQ : ClassId) (a_t a_t_planes a_t_x a_t_y a_t_d : Nat) (t_count : Int32) (res : R_X0_putInOrder) (k : (Nat → Int32) → (Nat → Int32) → (Nat → Int32) → Int32 → Option R_X0_putInOrder) : Prop := ∀ (t_x : Nat → Int32) (t_d : Nat → Int32) (t_y : Nat → Int32) (x1 : Int32), k t_x t_d t_y x1 = some res → ∀ (H : Heap) (locs : List Loc), va_P D vwCl (w_X0_putInOrder cI cJ cZ cQ a_t a_t_planes a_t_x a_t_y a_t_d t_count t_x t_d t_y) H → va_D A (w_X0_putInOrder cI cJ cZ cQ a_t a_t_planes a_t_x a_t_y a_t_d t_count t_x t_d t_y) → va_S A s.heap H locs → ∀ ls : Array Slot, lv_has ls 3 [(0, .ref a_t), (1, .int x1)] → W p l e (headSpec wsX0_putInOrder rm_X0_putInOrder).room s m args below meth c H locs 0 0 (MQ below (qV D (tys4 cI cJ cZ cQ) (w_X0_putInOrder cI cJ cZ cQ a_t a_t_planes a_t_x a_t_y a_t_d t_count res.1 res.2.1 res.2.2) A) args s 0 0 A) (F0 m 2 ls [])
def S_X0_putInOrder_0 (p : Program) (l : Launch) (e : Env) (s : State) (m : MethodId) (args : Array Value) (below : List Frame) (meth : Method) (c : Code) (A : Nat → Prop) (D : va_G) (cI cJ cZ cQ : ClassId) (a_t a_t_planes a_t_x a_t_y a_t_d : Nat) (t_count : Int32) (res : R_X0_putInOrder) (k : (Nat → Int32) → (Nat → Int32) → (Nat → Int32) → Option R_X0_putInOrder) : Prop := ∀ (t_x : Nat → Int32) (t_d : Nat → Int32) (t_y : Nat → Int32), k t_x t_d t_y = some res → ∀ (H : Heap) (locs : List Loc), va_P D vwCl (w_X0_putInOrder cI cJ cZ cQ a_t a_t_planes a_t_x a_t_y a_t_d t_count t_x t_d t_y) H → va_D A (w_X0_putInOrder cI cJ cZ cQ a_t a_t_planes a_t_x a_t_y a_t_d t_count t_x t_d t_y) → va_S A s.heap H locs → ∀ ls : Array Slot, lv_has ls 3 [(0, .ref a_t)] → W p l e (headSpec wsX0_putInOrder rm_X0_putInOrder).room s m args below meth c H locs 0 0 (MQ below (qV D (tys4 cI cJ cZ cQ) (w_X0_putInOrder cI cJ cZ cQ a_t a_t_planes a_t_x a_t_y a_t_d t_count res.1 res.2.1 res.2.2) A) args s 0 0 A) (F0 m 0 ls [])
set_option maxHeartbeats 4000000 in
set_option maxRecDepth 100000 in
theorem i_X0_putInOrder_43 {p : Program} {l : Launch} {e : Env} {s : State} {m : MethodId} {args : Array Value} {below : List Frame} {meth : Method} {c : Code} {A : Nat → Prop} {D : va_G} {cI cJ cZ cQ : ClassId} {a_t a_t_planes a_t_x a_t_y a_t_d : Nat} {t_count : Int32} {res : R_X0_putInOrder}  {k33 : (Nat → Int32) → (Nat → Int32) → (Nat → Int32) → Int32 → Option R_X0_putInOrder} {k43 : (Nat → Int32) → (Nat → Int32) → (Nat → Int32) → Int32 → Int32 → Option R_X0_putInOrder} (hC : mcx RX0 cX0_putInOrder none 3 wsX0_putInOrder p s m args meth c A D (tys4 cI cJ cZ cQ))  (hk33 : S_X0_putInOrder_33 p l e s m args below meth c A D cI cJ cZ cQ a_t a_t_planes a_t_x a_t_y a_t_d t_count res k33) (hk43 : S_X0_putInOrder_43 p l e s m args below meth c A D cI cJ cZ cQ a_t a_t_planes a_t_x a_t_y a_t_d t_count res k43) : S_X0_putInOrder_43 p l e s m args below meth c A D cI cJ cZ cQ a_t a_t_planes a_t_x a_t_y a_t_d t_count res (g_X0_putInOrder_43 k33 t_count k43) := by
  intro t_x t_d t_y x1 x2 hf H locs hP hD hS ls hl
  obtain ⟨hx, hb, hr, hml, hown, hts, hlocks, hA, hK, hN⟩ := id hC
  unfold g_X0_putInOrder_43 at hf
  refine lv_iload_n hx hb dX0_putInOrder_43 rfl (lv_at hl 2 rfl) ?_
  refine lv_iconst (v := (1 : Int32)) hx hb dX0_putInOrder_44 (by decide) ?_
  refine lv_icmp_le (tgt := 75) hx hb dX0_putInOrder_45 (by decide) (fun c1 => ?_) (fun c1 => ?_)
  · replace hf := brT c1 hf
    refine lv_iinc (v := (x1 + (1 : Int32))) (lv' := [(1, .int (x1 + (1 : Int32))), (0, .ref a_t), (2, .int x2)]) hx hb dX0_putInOrder_75 hl (k := 1) rfl rfl (by decide) rfl (fun ls hl => ?_)
    refine lv_goto (tgt := 33) hx hb dX0_putInOrder_78 (by decide) ?_
    exact (hk33) t_x t_d t_y (x1 + (1 : Int32)) hf _ _ hP hD hS _ (lv_sub hl [1, 0] rfl)
  · replace hf := brF c1 hf
    refine lv_aload_n hx hb dX0_putInOrder_48 rfl (lv_at hl 0 rfl) ?_
    refine lv_iload_n hx hb dX0_putInOrder_49 rfl (lv_at hl 2 rfl) ?_
    refine lv_iconst (v := (1 : Int32)) hx hb dX0_putInOrder_50 (by decide) ?_
    refine lv_isub hx hb dX0_putInOrder_51 ?_
    refine lv_iload_n hx hb dX0_putInOrder_52 rfl (lv_at hl 2 rfl) ?_
    obtain ⟨r2, hq3, hf⟩ := bnd_of hf
    refine jnL (WB := (w_X0_putInOrder cI cJ cZ cQ a_t a_t_planes a_t_x a_t_y a_t_d t_count t_x t_d t_y)) (rnV (As := [.int (x2 - (1 : Int32)), .int x2]) (rest := []) (ci := 0) (q0 := 0) (W0 := (w_X0_turn cI cJ cZ cQ a_t a_t_planes a_t_x a_t_y a_t_d t_count t_x t_y t_d)) hx hb hml hown hts hK hN (c_X0_turn l D cI cJ cZ cQ a_t a_t_planes a_t_x a_t_y a_t_d t_count t_x t_y t_d (x2 - (1 : Int32)) x2 r2 hq3 H.size) (cwV 2 hts gX0_putInOrder_X0_turn rfl rfl rfl e_X0_turn ⟨Nat.le_of_ble_eq_true rfl, Nat.le_of_ble_eq_true rfl⟩) hP hD [0, 1, 3, 2] rfl (by decide) rfl rfl rfl rfl hl (Nat.le_of_ble_eq_true rfl) dX0_putInOrder_53 ⟨Nat.zero_le _, Nat.zero_le _⟩ rfl) hP hD hS hA [0, 1, 3, 2] [] [0, 1, 3, 2] rfl rfl (by decide) (by decide) rfl (by decide) (fun H locs hP hD hS => ?_)
    refine lv_lconst (v := (0 : Int64)) hx hb dX0_putInOrder_56 (by decide) ?_
    refine W.lcmp hx hb dX0_putInOrder_57 ?_
    refine lv_if_ge (tgt := 75) hx hb dX0_putInOrder_58 (by decide) (fun c4 => ?_) (fun c4 => ?_)
    · replace hf := brT c4 hf
      refine lv_iinc (v := (x1 + (1 : Int32))) (lv' := [(1, .int (x1 + (1 : Int32))), (0, .ref a_t), (2, .int x2)]) hx hb dX0_putInOrder_75 hl (k := 1) rfl rfl (by decide) rfl (fun ls hl => ?_)
      refine lv_goto (tgt := 33) hx hb dX0_putInOrder_78 (by decide) ?_
      exact (hk33) t_x t_d t_y (x1 + (1 : Int32)) hf _ _ hP hD hS _ (lv_sub hl [1, 0] rfl)
    · replace hf := brF c4 hf
      refine lv_aload_n hx hb dX0_putInOrder_61 rfl (lv_at hl 0 rfl) ?_
      refine lv_iload_n hx hb dX0_putInOrder_62 rfl (lv_at hl 2 rfl) ?_
      refine lv_iconst (v := (1 : Int32)) hx hb dX0_putInOrder_63 (by decide) ?_
      refine lv_isub hx hb dX0_putInOrder_64 ?_
      refine lv_iload_n hx hb dX0_putInOrder_65 rfl (lv_at hl 2 rfl) ?_
      obtain ⟨u5, u6, u7, hq8, hf⟩ := bnd3_of hf
      refine jnV (WB := (w_X0_putInOrder cI cJ cZ cQ a_t a_t_planes a_t_x a_t_y a_t_d t_count u5 u7 u6)) (rnV (As := [.int (x2 - (1 : Int32)), .int x2]) (rest := []) (ci := 0) (q0 := 0) (W0 := (w_X0_swap cI cJ cZ cQ a_t a_t_planes a_t_x a_t_y a_t_d t_count t_x t_y t_d)) hx hb hml hown hts hK hN (c_X0_swap l D cI cJ cZ cQ a_t a_t_planes a_t_x a_t_y a_t_d t_count t_x t_y t_d (x2 - (1 : Int32)) x2 (u5, u6, u7) hq8 H.size) (cwV 2 hts gX0_putInOrder_X0_swap rfl rfl rfl e_X0_swap ⟨Nat.le_of_ble_eq_true rfl, Nat.le_of_ble_eq_true rfl⟩) hP hD [0, 1, 3, 2] rfl (by decide) rfl rfl rfl rfl hl (Nat.le_of_ble_eq_true rfl) dX0_putInOrder_66 ⟨Nat.zero_le _, Nat.zero_le _⟩ rfl) hP hD hS hA [0, 1, 3, 2] [] [0, 1, 3, 2] rfl rfl (by decide) (by decide) rfl (by decide) (fun H locs hP hD hS => ?_)
      refine lv_iinc (v := (x2 + (-1 : Int32))) (lv' := [(2, .int (x2 + (-1 : Int32))), (0, .ref a_t), (1, .int x1)]) hx hb dX0_putInOrder_69 hl (k := 2) rfl rfl (by decide) rfl (fun ls hl => ?_)
      refine lv_goto (tgt := 43) hx hb dX0_putInOrder_72 (by decide) ?_
      exact (hk43) u5 u7 u6 x1 (x2 + (-1 : Int32)) hf _ _ hP hD hS _ (lv_sub hl [1, 2, 0] rfl)
theorem t_X0_putInOrder_43 {p : Program} {l : Launch} {e : Env} {s : State} {m : MethodId} {args : Array Value} {below : List Frame} {meth : Method} {c : Code} {A : Nat → Prop} {D : va_G} {cI cJ cZ cQ : ClassId} {a_t a_t_planes a_t_x a_t_y a_t_d : Nat} {t_count : Int32} {res : R_X0_putInOrder}  {k33 : (Nat → Int32) → (Nat → Int32) → (Nat → Int32) → Int32 → Option R_X0_putInOrder} (hC : mcx RX0 cX0_putInOrder none 3 wsX0_putInOrder p s m args meth c A D (tys4 cI cJ cZ cQ))  (hk33 : S_X0_putInOrder_33 p l e s m args below meth c A D cI cJ cZ cQ a_t a_t_planes a_t_x a_t_y a_t_d t_count res k33) (n : Nat) : S_X0_putInOrder_43 p l e s m args below meth c A D cI cJ cZ cQ a_t a_t_planes a_t_x a_t_y a_t_d t_count res (f_X0_putInOrder_43 k33 t_count n) := by
  induction n with
  | zero =>
    intro t_x t_d t_y x1 x2 hf
    exact nomatch (show (none : Option R_X0_putInOrder) = some res from hf)
  | succ n ih => exact i_X0_putInOrder_43 hC  hk33 ih
set_option maxHeartbeats 4000000 in
set_option maxRecDepth 100000 in
theorem i_X0_putInOrder_33 {p : Program} {l : Launch} {e : Env} {s : State} {m : MethodId} {args : Array Value} {below : List Frame} {meth : Method} {c : Code} {A : Nat → Prop} {D : va_G} {cI cJ cZ cQ : ClassId} {a_t a_t_planes a_t_x a_t_y a_t_d : Nat} {t_count : Int32} {res : R_X0_putInOrder}   {k33 : (Nat → Int32) → (Nat → Int32) → (Nat → Int32) → Int32 → Option R_X0_putInOrder} (hC : mcx RX0 cX0_putInOrder none 3 wsX0_putInOrder p s m args meth c A D (tys4 cI cJ cZ cQ))   (hk33 : S_X0_putInOrder_33 p l e s m args below meth c A D cI cJ cZ cQ a_t a_t_planes a_t_x a_t_y a_t_d t_count res k33) : S_X0_putInOrder_33 p l e s m args below meth c A D cI cJ cZ cQ a_t a_t_planes a_t_x a_t_y a_t_d t_count res (g_X0_putInOrder_33  t_count k33) := by
  intro t_x t_d t_y x1 hf H locs hP hD hS ls hl
  obtain ⟨hx, hb, hr, hml, hown, hts, hlocks, hA, hK, hN⟩ := id hC
  unfold g_X0_putInOrder_33 at hf
  refine lv_iload_n hx hb dX0_putInOrder_33 rfl (lv_at hl 1 rfl) ?_
  refine lv_aload_n hx hb dX0_putInOrder_34 rfl (lv_at hl 0 rfl) ?_
  refine va_get (D := D) (ci := 0) (v := .int t_count) (C := RX0) (T := TX0) (N := 5) hx hb hts iw_X0_putInOrder_0 hown hK hP 0 rfl rfl 4 (by decide) (hts (.fieldLink RX0 25 "PowerDiagram$Cell" "count" "I") (List.mem_of_getElem? (i := 1) rfl)) (fun _ h9 => h9) rfl dX0_putInOrder_35 ?_
  refine lv_icmp_ge (tgt := 81) hx hb dX0_putInOrder_38 (by decide) (fun c1 => ?_) (fun c1 => ?_)
  · replace hf := brT c1 hf
    obtain rfl := Option.some.inj hf
    exact endV hC hP hD hS dX0_putInOrder_81
  · replace hf := brF c1 hf
    refine lv_iload_n hx hb dX0_putInOrder_41 rfl (lv_at hl 1 rfl) ?_
    refine lv_istore_n (lv' := [(2, .int x1), (0, .ref a_t), (1, .int x1)]) hx hb dX0_putInOrder_42 rfl hl (by decide) rfl (fun ls hl => ?_)
    exact (t_X0_putInOrder_43 hC  hk33 fuel) t_x t_d t_y x1 x1 hf _ _ hP hD hS _ (lv_sub hl [1, 2, 0] rfl)
theorem t_X0_putInOrder_33 {p : Program} {l : Launch} {e : Env} {s : State} {m : MethodId} {args : Array Value} {below : List Frame} {meth : Method} {c : Code} {A : Nat → Prop} {D : va_G} {cI cJ cZ cQ : ClassId} {a_t a_t_planes a_t_x a_t_y a_t_d : Nat} {t_count : Int32} {res : R_X0_putInOrder}   (hC : mcx RX0 cX0_putInOrder none 3 wsX0_putInOrder p s m args meth c A D (tys4 cI cJ cZ cQ))   (n : Nat) : S_X0_putInOrder_33 p l e s m args below meth c A D cI cJ cZ cQ a_t a_t_planes a_t_x a_t_y a_t_d t_count res (f_X0_putInOrder_33  t_count n) := by
  induction n with
  | zero =>
    intro t_x t_d t_y x1 hf
    exact nomatch (show (none : Option R_X0_putInOrder) = some res from hf)
  | succ n ih => exact i_X0_putInOrder_33 hC   ih
set_option maxHeartbeats 4000000 in
set_option maxRecDepth 100000 in
theorem i_X0_putInOrder_2 {p : Program} {l : Launch} {e : Env} {s : State} {m : MethodId} {args : Array Value} {below : List Frame} {meth : Method} {c : Code} {A : Nat → Prop} {D : va_G} {cI cJ cZ cQ : ClassId} {a_t a_t_planes a_t_x a_t_y a_t_d : Nat} {t_count : Int32} {res : R_X0_putInOrder}   {k2 : (Nat → Int32) → (Nat → Int32) → (Nat → Int32) → Int32 → Option R_X0_putInOrder} (hC : mcx RX0 cX0_putInOrder none 3 wsX0_putInOrder p s m args meth c A D (tys4 cI cJ cZ cQ))   (hk2 : S_X0_putInOrder_2 p l e s m args below meth c A D cI cJ cZ cQ a_t a_t_planes a_t_x a_t_y a_t_d t_count res k2) : S_X0_putInOrder_2 p l e s m args below meth c A D cI cJ cZ cQ a_t a_t_planes a_t_x a_t_y a_t_d t_count res (g_X0_putInOrder_2  t_count k2) := by
  intro t_x t_d t_y x1 hf H locs hP hD hS ls hl
  obtain ⟨hx, hb, hr, hml, hown, hts, hlocks, hA, hK, hN⟩ := id hC
  unfold g_X0_putInOrder_2 at hf
  refine lv_iload_n hx hb dX0_putInOrder_2 rfl (lv_at hl 1 rfl) ?_
  refine lv_aload_n hx hb dX0_putInOrder_3 rfl (lv_at hl 0 rfl) ?_
  refine va_get (D := D) (ci := 0) (v := .int t_count) (C := RX0) (T := TX0) (N := 5) hx hb hts iw_X0_putInOrder_0 hown hK hP 0 rfl rfl 4 (by decide) (hts (.fieldLink RX0 25 "PowerDiagram$Cell" "count" "I") (List.mem_of_getElem? (i := 1) rfl)) (fun _ h9 => h9) rfl dX0_putInOrder_4 ?_
  refine lv_icmp_ge (tgt := 31) hx hb dX0_putInOrder_7 (by decide) (fun c1 => ?_) (fun c1 => ?_)
  · replace hf := brT c1 hf
    refine lv_iconst (v := (2 : Int32)) hx hb dX0_putInOrder_31 (by decide) ?_
    refine lv_istore_n (lv' := [(1, .int (2 : Int32)), (0, .ref a_t)]) hx hb dX0_putInOrder_32 rfl hl (by decide) rfl (fun ls hl => ?_)
    exact (t_X0_putInOrder_33 hC   fuel) t_x t_d t_y (2 : Int32) hf _ _ hP hD hS _ (lv_sub hl [1, 0] rfl)
  · replace hf := brF c1 hf
    refine lv_aload_n hx hb dX0_putInOrder_10 rfl (lv_at hl 0 rfl) ?_
    refine lv_iload_n hx hb dX0_putInOrder_11 rfl (lv_at hl 1 rfl) ?_
    refine lv_iconst (v := (0 : Int32)) hx hb dX0_putInOrder_12 (by decide) ?_
    obtain ⟨r2, hq3, hf⟩ := bnd_of hf
    refine jnI (WB := (w_X0_putInOrder cI cJ cZ cQ a_t a_t_planes a_t_x a_t_y a_t_d t_count t_x t_d t_y)) (rnV (As := [.int x1, .int (0 : Int32)]) (rest := []) (ci := 0) (q0 := 0) (W0 := (w_X0_isBefore cI cJ cZ cQ a_t a_t_planes a_t_x a_t_y a_t_d t_count t_x t_d t_y)) hx hb hml hown hts hK hN (c_X0_isBefore l D cI cJ cZ cQ a_t a_t_planes a_t_x a_t_y a_t_d t_count t_x t_d t_y x1 (0 : Int32) r2 hq3 H.size) (cwV 2 hts gX0_putInOrder_X0_isBefore rfl rfl rfl e_X0_isBefore ⟨Nat.le_of_ble_eq_true rfl, Nat.le_of_ble_eq_true rfl⟩) hP hD [0, 1, 2, 3] rfl (by decide) rfl rfl rfl rfl hl (Nat.le_of_ble_eq_true rfl) dX0_putInOrder_13 ⟨Nat.zero_le _, Nat.zero_le _⟩ rfl) hP hD hS hA [0, 1, 2, 3] [] [0, 1, 2, 3] rfl rfl (by decide) (by decide) rfl (by decide) (fun H locs hP hD hS => ?_)
    refine lv_if_eq (tgt := 25) hx hb dX0_putInOrder_16 (by decide) (fun c4 => ?_) (fun c4 => ?_)
    · replace hf := brT c4 hf
      refine lv_iinc (v := (x1 + (1 : Int32))) (lv' := [(1, .int (x1 + (1 : Int32))), (0, .ref a_t)]) hx hb dX0_putInOrder_25 hl (k := 1) rfl rfl (by decide) rfl (fun ls hl => ?_)
      refine lv_goto (tgt := 2) hx hb dX0_putInOrder_28 (by decide) ?_
      exact (hk2) t_x t_d t_y (x1 + (1 : Int32)) hf _ _ hP hD hS _ (lv_sub hl [1, 0] rfl)
    · replace hf := brF c4 hf
      refine lv_aload_n hx hb dX0_putInOrder_19 rfl (lv_at hl 0 rfl) ?_
      refine lv_iload_n hx hb dX0_putInOrder_20 rfl (lv_at hl 1 rfl) ?_
      refine lv_iconst (v := (0 : Int32)) hx hb dX0_putInOrder_21 (by decide) ?_
      obtain ⟨u5, u6, u7, hq8, hf⟩ := bnd3_of hf
      refine jnV (WB := (w_X0_putInOrder cI cJ cZ cQ a_t a_t_planes a_t_x a_t_y a_t_d t_count u5 u7 u6)) (rnV (As := [.int x1, .int (0 : Int32)]) (rest := []) (ci := 0) (q0 := 0) (W0 := (w_X0_swap cI cJ cZ cQ a_t a_t_planes a_t_x a_t_y a_t_d t_count t_x t_y t_d)) hx hb hml hown hts hK hN (c_X0_swap l D cI cJ cZ cQ a_t a_t_planes a_t_x a_t_y a_t_d t_count t_x t_y t_d x1 (0 : Int32) (u5, u6, u7) hq8 H.size) (cwV 2 hts gX0_putInOrder_X0_swap rfl rfl rfl e_X0_swap ⟨Nat.le_of_ble_eq_true rfl, Nat.le_of_ble_eq_true rfl⟩) hP hD [0, 1, 3, 2] rfl (by decide) rfl rfl rfl rfl hl (Nat.le_of_ble_eq_true rfl) dX0_putInOrder_22 ⟨Nat.zero_le _, Nat.zero_le _⟩ rfl) hP hD hS hA [0, 1, 3, 2] [] [0, 1, 3, 2] rfl rfl (by decide) (by decide) rfl (by decide) (fun H locs hP hD hS => ?_)
      refine lv_iinc (v := (x1 + (1 : Int32))) (lv' := [(1, .int (x1 + (1 : Int32))), (0, .ref a_t)]) hx hb dX0_putInOrder_25 hl (k := 1) rfl rfl (by decide) rfl (fun ls hl => ?_)
      refine lv_goto (tgt := 2) hx hb dX0_putInOrder_28 (by decide) ?_
      exact (hk2) u5 u7 u6 (x1 + (1 : Int32)) hf _ _ hP hD hS _ (lv_sub hl [1, 0] rfl)
theorem t_X0_putInOrder_2 {p : Program} {l : Launch} {e : Env} {s : State} {m : MethodId} {args : Array Value} {below : List Frame} {meth : Method} {c : Code} {A : Nat → Prop} {D : va_G} {cI cJ cZ cQ : ClassId} {a_t a_t_planes a_t_x a_t_y a_t_d : Nat} {t_count : Int32} {res : R_X0_putInOrder}   (hC : mcx RX0 cX0_putInOrder none 3 wsX0_putInOrder p s m args meth c A D (tys4 cI cJ cZ cQ))   (n : Nat) : S_X0_putInOrder_2 p l e s m args below meth c A D cI cJ cZ cQ a_t a_t_planes a_t_x a_t_y a_t_d t_count res (f_X0_putInOrder_2  t_count n) := by
  induction n with
  | zero =>
    intro t_x t_d t_y x1 hf
    exact nomatch (show (none : Option R_X0_putInOrder) = some res from hf)
  | succ n ih => exact i_X0_putInOrder_2 hC   ih
set_option maxHeartbeats 4000000 in
set_option maxRecDepth 100000 in
theorem t_X0_putInOrder_0 {p : Program} {l : Launch} {e : Env} {s : State} {m : MethodId} {args : Array Value} {below : List Frame} {meth : Method} {c : Code} {A : Nat → Prop} {D : va_G} {cI cJ cZ cQ : ClassId} {a_t a_t_planes a_t_x a_t_y a_t_d : Nat} {t_count : Int32} {res : R_X0_putInOrder}   (hC : mcx RX0 cX0_putInOrder none 3 wsX0_putInOrder p s m args meth c A D (tys4 cI cJ cZ cQ))   : S_X0_putInOrder_0 p l e s m args below meth c A D cI cJ cZ cQ a_t a_t_planes a_t_x a_t_y a_t_d t_count res (f_X0_putInOrder_0  t_count) := by
  intro t_x t_d t_y hf H locs hP hD hS ls hl
  obtain ⟨hx, hb, hr, hml, hown, hts, hlocks, hA, hK, hN⟩ := id hC
  unfold f_X0_putInOrder_0 at hf
  refine lv_iconst (v := (1 : Int32)) hx hb dX0_putInOrder_0 (by decide) ?_
  refine lv_istore_n (lv' := [(1, .int (1 : Int32)), (0, .ref a_t)]) hx hb dX0_putInOrder_1 rfl hl (by decide) rfl (fun ls hl => ?_)
  exact (t_X0_putInOrder_2 hC   fuel) t_x t_d t_y (1 : Int32) hf _ _ hP hD hS _ (lv_sub hl [1, 0] rfl)
theorem c_X0_putInOrder (l : Launch) (D : va_G) (cI cJ cZ cQ : ClassId) (a_t a_t_planes a_t_x a_t_y a_t_d : Nat) (t_count : Int32) (t_x : Nat → Int32) (t_d : Nat → Int32) (t_y : Nat → Int32)   (res : R_X0_putInOrder)  (hf : f_X0_putInOrder_0 t_count t_x t_d t_y = some res) : MetV l D (tys4 cI cJ cZ cQ) yX0_putInOrder wsX0_putInOrder rm_X0_putInOrder [.ref a_t] (w_X0_putInOrder cI cJ cZ cQ a_t a_t_planes a_t_x a_t_y a_t_d t_count t_x t_d t_y) (w_X0_putInOrder cI cJ cZ cQ a_t a_t_planes a_t_x a_t_y a_t_d t_count res.1 res.2.1 res.2.2) := by
  intro sz
  exact metW (own := RX0) (cc := cX0_putInOrder) (nL := 3) (ret := none) (Qc := fun A => qV D (tys4 cI cJ cZ cQ) (w_X0_putInOrder cI cJ cZ cQ a_t a_t_planes a_t_x a_t_y a_t_d t_count res.1 res.2.1 res.2.2) A) (by decide) rfl rfl (Nat.le_of_ble_eq_true rfl) (fun p e s m args below meth c A hC hP hD hS ls hl => t_X0_putInOrder_0 hC  t_x t_d t_y hf _ _ hP hD hS _ (lv_sub hl [0] rfl)) sz
theorem e_X0_putInOrder : yX0_putInOrder.cls = RX0 ∧ yX0_putInOrder.cls ≠ "java/lang/invoke/MethodHandle" ∧ yX0_putInOrder.cls ≠ "java/lang/invoke/VarHandle" ∧ (parseMethodDescriptor yX0_putInOrder.desc).map (fun d => d.parameters.length) = some 0 := by decide +kernel
/-! X0_coordinate -/
theorem iw_X0_coordinate_0 : ∀ w ∈ wsX00, w ∈ wsX0_coordinate := fun _ h => List.mem_cons_of_mem _ (List.mem_append_right _ h)
def w_X0_coordinate (cI cJ cZ cQ : ClassId) (a_t a_t_planes a_t_x a_t_y a_t_d : Nat) (t_count : Int32) (t_x : Nat → Int32) (t_y : Nat → Int32) : va_W := [(a_t, .inr (0, [.ref a_t_planes, .ref a_t_x, .ref a_t_y, .ref a_t_d, .int t_count])), (a_t_x, .inl (cI, 14, .inl t_x)), (a_t_y, .inl (cI, 14, .inl t_y))]
abbrev rm_X0_coordinate : Room := { frames := 0, cells := 0, slots := 0, locals := 0 }
def S_X0_coordinate_0 (p : Program) (l : Launch) (e : Env) (s : State) (m : MethodId) (args : Array Value) (below : List Frame) (meth : Method) (c : Code) (A : Nat → Prop) (D : va_G) (cI cJ cZ cQ : ClassId) (a_t a_t_planes a_t_x a_t_y a_t_d : Nat) (t_count : Int32) (t_x : Nat → Int32) (t_y : Nat → Int32) (res : R_X0_coordinate) (k : Int32 → Int32 → Option R_X0_coordinate) : Prop := ∀ (x1 : Int32) (x2 : Int32), k x1 x2 = some res → ∀ (H : Heap) (locs : List Loc), va_P D vwCl (w_X0_coordinate cI cJ cZ cQ a_t a_t_planes a_t_x a_t_y a_t_d t_count t_x t_y) H → va_D A (w_X0_coordinate cI cJ cZ cQ a_t a_t_planes a_t_x a_t_y a_t_d t_count t_x t_y) → va_S A s.heap H locs → ∀ ls : Array Slot, lv_has ls 3 [(0, .ref a_t), (1, .int x1), (2, .int x2)] → W p l e (headSpec wsX0_coordinate rm_X0_coordinate).room s m args below meth c H locs 0 0 (MQ below (qI D (tys4 cI cJ cZ cQ) (w_X0_coordinate cI cJ cZ cQ a_t a_t_planes a_t_x a_t_y a_t_d t_count t_x t_y) A res) args s 0 0 A) (F0 m 0 ls [])
set_option maxHeartbeats 4000000 in
set_option maxRecDepth 100000 in
theorem t_X0_coordinate_0 {p : Program} {l : Launch} {e : Env} {s : State} {m : MethodId} {args : Array Value} {below : List Frame} {meth : Method} {c : Code} {A : Nat → Prop} {D : va_G} {cI cJ cZ cQ : ClassId} {a_t a_t_planes a_t_x a_t_y a_t_d : Nat} {t_count : Int32} {t_x : Nat → Int32} {t_y : Nat → Int32} {res : R_X0_coordinate}   (hC : mcx RX0 cX0_coordinate (some .int) 3 wsX0_coordinate p s m args meth c A D (tys4 cI cJ cZ cQ))   : S_X0_coordinate_0 p l e s m args below meth c A D cI cJ cZ cQ a_t a_t_planes a_t_x a_t_y a_t_d t_count t_x t_y res (f_X0_coordinate_0  t_x t_y) := by
  intro x1 x2 hf H locs hP hD hS ls hl
  obtain ⟨hx, hb, hr, hml, hown, hts, hlocks, hA, hK, hN⟩ := id hC
  unfold f_X0_coordinate_0 at hf
  refine lv_iload_n hx hb dX0_coordinate_0 rfl (lv_at hl 2 rfl) ?_
  refine lv_if_ne (tgt := 13) hx hb dX0_coordinate_1 (by decide) (fun c1 => ?_) (fun c1 => ?_)
  · replace hf := brF c1 hf
    refine lv_aload_n hx hb dX0_coordinate_13 rfl (lv_at hl 0 rfl) ?_
    refine va_get (D := D) (ci := 0) (v := .ref a_t_y) (C := RX0) (T := TX0) (N := 5) hx hb hts iw_X0_coordinate_0 hown hK hP 0 rfl rfl 2 (by decide) (hts (.fieldLink RX0 19 "PowerDiagram$Cell" "y" "[I") (List.mem_of_getElem? (i := 2) rfl)) (fun _ h9 => h9) rfl dX0_coordinate_14 ?_
    refine lv_iload_n hx hb dX0_coordinate_17 rfl (lv_at hl 1 rfl) ?_
    obtain ⟨h2, hf⟩ := gIx_of hf
    refine va_iald hx hb hK hP 2 0 rfl rfl h2 dX0_coordinate_18 ?_
    obtain rfl := Option.some.inj hf
    exact endI (ty := .int) hC (nzI _) rfl hP hD hS dX0_coordinate_19
  · replace hf := brT c1 hf
    refine lv_aload_n hx hb dX0_coordinate_4 rfl (lv_at hl 0 rfl) ?_
    refine va_get (D := D) (ci := 0) (v := .ref a_t_x) (C := RX0) (T := TX0) (N := 5) hx hb hts iw_X0_coordinate_0 hown hK hP 0 rfl rfl 1 (by decide) (hts (.fieldLink RX0 15 "PowerDiagram$Cell" "x" "[I") (List.mem_of_getElem? (i := 1) rfl)) (fun _ h9 => h9) rfl dX0_coordinate_5 ?_
    refine lv_iload_n hx hb dX0_coordinate_8 rfl (lv_at hl 1 rfl) ?_
    obtain ⟨h3, hf⟩ := gIx_of hf
    refine va_iald hx hb hK hP 1 0 rfl rfl h3 dX0_coordinate_9 ?_
    refine lv_goto (tgt := 19) hx hb dX0_coordinate_10 (by decide) ?_
    obtain rfl := Option.some.inj hf
    exact endI (ty := .int) hC (nzI _) rfl hP hD hS dX0_coordinate_19
theorem c_X0_coordinate (l : Launch) (D : va_G) (cI cJ cZ cQ : ClassId) (a_t a_t_planes a_t_x a_t_y a_t_d : Nat) (t_count : Int32) (t_x : Nat → Int32) (t_y : Nat → Int32) (p0 : Int32) (p1 : Int32)  (res : R_X0_coordinate)  (hf : f_X0_coordinate_0 t_x t_y p0 p1 = some res) : MetI l D (tys4 cI cJ cZ cQ) yX0_coordinate wsX0_coordinate rm_X0_coordinate [.ref a_t, .int p0, .int p1] (w_X0_coordinate cI cJ cZ cQ a_t a_t_planes a_t_x a_t_y a_t_d t_count t_x t_y) (w_X0_coordinate cI cJ cZ cQ a_t a_t_planes a_t_x a_t_y a_t_d t_count t_x t_y) res := by
  intro sz
  exact metW (own := RX0) (cc := cX0_coordinate) (nL := 3) (ret := (some .int)) (Qc := fun A => qI D (tys4 cI cJ cZ cQ) (w_X0_coordinate cI cJ cZ cQ a_t a_t_planes a_t_x a_t_y a_t_d t_count t_x t_y) A res) (by decide) rfl rfl (Nat.le_of_ble_eq_true rfl) (fun p e s m args below meth c A hC hP hD hS ls hl => t_X0_coordinate_0 hC  p0 p1 hf _ _ hP hD hS _ (lv_sub hl [0, 1, 2] rfl)) sz
theorem e_X0_coordinate : yX0_coordinate.cls = RX0 ∧ yX0_coordinate.cls ≠ "java/lang/invoke/MethodHandle" ∧ yX0_coordinate.cls ≠ "java/lang/invoke/VarHandle" ∧ (parseMethodDescriptor yX0_coordinate.desc).map (fun d => d.parameters.length) = some 2 := by decide +kernel
/-! X0_commonDivisor -/
theorem iw_X0_commonDivisor_0 : ∀ w ∈ wsX00, w ∈ wsX0_commonDivisor := fun _ h => List.mem_cons_of_mem _ (List.mem_append_right _ h)
def w_X0_commonDivisor (cI cJ cZ cQ : ClassId) (a_t a_t_planes a_t_x a_t_y a_t_d : Nat) (t_count : Int32) (t_d : Nat → Int32) (t_x : Nat → Int32) (t_y : Nat → Int32) : va_W := [(a_t, .inr (0, [.ref a_t_planes, .ref a_t_x, .ref a_t_y, .ref a_t_d, .int t_count])), (a_t_d, .inl (cI, 14, .inl t_d)), (a_t_x, .inl (cI, 14, .inl t_x)), (a_t_y, .inl (cI, 14, .inl t_y))]
abbrev rm_X0_commonDivisor : Room := { frames := 1, cells := 0, slots := 0, locals := 22 }
def S_X0_commonDivisor_49 (p : Program) (l : Launch) (e : Env) (s : State) (m : MethodId) (args : Array Value) (below : List Frame) (meth : Method) (c : Code) (A : Nat → Prop) (D : va_G) (cI cJ cZ cQ : ClassId) (a_t a_t_planes a_t_x a_t_y a_t_d : Nat) (t_count : Int32) (t_d : Nat → Int32) (t_x : Nat → Int32) (t_y : Nat → Int32) (res : R_X0_commonDivisor) (k : Int32 → Option R_X0_commonDivisor) : Prop := ∀ (x3 : Int32), k x3 = some res → ∀ (H : Heap) (locs : List Loc), va_P D vwCl (w_X0_commonDivisor cI cJ cZ cQ a_t a_t_planes a_t_x a_t_y a_t_d t_count t_d t_x t_y) H → va_D A (w_X0_commonDivisor cI cJ cZ cQ a_t a_t_planes a_t_x a_t_y a_t_d t_count t_d t_x t_y) → va_S A s.heap H locs → ∀ ls : Array Slot, lv_has ls 7 [(3, .int x3)] → W p l e (headSpec wsX0_commonDivisor rm_X0_commonDivisor).room s m args below meth c H locs 0 0 (MQ below (qI D (tys4 cI cJ cZ cQ) (w_X0_commonDivisor cI cJ cZ cQ a_t a_t_planes a_t_x a_t_y a_t_d t_count t_d t_x t_y) A res) args s 0 0 A) (F0 m 49 ls [])
def S_X0_commonDivisor_18 (p : Program) (l : Launch) (e : Env) (s : State) (m : MethodId) (args : Array Value) (below : List Frame) (meth : Method) (c : Code) (A : Nat → Prop) (D : va_G) (cI cJ cZ cQ : ClassId) (a_t a_t_planes a_t_x a_t_y a_t_d : Nat) (t_count : Int32) (t_d : Nat → Int32) (t_x : Nat → Int32) (t_y : Nat → Int32) (res : R_X0_commonDivisor) (k : Int32 → Int32 → Int32 → Option R_X0_commonDivisor) : Prop := ∀ (x3 : Int32) (x4 : Int32) (x5 : Int32), k x3 x4 x5 = some res → ∀ (H : Heap) (locs : List Loc), va_P D vwCl (w_X0_commonDivisor cI cJ cZ cQ a_t a_t_planes a_t_x a_t_y a_t_d t_count t_d t_x t_y) H → va_D A (w_X0_commonDivisor cI cJ cZ cQ a_t a_t_planes a_t_x a_t_y a_t_d t_count t_d t_x t_y) → va_S A s.heap H locs → ∀ ls : Array Slot, lv_has ls 7 [(3, .int x3), (4, .int x4), (5, .int x5)] → W p l e (headSpec wsX0_commonDivisor rm_X0_commonDivisor).room s m args below meth c H locs 0 0 (MQ below (qI D (tys4 cI cJ cZ cQ) (w_X0_commonDivisor cI cJ cZ cQ a_t a_t_planes a_t_x a_t_y a_t_d t_count t_d t_x t_y) A res) args s 0 0 A) (F0 m 18 ls [])
def S_X0_commonDivisor_0 (p : Program) (l : Launch) (e : Env) (s : State) (m : MethodId) (args : Array Value) (below : List Frame) (meth : Method) (c : Code) (A : Nat → Prop) (D : va_G) (cI cJ cZ cQ : ClassId) (a_t a_t_planes a_t_x a_t_y a_t_d : Nat) (t_count : Int32) (t_d : Nat → Int32) (t_x : Nat → Int32) (t_y : Nat → Int32) (res : R_X0_commonDivisor) (k : Int32 → Int32 → Option R_X0_commonDivisor) : Prop := ∀ (x1 : Int32) (x2 : Int32), k x1 x2 = some res → ∀ (H : Heap) (locs : List Loc), va_P D vwCl (w_X0_commonDivisor cI cJ cZ cQ a_t a_t_planes a_t_x a_t_y a_t_d t_count t_d t_x t_y) H → va_D A (w_X0_commonDivisor cI cJ cZ cQ a_t a_t_planes a_t_x a_t_y a_t_d t_count t_d t_x t_y) → va_S A s.heap H locs → ∀ ls : Array Slot, lv_has ls 7 [(0, .ref a_t), (1, .int x1), (2, .int x2)] → W p l e (headSpec wsX0_commonDivisor rm_X0_commonDivisor).room s m args below meth c H locs 0 0 (MQ below (qI D (tys4 cI cJ cZ cQ) (w_X0_commonDivisor cI cJ cZ cQ a_t a_t_planes a_t_x a_t_y a_t_d t_count t_d t_x t_y) A res) args s 0 0 A) (F0 m 0 ls [])
set_option maxHeartbeats 4000000 in
set_option maxRecDepth 100000 in
theorem t_X0_commonDivisor_49 {p : Program} {l : Launch} {e : Env} {s : State} {m : MethodId} {args : Array Value} {below : List Frame} {meth : Method} {c : Code} {A : Nat → Prop} {D : va_G} {cI cJ cZ cQ : ClassId} {a_t a_t_planes a_t_x a_t_y a_t_d : Nat} {t_count : Int32} {t_d : Nat → Int32} {t_x : Nat → Int32} {t_y : Nat → Int32} {res : R_X0_commonDivisor}   (hC : mcx RX0 cX0_commonDivisor (some .int) 7 wsX0_commonDivisor p s m args meth c A D (tys4 cI cJ cZ cQ))   : S_X0_commonDivisor_49 p l e s m args below meth c A D cI cJ cZ cQ a_t a_t_planes a_t_x a_t_y a_t_d t_count t_d t_x t_y res (f_X0_commonDivisor_49  t_d t_x t_y) := by
  intro x3 hf H locs hP hD hS ls hl
  obtain ⟨hx, hb, hr, hml, hown, hts, hlocks, hA, hK, hN⟩ := id hC
  unfold f_X0_commonDivisor_49 at hf
  refine lv_iload_n hx hb dX0_commonDivisor_49 rfl (lv_at hl 0 rfl) ?_
  refine lv_iconst (v := (1 : Int32)) hx hb dX0_commonDivisor_50 (by decide) ?_
  refine va_mmax hx hb (hml.trans hl.1.symm) hown (hts (.methodLink RX0 88 Lib.Math.max.name) (List.mem_of_getElem? (i := 2) rfl)) (hts (.static Lib.Math.max.name) (List.mem_of_getElem? (i := 3) rfl)) (hts (.initialized "java/lang/Math") (List.mem_of_getElem? (i := 4) rfl)) (hts _ (List.mem_of_getElem? (i := 5) rfl)) (Nat.le_of_ble_eq_true rfl) (Nat.le_of_ble_eq_true rfl) (Nat.zero_le _) (Nat.zero_le _) dX0_commonDivisor_51 ?_
  refine lv_topi (fun v1 ev1 => ?_)
  replace hf := nm_of ev1 hf
  obtain rfl := Option.some.inj hf
  exact endI (ty := .int) hC (nzI _) rfl hP hD hS dX0_commonDivisor_54
set_option maxHeartbeats 4000000 in
set_option maxRecDepth 100000 in
theorem i_X0_commonDivisor_18 {p : Program} {l : Launch} {e : Env} {s : State} {m : MethodId} {args : Array Value} {below : List Frame} {meth : Method} {c : Code} {A : Nat → Prop} {D : va_G} {cI cJ cZ cQ : ClassId} {a_t a_t_planes a_t_x a_t_y a_t_d : Nat} {t_count : Int32} {t_d : Nat → Int32} {t_x : Nat → Int32} {t_y : Nat → Int32} {res : R_X0_commonDivisor}   {k18 : Int32 → Int32 → Int32 → Option R_X0_commonDivisor} (hC : mcx RX0 cX0_commonDivisor (some .int) 7 wsX0_commonDivisor p s m args meth c A D (tys4 cI cJ cZ cQ))   (hk18 : S_X0_commonDivisor_18 p l e s m args below meth c A D cI cJ cZ cQ a_t a_t_planes a_t_x a_t_y a_t_d t_count t_d t_x t_y res k18) : S_X0_commonDivisor_18 p l e s m args below meth c A D cI cJ cZ cQ a_t a_t_planes a_t_x a_t_y a_t_d t_count t_d t_x t_y res (g_X0_commonDivisor_18  t_d t_x t_y k18) := by
  intro x3 x4 x5 hf H locs hP hD hS ls hl
  obtain ⟨hx, hb, hr, hml, hown, hts, hlocks, hA, hK, hN⟩ := id hC
  unfold g_X0_commonDivisor_18 at hf
  refine lv_iload hx hb dX0_commonDivisor_18 (lv_at hl 2 rfl) ?_
  refine lv_bipush (v := (50 : Int32)) hx hb dX0_commonDivisor_20 (by decide) ?_
  refine lv_icmp_ge (tgt := 49) hx hb dX0_commonDivisor_22 (by decide) (fun c1 => ?_) (fun c1 => ?_)
  · replace hf := brT c1 hf
    exact (t_X0_commonDivisor_49 hC  ) x3 hf _ _ hP hD hS _ (lv_sub hl [0] rfl)
  · replace hf := brF c1 hf
    refine lv_iload hx hb dX0_commonDivisor_25 (lv_at hl 1 rfl) ?_
    refine lv_if_eq (tgt := 49) hx hb dX0_commonDivisor_27 (by decide) (fun c2 => ?_) (fun c2 => ?_)
    · replace hf := brT c2 hf
      exact (t_X0_commonDivisor_49 hC  ) x3 hf _ _ hP hD hS _ (lv_sub hl [0] rfl)
    · replace hf := brF c2 hf
      refine lv_iload_n hx hb dX0_commonDivisor_30 rfl (lv_at hl 0 rfl) ?_
      refine lv_iload hx hb dX0_commonDivisor_31 (lv_at hl 1 rfl) ?_
      obtain ⟨hz3, hf⟩ := gNz_of hf
      refine lv_irem hx hb dX0_commonDivisor_33 hz3 ?_
      refine lv_topi (fun v4 ev4 => ?_)
      replace hf := nm_of ev4 hf
      refine lv_istore (lv' := [(6, .int v4), (3, .int x3), (4, .int x4), (5, .int x5)]) hx hb dX0_commonDivisor_34 hl (by decide) rfl (fun ls hl => ?_)
      refine lv_iload hx hb dX0_commonDivisor_36 (lv_at hl 2 rfl) ?_
      refine lv_istore_n (lv' := [(3, .int x4), (6, .int v4), (4, .int x4), (5, .int x5)]) hx hb dX0_commonDivisor_38 rfl hl (by decide) rfl (fun ls hl => ?_)
      refine lv_iload hx hb dX0_commonDivisor_39 (lv_at hl 1 rfl) ?_
      refine lv_istore (lv' := [(4, .int v4), (3, .int x4), (6, .int v4), (5, .int x5)]) hx hb dX0_commonDivisor_41 hl (by decide) rfl (fun ls hl => ?_)
      refine lv_iinc (v := (x5 + (1 : Int32))) (lv' := [(5, .int (x5 + (1 : Int32))), (4, .int v4), (3, .int x4), (6, .int v4)]) hx hb dX0_commonDivisor_43 hl (k := 3) rfl rfl (by decide) rfl (fun ls hl => ?_)
      refine lv_goto (tgt := 18) hx hb dX0_commonDivisor_46 (by decide) ?_
      exact (hk18) x4 v4 (x5 + (1 : Int32)) hf _ _ hP hD hS _ (lv_sub hl [2, 1, 0] rfl)
theorem t_X0_commonDivisor_18 {p : Program} {l : Launch} {e : Env} {s : State} {m : MethodId} {args : Array Value} {below : List Frame} {meth : Method} {c : Code} {A : Nat → Prop} {D : va_G} {cI cJ cZ cQ : ClassId} {a_t a_t_planes a_t_x a_t_y a_t_d : Nat} {t_count : Int32} {t_d : Nat → Int32} {t_x : Nat → Int32} {t_y : Nat → Int32} {res : R_X0_commonDivisor}   (hC : mcx RX0 cX0_commonDivisor (some .int) 7 wsX0_commonDivisor p s m args meth c A D (tys4 cI cJ cZ cQ))   (n : Nat) : S_X0_commonDivisor_18 p l e s m args below meth c A D cI cJ cZ cQ a_t a_t_planes a_t_x a_t_y a_t_d t_count t_d t_x t_y res (f_X0_commonDivisor_18  t_d t_x t_y n) := by
  induction n with
  | zero =>
    intro x3 x4 x5 hf
    exact nomatch (show (none : Option R_X0_commonDivisor) = some res from hf)
  | succ n ih => exact i_X0_commonDivisor_18 hC   ih
set_option maxHeartbeats 4000000 in
set_option maxRecDepth 100000 in
theorem t_X0_commonDivisor_0 {p : Program} {l : Launch} {e : Env} {s : State} {m : MethodId} {args : Array Value} {below : List Frame} {meth : Method} {c : Code} {A : Nat → Prop} {D : va_G} {cI cJ cZ cQ : ClassId} {a_t a_t_planes a_t_x a_t_y a_t_d : Nat} {t_count : Int32} {t_d : Nat → Int32} {t_x : Nat → Int32} {t_y : Nat → Int32} {res : R_X0_commonDivisor}   (hC : mcx RX0 cX0_commonDivisor (some .int) 7 wsX0_commonDivisor p s m args meth c A D (tys4 cI cJ cZ cQ))   : S_X0_commonDivisor_0 p l e s m args below meth c A D cI cJ cZ cQ a_t a_t_planes a_t_x a_t_y a_t_d t_count t_d t_x t_y res (f_X0_commonDivisor_0  t_d t_x t_y) := by
  intro x1 x2 hf H locs hP hD hS ls hl
  obtain ⟨hx, hb, hr, hml, hown, hts, hlocks, hA, hK, hN⟩ := id hC
  unfold f_X0_commonDivisor_0 at hf
  refine lv_aload_n hx hb dX0_commonDivisor_0 rfl (lv_at hl 0 rfl) ?_
  refine va_get (D := D) (ci := 0) (v := .ref a_t_d) (C := RX0) (T := TX0) (N := 5) hx hb hts iw_X0_commonDivisor_0 hown hK hP 0 rfl rfl 3 (by decide) (hts (.fieldLink RX0 22 "PowerDiagram$Cell" "d" "[I") (List.mem_of_getElem? (i := 1) rfl)) (fun _ h9 => h9) rfl dX0_commonDivisor_1 ?_
  refine lv_iload_n hx hb dX0_commonDivisor_4 rfl (lv_at hl 1 rfl) ?_
  obtain ⟨h1, hf⟩ := gIx_of hf
  refine va_iald hx hb hK hP 1 0 rfl rfl h1 dX0_commonDivisor_5 ?_
  refine lv_topi (fun v2 ev2 => ?_)
  replace hf := nm_of ev2 hf
  refine lv_istore_n (lv' := [(3, .int v2), (0, .ref a_t), (1, .int x1), (2, .int x2)]) hx hb dX0_commonDivisor_6 rfl hl (by decide) rfl (fun ls hl => ?_)
  refine lv_aload_n hx hb dX0_commonDivisor_7 rfl (lv_at hl 1 rfl) ?_
  refine lv_iload_n hx hb dX0_commonDivisor_8 rfl (lv_at hl 2 rfl) ?_
  refine lv_iload_n hx hb dX0_commonDivisor_9 rfl (lv_at hl 3 rfl) ?_
  obtain ⟨r3, hq4, hf⟩ := bnd_of hf
  refine jnI (WB := (w_X0_commonDivisor cI cJ cZ cQ a_t a_t_planes a_t_x a_t_y a_t_d t_count t_d t_x t_y)) (rnV (As := [.int x1, .int x2]) (rest := []) (ci := 0) (q0 := 0) (W0 := (w_X0_coordinate cI cJ cZ cQ a_t a_t_planes a_t_x a_t_y a_t_d t_count t_x t_y)) hx hb hml hown hts hK hN (c_X0_coordinate l D cI cJ cZ cQ a_t a_t_planes a_t_x a_t_y a_t_d t_count t_x t_y x1 x2 r3 hq4 H.size) (cwV 2 hts gX0_commonDivisor_X0_coordinate rfl rfl rfl e_X0_coordinate ⟨Nat.le_of_ble_eq_true rfl, Nat.le_of_ble_eq_true rfl⟩) hP hD [0, 2, 3] rfl (by decide) rfl rfl rfl rfl hl (Nat.le_of_ble_eq_true rfl) dX0_commonDivisor_10 ⟨Nat.zero_le _, Nat.zero_le _⟩ rfl) hP hD hS hA [0, 2, 3] [1] [1, 0, 2, 3] rfl rfl (by decide) (by decide) rfl (by decide) (fun H locs hP hD hS => ?_)
  refine lv_istore (lv' := [(4, .int r3), (3, .int v2), (0, .ref a_t), (1, .int x1), (2, .int x2)]) hx hb dX0_commonDivisor_13 hl (by decide) rfl (fun ls hl => ?_)
  refine lv_iconst (v := (0 : Int32)) hx hb dX0_commonDivisor_15 (by decide) ?_
  refine lv_istore (lv' := [(5, .int (0 : Int32)), (4, .int r3), (3, .int v2), (0, .ref a_t), (1, .int x1), (2, .int x2)]) hx hb dX0_commonDivisor_16 hl (by decide) rfl (fun ls hl => ?_)
  exact (t_X0_commonDivisor_18 hC   fuel) v2 r3 (0 : Int32) hf _ _ hP hD hS _ (lv_sub hl [2, 1, 0] rfl)
theorem c_X0_commonDivisor (l : Launch) (D : va_G) (cI cJ cZ cQ : ClassId) (a_t a_t_planes a_t_x a_t_y a_t_d : Nat) (t_count : Int32) (t_d : Nat → Int32) (t_x : Nat → Int32) (t_y : Nat → Int32) (p0 : Int32) (p1 : Int32)  (res : R_X0_commonDivisor)  (hf : f_X0_commonDivisor_0 t_d t_x t_y p0 p1 = some res) : MetI l D (tys4 cI cJ cZ cQ) yX0_commonDivisor wsX0_commonDivisor rm_X0_commonDivisor [.ref a_t, .int p0, .int p1] (w_X0_commonDivisor cI cJ cZ cQ a_t a_t_planes a_t_x a_t_y a_t_d t_count t_d t_x t_y) (w_X0_commonDivisor cI cJ cZ cQ a_t a_t_planes a_t_x a_t_y a_t_d t_count t_d t_x t_y) res := by
  intro sz
  exact metW (own := RX0) (cc := cX0_commonDivisor) (nL := 7) (ret := (some .int)) (Qc := fun A => qI D (tys4 cI cJ cZ cQ) (w_X0_commonDivisor cI cJ cZ cQ a_t a_t_planes a_t_x a_t_y a_t_d t_count t_d t_x t_y) A res) (by decide) rfl rfl (Nat.le_of_ble_eq_true rfl) (fun p e s m args below meth c A hC hP hD hS ls hl => t_X0_commonDivisor_0 hC  p0 p1 hf _ _ hP hD hS _ (lv_sub hl [0, 1, 2] rfl)) sz
theorem e_X0_commonDivisor : yX0_commonDivisor.cls = RX0 ∧ yX0_commonDivisor.cls ≠ "java/lang/invoke/MethodHandle" ∧ yX0_commonDivisor.cls ≠ "java/lang/invoke/VarHandle" ∧ (parseMethodDescriptor yX0_commonDivisor.desc).map (fun d => d.parameters.length) = some 2 := by decide +kernel
