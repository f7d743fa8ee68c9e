abbrev rm_L_alike : Room := { frames := 7, cells := 0, slots := 0, locals := 169 }
def S_L_alike_144 (p : Program) (l : Launch) (e : Env) (s : State) (m : MethodId) (args : Array Value) (below : List Frame) (meth : Method) (c : Code) (A : Nat → Prop) (D : va_G) (cI cJ cZ cQ : ClassId) (a_p0 a_p1 : AB) (res : R_L_alike) (k : ST → ST → Int32 → Int32 → Option R_L_alike) : Prop := ∀ (s_p0 : ST) (s_p1 : ST) (x3 : Int32) (x4 : Int32), k s_p0 s_p1 x3 x4 = some res → ∀ (H : Heap) (locs : List Loc), va_P D vwCl (wB cI cJ cZ cQ a_p0 s_p0 ++ wB cI cJ cZ cQ a_p1 s_p1) H → va_D A (wB cI cJ cZ cQ a_p0 s_p0 ++ wB cI cJ cZ cQ a_p1 s_p1) → va_S A s.heap H locs → ∀ ls : Array Slot, lv_has ls 5 [(0, .ref (a_p0.1 0)), (1, .ref (a_p1.1 0)), (3, .int x3), (4, .int x4)] → W p l e (headSpec wsL_alike rm_L_alike).room s m args below meth c H locs 0 0 (MQ below (qI D (tys4 cI cJ cZ cQ) (wB cI cJ cZ cQ a_p0 res.2.1 ++ wB cI cJ cZ cQ a_p1 res.2.2) A res.1) args s 0 0 A) (F0 m 144 ls [])
def S_L_alike_0 (p : Program) (l : Launch) (e : Env) (s : State) (m : MethodId) (args : Array Value) (below : List Frame) (meth : Method) (c : Code) (A : Nat → Prop) (D : va_G) (cI cJ cZ cQ : ClassId) (a_p0 a_p1 : AB) (res : R_L_alike) (k : ST → ST → Int32 → Option R_L_alike) : Prop := ∀ (s_p0 : ST) (s_p1 : ST) (x2 : Int32), k s_p0 s_p1 x2 = some res → ∀ (H : Heap) (locs : List Loc), va_P D vwCl (wB cI cJ cZ cQ a_p0 s_p0 ++ wB cI cJ cZ cQ a_p1 s_p1) H → va_D A (wB cI cJ cZ cQ a_p0 s_p0 ++ wB cI cJ cZ cQ a_p1 s_p1) → va_S A s.heap H locs → ∀ ls : Array Slot, lv_has ls 5 [(0, .ref (a_p0.1 0)), (1, .ref (a_p1.1 0)), (2, .int x2)] → W p l e (headSpec wsL_alike rm_L_alike).room s m args below meth c H locs 0 0 (MQ below (qI D (tys4 cI cJ cZ cQ) (wB cI cJ cZ cQ a_p0 res.2.1 ++ wB cI cJ cZ cQ a_p1 res.2.2) A res.1) args s 0 0 A) (F0 m 0 ls [])
set_option maxHeartbeats 4000000 in
set_option maxRecDepth 100000 in
theorem i_L_alike_144 {p : Program} {l : Launch} {e : Env} {s : State} {m : MethodId} {args : Array Value} {below : List Frame} {meth : Method} {c : Code} {A : Nat → Prop} {D : va_G} {cI cJ cZ cQ : ClassId} {a_p0 a_p1 : AB} {res : R_L_alike}  {k144 : ST → ST → Int32 → Int32 → Option R_L_alike} (hC : mcx RL cL_alike (some .boolean) 5 wsL_alike p s m args meth c A D (tys4 cI cJ cZ cQ))  (hk144 : S_L_alike_144 p l e s m args below meth c A D cI cJ cZ cQ a_p0 a_p1 res k144) : S_L_alike_144 p l e s m args below meth c A D cI cJ cZ cQ a_p0 a_p1 res (g_L_alike_144  k144) := by
  intro s_p0 s_p1 x3 x4 hf H locs hP hD hS ls hl
  obtain ⟨hx, hb, hr, hml, hown, hts, hlocks, hA, hK, hN⟩ := id hC
  unfold g_L_alike_144 at hf
  refine lv_iload hx hb dL_alike_144 (lv_at hl 3 rfl) ?_
  refine lv_bipush (v := (10 : Int32)) hx hb dL_alike_146 (by decide) ?_
  refine lv_icmp_ge (tgt := 212) hx hb dL_alike_148 (by decide) (fun c1 => ?_) (fun c1 => ?_)
  · replace hf := brT c1 hf
    refine lv_iload_n hx hb dL_alike_212 rfl (lv_at hl 2 rfl) ?_
    obtain ⟨hn, hf⟩ := gZ_of hf
    obtain rfl := Option.some.inj hf
    exact endI (ty := .boolean) hC hn rfl hP hD hS dL_alike_213
  · replace hf := brF c1 hf
    refine lv_iload_n hx hb dL_alike_151 rfl (lv_at hl 2 rfl) ?_
    refine lv_if_eq (tgt := 204) hx hb dL_alike_152 (by decide) (fun c2 => ?_) (fun c2 => ?_)
    · replace hf := brT c2 hf
      refine lv_iconst (v := (0 : Int32)) hx hb dL_alike_204 (by decide) ?_
      refine lv_istore_n (lv' := [(3, .int (0 : Int32)), (0, .ref (a_p0.1 0)), (1, .ref (a_p1.1 0)), (4, .int x4)]) hx hb dL_alike_205 rfl hl (by decide) rfl (fun ls hl => ?_)
      refine lv_iinc (v := (x4 + (1 : Int32))) (lv' := [(4, .int (x4 + (1 : Int32))), (3, .int (0 : Int32)), (0, .ref (a_p0.1 0)), (1, .ref (a_p1.1 0))]) hx hb dL_alike_206 hl (k := 3) rfl rfl (by decide) rfl (fun ls hl => ?_)
      refine lv_goto (tgt := 144) hx hb dL_alike_209 (by decide) ?_
      exact (hk144) s_p0 s_p1 (0 : Int32) (x4 + (1 : Int32)) hf _ _ hP hD hS _ (lv_sub hl [2, 3, 1, 0] rfl)
    · replace hf := brF c2 hf
      refine lv_aload_n hx hb dL_alike_155 rfl (lv_at hl 0 rfl) ?_
      refine lv_iload hx hb dL_alike_156 (lv_at hl 3 rfl) ?_
      obtain ⟨r3, s4, hq5, hf⟩ := bnd2_of hf
      refine callX (As := [.int x4]) (rest := []) (ci := 5) (q0 := 0) (wr := (wB cI cJ cZ cQ a_p1 s_p1)) (WB := (wB cI cJ cZ cQ a_p0 s4 ++ wB cI cJ cZ cQ a_p1 s_p1)) hx hb hml hown hts hK hN (b_X5_cornerCount l D cI cJ cZ cQ a_p0 s_p0 x4 hq5) (cwV 1 hts gL_alike_X5_cornerCount rfl rfl rfl e_X5_cornerCount ⟨Nat.le_of_ble_eq_true rfl, Nat.le_of_ble_eq_true rfl⟩) hP hD hS hA (List.Perm.refl _) (List.Perm.refl _) rfl rfl rfl rfl hl (Nat.le_of_ble_eq_true rfl) dL_alike_158 ⟨Nat.zero_le _, Nat.zero_le _⟩ rfl (fun H locs hP hD hS => ?_)
      refine lv_aload_n hx hb dL_alike_161 rfl (lv_at hl 1 rfl) ?_
      refine lv_iload hx hb dL_alike_162 (lv_at hl 3 rfl) ?_
      obtain ⟨r6, s7, hq8, hf⟩ := bnd2_of hf
      refine callX (As := [.int x4]) (rest := [.int r3]) (ci := 5) (q0 := 0) (wr := (wB cI cJ cZ cQ a_p0 s4)) (WB := (wB cI cJ cZ cQ a_p0 s4 ++ wB cI cJ cZ cQ a_p1 s7)) hx hb hml hown hts hK hN (b_X5_cornerCount l D cI cJ cZ cQ a_p1 s_p1 x4 hq8) (cwV 1 hts gL_alike_X5_cornerCount rfl rfl rfl e_X5_cornerCount ⟨Nat.le_of_ble_eq_true rfl, Nat.le_of_ble_eq_true rfl⟩) hP hD hS hA List.perm_append_comm List.perm_append_comm rfl rfl rfl rfl hl (Nat.le_of_ble_eq_true rfl) dL_alike_164 ⟨Nat.zero_le _, Nat.zero_le _⟩ rfl (fun H locs hP hD hS => ?_)
      refine lv_icmp_ne (tgt := 204) hx hb dL_alike_167 (by decide) (fun c9 => ?_) (fun c9 => ?_)
      · replace hf := brF c9 hf
        refine lv_iconst (v := (0 : Int32)) hx hb dL_alike_204 (by decide) ?_
        refine lv_istore_n (lv' := [(3, .int (0 : Int32)), (0, .ref (a_p0.1 0)), (1, .ref (a_p1.1 0)), (4, .int x4)]) hx hb dL_alike_205 rfl hl (by decide) rfl (fun ls hl => ?_)
        refine lv_iinc (v := (x4 + (1 : Int32))) (lv' := [(4, .int (x4 + (1 : Int32))), (3, .int (0 : Int32)), (0, .ref (a_p0.1 0)), (1, .ref (a_p1.1 0))]) hx hb dL_alike_206 hl (k := 3) rfl rfl (by decide) rfl (fun ls hl => ?_)
        refine lv_goto (tgt := 144) hx hb dL_alike_209 (by decide) ?_
        exact (hk144) s4 s7 (0 : Int32) (x4 + (1 : Int32)) hf _ _ hP hD hS _ (lv_sub hl [2, 3, 1, 0] rfl)
      · replace hf := brT c9 hf
        refine lv_aload_n hx hb dL_alike_170 rfl (lv_at hl 0 rfl) ?_
        refine lv_iload hx hb dL_alike_171 (lv_at hl 3 rfl) ?_
        obtain ⟨r10, s11, hq12, hf⟩ := bnd2_of hf
        refine callX (As := [.int x4]) (rest := []) (ci := 5) (q0 := 0) (wr := (wB cI cJ cZ cQ a_p1 s7)) (WB := (wB cI cJ cZ cQ a_p0 s11 ++ wB cI cJ cZ cQ a_p1 s7)) hx hb hml hown hts hK hN (b_X5_neighbours l D cI cJ cZ cQ a_p0 s4 x4 hq12) (cwV 1 hts gL_alike_X5_neighbours rfl rfl rfl e_X5_neighbours ⟨Nat.le_of_ble_eq_true rfl, Nat.le_of_ble_eq_true rfl⟩) hP hD hS hA (List.Perm.refl _) (List.Perm.refl _) rfl rfl rfl rfl hl (Nat.le_of_ble_eq_true rfl) dL_alike_173 ⟨Nat.zero_le _, Nat.zero_le _⟩ rfl (fun H locs hP hD hS => ?_)
        refine lv_aload_n hx hb dL_alike_176 rfl (lv_at hl 1 rfl) ?_
        refine lv_iload hx hb dL_alike_177 (lv_at hl 3 rfl) ?_
        obtain ⟨r13, s14, hq15, hf⟩ := bnd2_of hf
        refine callX (As := [.int x4]) (rest := [.int r10]) (ci := 5) (q0 := 0) (wr := (wB cI cJ cZ cQ a_p0 s11)) (WB := (wB cI cJ cZ cQ a_p0 s11 ++ wB cI cJ cZ cQ a_p1 s14)) hx hb hml hown hts hK hN (b_X5_neighbours l D cI cJ cZ cQ a_p1 s7 x4 hq15) (cwV 1 hts gL_alike_X5_neighbours rfl rfl rfl e_X5_neighbours ⟨Nat.le_of_ble_eq_true rfl, Nat.le_of_ble_eq_true rfl⟩) hP hD hS hA List.perm_append_comm List.perm_append_comm rfl rfl rfl rfl hl (Nat.le_of_ble_eq_true rfl) dL_alike_179 ⟨Nat.zero_le _, Nat.zero_le _⟩ rfl (fun H locs hP hD hS => ?_)
        refine lv_icmp_ne (tgt := 204) hx hb dL_alike_182 (by decide) (fun c16 => ?_) (fun c16 => ?_)
        · replace hf := brF c16 hf
          refine lv_iconst (v := (0 : Int32)) hx hb dL_alike_204 (by decide) ?_
          refine lv_istore_n (lv' := [(3, .int (0 : Int32)), (0, .ref (a_p0.1 0)), (1, .ref (a_p1.1 0)), (4, .int x4)]) hx hb dL_alike_205 rfl hl (by decide) rfl (fun ls hl => ?_)
          refine lv_iinc (v := (x4 + (1 : Int32))) (lv' := [(4, .int (x4 + (1 : Int32))), (3, .int (0 : Int32)), (0, .ref (a_p0.1 0)), (1, .ref (a_p1.1 0))]) hx hb dL_alike_206 hl (k := 3) rfl rfl (by decide) rfl (fun ls hl => ?_)
          refine lv_goto (tgt := 144) hx hb dL_alike_209 (by decide) ?_
          exact (hk144) s11 s14 (0 : Int32) (x4 + (1 : Int32)) hf _ _ hP hD hS _ (lv_sub hl [2, 3, 1, 0] rfl)
        · replace hf := brT c16 hf
          refine lv_aload_n hx hb dL_alike_185 rfl (lv_at hl 0 rfl) ?_
          refine lv_iload hx hb dL_alike_186 (lv_at hl 3 rfl) ?_
          obtain ⟨r17, s18, hq19, hf⟩ := bnd2_of hf
          refine callX (As := [.int x4]) (rest := []) (ci := 5) (q0 := 0) (wr := (wB cI cJ cZ cQ a_p1 s14)) (WB := (wB cI cJ cZ cQ a_p0 s18 ++ wB cI cJ cZ cQ a_p1 s14)) hx hb hml hown hts hK hN (b_X5_size l D cI cJ cZ cQ a_p0 s11 x4 hq19) (cwV 1 hts gL_alike_X5_size rfl rfl rfl e_X5_size ⟨Nat.le_of_ble_eq_true rfl, Nat.le_of_ble_eq_true rfl⟩) hP hD hS hA (List.Perm.refl _) (List.Perm.refl _) rfl rfl rfl rfl hl (Nat.le_of_ble_eq_true rfl) dL_alike_188 ⟨Nat.zero_le _, Nat.zero_le _⟩ rfl (fun H locs hP hD hS => ?_)
          refine lv_aload_n hx hb dL_alike_191 rfl (lv_at hl 1 rfl) ?_
          refine lv_iload hx hb dL_alike_192 (lv_at hl 3 rfl) ?_
          obtain ⟨r20, s21, hq22, hf⟩ := bnd2_of hf
          refine callX (As := [.int x4]) (rest := [.int r17]) (ci := 5) (q0 := 0) (wr := (wB cI cJ cZ cQ a_p0 s18)) (WB := (wB cI cJ cZ cQ a_p0 s18 ++ wB cI cJ cZ cQ a_p1 s21)) hx hb hml hown hts hK hN (b_X5_size l D cI cJ cZ cQ a_p1 s14 x4 hq22) (cwV 1 hts gL_alike_X5_size rfl rfl rfl e_X5_size ⟨Nat.le_of_ble_eq_true rfl, Nat.le_of_ble_eq_true rfl⟩) hP hD hS hA List.perm_append_comm List.perm_append_comm rfl rfl rfl rfl hl (Nat.le_of_ble_eq_true rfl) dL_alike_194 ⟨Nat.zero_le _, Nat.zero_le _⟩ rfl (fun H locs hP hD hS => ?_)
          refine lv_icmp_ne (tgt := 204) hx hb dL_alike_197 (by decide) (fun c23 => ?_) (fun c23 => ?_)
          · replace hf := brF c23 hf
            refine lv_iconst (v := (0 : Int32)) hx hb dL_alike_204 (by decide) ?_
            refine lv_istore_n (lv' := [(3, .int (0 : Int32)), (0, .ref (a_p0.1 0)), (1, .ref (a_p1.1 0)), (4, .int x4)]) hx hb dL_alike_205 rfl hl (by decide) rfl (fun ls hl => ?_)
            refine lv_iinc (v := (x4 + (1 : Int32))) (lv' := [(4, .int (x4 + (1 : Int32))), (3, .int (0 : Int32)), (0, .ref (a_p0.1 0)), (1, .ref (a_p1.1 0))]) hx hb dL_alike_206 hl (k := 3) rfl rfl (by decide) rfl (fun ls hl => ?_)
            refine lv_goto (tgt := 144) hx hb dL_alike_209 (by decide) ?_
            exact (hk144) s18 s21 (0 : Int32) (x4 + (1 : Int32)) hf _ _ hP hD hS _ (lv_sub hl [2, 3, 1, 0] rfl)
          · replace hf := brT c23 hf
            refine lv_iconst (v := (1 : Int32)) hx hb dL_alike_200 (by decide) ?_
            refine lv_goto (tgt := 205) hx hb dL_alike_201 (by decide) ?_
            refine lv_istore_n (lv' := [(3, .int (1 : Int32)), (0, .ref (a_p0.1 0)), (1, .ref (a_p1.1 0)), (4, .int x4)]) hx hb dL_alike_205 rfl hl (by decide) rfl (fun ls hl => ?_)
            refine lv_iinc (v := (x4 + (1 : Int32))) (lv' := [(4, .int (x4 + (1 : Int32))), (3, .int (1 : Int32)), (0, .ref (a_p0.1 0)), (1, .ref (a_p1.1 0))]) hx hb dL_alike_206 hl (k := 3) rfl rfl (by decide) rfl (fun ls hl => ?_)
            refine lv_goto (tgt := 144) hx hb dL_alike_209 (by decide) ?_
            exact (hk144) s18 s21 (1 : Int32) (x4 + (1 : Int32)) hf _ _ hP hD hS _ (lv_sub hl [2, 3, 1, 0] rfl)
theorem t_L_alike_144 {p : Program} {l : Launch} {e : Env} {s : State} {m : MethodId} {args : Array Value} {below : List Frame} {meth : Method} {c : Code} {A : Nat → Prop} {D : va_G} {cI cJ cZ cQ : ClassId} {a_p0 a_p1 : AB} {res : R_L_alike}  (hC : mcx RL cL_alike (some .boolean) 5 wsL_alike p s m args meth c A D (tys4 cI cJ cZ cQ))  (n : Nat) : S_L_alike_144 p l e s m args below meth c A D cI cJ cZ cQ a_p0 a_p1 res (f_L_alike_144  n) := by
  induction n with
  | zero =>
    intro s_p0 s_p1 x3 x4 hf
    exact nomatch (show (none : Option R_L_alike) = some res from hf)
  | succ n ih => exact i_L_alike_144 hC  ih
set_option maxHeartbeats 4000000 in
set_option maxRecDepth 100000 in
theorem t_L_alike_0 {p : Program} {l : Launch} {e : Env} {s : State} {m : MethodId} {args : Array Value} {below : List Frame} {meth : Method} {c : Code} {A : Nat → Prop} {D : va_G} {cI cJ cZ cQ : ClassId} {a_p0 a_p1 : AB} {res : R_L_alike}  (hC : mcx RL cL_alike (some .boolean) 5 wsL_alike p s m args meth c A D (tys4 cI cJ cZ cQ))  : S_L_alike_0 p l e s m args below meth c A D cI cJ cZ cQ a_p0 a_p1 res (f_L_alike_0 ) := by
  intro s_p0 s_p1 x2 hf H locs hP hD hS ls hl
  obtain ⟨hx, hb, hr, hml, hown, hts, hlocks, hA, hK, hN⟩ := id hC
  unfold f_L_alike_0 at hf
  refine lv_aload_n hx hb dL_alike_0 rfl (lv_at hl 0 rfl) ?_
  obtain ⟨r1, s2, hq3, hf⟩ := bnd2_of hf
  refine callSL (As := [.ref (a_p0.1 0)]) (rest := []) (wr := (wB cI cJ cZ cQ a_p1 s_p1)) (WB := (wB cI cJ cZ cQ a_p0 s2 ++ wB cI cJ cZ cQ a_p1 s_p1)) hx hb hml hown hts hK hN (c_L_state l D cI cJ cZ cQ a_p0 s_p0  hq3) (va_cwS 1 hts gL_alike_L_state rfl rfl rfl e_L_state ⟨Nat.le_of_ble_eq_true rfl, Nat.le_of_ble_eq_true rfl⟩) hP hD hS hA (List.Perm.refl _) (List.Perm.refl _) rfl hl (Nat.le_of_ble_eq_true rfl) dL_alike_1 ⟨Nat.zero_le _, Nat.zero_le _⟩ rfl (fun H locs hP hD hS => ?_)
  refine lv_aload_n hx hb dL_alike_4 rfl (lv_at hl 1 rfl) ?_
  obtain ⟨r4, s5, hq6, hf⟩ := bnd2_of hf
  refine callSL (As := [.ref (a_p1.1 0)]) (rest := [.long r1]) (wr := (wB cI cJ cZ cQ a_p0 s2)) (WB := (wB cI cJ cZ cQ a_p0 s2 ++ wB cI cJ cZ cQ a_p1 s5)) hx hb hml hown hts hK hN (c_L_state l D cI cJ cZ cQ a_p1 s_p1  hq6) (va_cwS 1 hts gL_alike_L_state rfl rfl rfl e_L_state ⟨Nat.le_of_ble_eq_true rfl, Nat.le_of_ble_eq_true rfl⟩) hP hD hS hA List.perm_append_comm List.perm_append_comm rfl hl (Nat.le_of_ble_eq_true rfl) dL_alike_5 ⟨Nat.zero_le _, Nat.zero_le _⟩ rfl (fun H locs hP hD hS => ?_)
  refine W.lcmp hx hb dL_alike_8 ?_
  refine lv_if_ne (tgt := 139) hx hb dL_alike_9 (by decide) (fun c7 => ?_) (fun c7 => ?_)
  · replace hf := brF c7 hf
    refine lv_iconst (v := (0 : Int32)) hx hb dL_alike_139 (by decide) ?_
    refine lv_istore_n (lv' := [(3, .int (0 : Int32)), (0, .ref (a_p0.1 0)), (1, .ref (a_p1.1 0)), (2, .int x2)]) hx hb dL_alike_140 rfl hl (by decide) rfl (fun ls hl => ?_)
    refine lv_iconst (v := (0 : Int32)) hx hb dL_alike_141 (by decide) ?_
    refine lv_istore (lv' := [(4, .int (0 : Int32)), (3, .int (0 : Int32)), (0, .ref (a_p0.1 0)), (1, .ref (a_p1.1 0)), (2, .int x2)]) hx hb dL_alike_142 hl (by decide) rfl (fun ls hl => ?_)
    exact (t_L_alike_144 hC  fuel) s2 s5 (0 : Int32) (0 : Int32) hf _ _ hP hD hS _ (lv_sub hl [2, 3, 1, 0] rfl)
  · replace hf := brT c7 hf
    refine lv_aload_n hx hb dL_alike_12 rfl (lv_at hl 0 rfl) ?_
    obtain ⟨r8, s9, hq10, hf⟩ := bnd2_of hf
    refine callX (As := []) (rest := []) (ci := 5) (q0 := 0) (wr := (wB cI cJ cZ cQ a_p1 s5)) (WB := (wB cI cJ cZ cQ a_p0 s9 ++ wB cI cJ cZ cQ a_p1 s5)) hx hb hml hown hts hK hN (b_X5_errorPosition l D cI cJ cZ cQ a_p0 s2  hq10) (cwV 0 hts gL_alike_X5_errorPosition rfl rfl rfl e_X5_errorPosition ⟨Nat.le_of_ble_eq_true rfl, Nat.le_of_ble_eq_true rfl⟩) hP hD hS hA (List.Perm.refl _) (List.Perm.refl _) rfl rfl rfl rfl hl (Nat.le_of_ble_eq_true rfl) dL_alike_13 ⟨Nat.zero_le _, Nat.zero_le _⟩ rfl (fun H locs hP hD hS => ?_)
    refine lv_aload_n hx hb dL_alike_16 rfl (lv_at hl 1 rfl) ?_
    obtain ⟨r11, s12, hq13, hf⟩ := bnd2_of hf
    refine callX (As := []) (rest := [.int r8]) (ci := 5) (q0 := 0) (wr := (wB cI cJ cZ cQ a_p0 s9)) (WB := (wB cI cJ cZ cQ a_p0 s9 ++ wB cI cJ cZ cQ a_p1 s12)) hx hb hml hown hts hK hN (b_X5_errorPosition l D cI cJ cZ cQ a_p1 s5  hq13) (cwV 0 hts gL_alike_X5_errorPosition rfl rfl rfl e_X5_errorPosition ⟨Nat.le_of_ble_eq_true rfl, Nat.le_of_ble_eq_true rfl⟩) hP hD hS hA List.perm_append_comm List.perm_append_comm rfl rfl rfl rfl hl (Nat.le_of_ble_eq_true rfl) dL_alike_17 ⟨Nat.zero_le _, Nat.zero_le _⟩ rfl (fun H locs hP hD hS => ?_)
    refine lv_icmp_ne (tgt := 139) hx hb dL_alike_20 (by decide) (fun c14 => ?_) (fun c14 => ?_)
    · replace hf := brF c14 hf
      refine lv_iconst (v := (0 : Int32)) hx hb dL_alike_139 (by decide) ?_
      refine lv_istore_n (lv' := [(3, .int (0 : Int32)), (0, .ref (a_p0.1 0)), (1, .ref (a_p1.1 0)), (2, .int x2)]) hx hb dL_alike_140 rfl hl (by decide) rfl (fun ls hl => ?_)
      refine lv_iconst (v := (0 : Int32)) hx hb dL_alike_141 (by decide) ?_
      refine lv_istore (lv' := [(4, .int (0 : Int32)), (3, .int (0 : Int32)), (0, .ref (a_p0.1 0)), (1, .ref (a_p1.1 0)), (2, .int x2)]) hx hb dL_alike_142 hl (by decide) rfl (fun ls hl => ?_)
      exact (t_L_alike_144 hC  fuel) s9 s12 (0 : Int32) (0 : Int32) hf _ _ hP hD hS _ (lv_sub hl [2, 3, 1, 0] rfl)
    · replace hf := brT c14 hf
      refine lv_aload_n hx hb dL_alike_23 rfl (lv_at hl 0 rfl) ?_
      obtain ⟨r15, s16, hq17, hf⟩ := bnd2_of hf
      refine callX (As := []) (rest := []) (ci := 5) (q0 := 0) (wr := (wB cI cJ cZ cQ a_p1 s12)) (WB := (wB cI cJ cZ cQ a_p0 s16 ++ wB cI cJ cZ cQ a_p1 s12)) hx hb hml hown hts hK hN (b_X5_hiddenSites l D cI cJ cZ cQ a_p0 s9  hq17) (cwV 0 hts gL_alike_X5_hiddenSites rfl rfl rfl e_X5_hiddenSites ⟨Nat.le_of_ble_eq_true rfl, Nat.le_of_ble_eq_true rfl⟩) hP hD hS hA (List.Perm.refl _) (List.Perm.refl _) rfl rfl rfl rfl hl (Nat.le_of_ble_eq_true rfl) dL_alike_24 ⟨Nat.zero_le _, Nat.zero_le _⟩ rfl (fun H locs hP hD hS => ?_)
      refine lv_aload_n hx hb dL_alike_27 rfl (lv_at hl 1 rfl) ?_
      obtain ⟨r18, s19, hq20, hf⟩ := bnd2_of hf
      refine callX (As := []) (rest := [.int r15]) (ci := 5) (q0 := 0) (wr := (wB cI cJ cZ cQ a_p0 s16)) (WB := (wB cI cJ cZ cQ a_p0 s16 ++ wB cI cJ cZ cQ a_p1 s19)) hx hb hml hown hts hK hN (b_X5_hiddenSites l D cI cJ cZ cQ a_p1 s12  hq20) (cwV 0 hts gL_alike_X5_hiddenSites rfl rfl rfl e_X5_hiddenSites ⟨Nat.le_of_ble_eq_true rfl, Nat.le_of_ble_eq_true rfl⟩) hP hD hS hA List.perm_append_comm List.perm_append_comm rfl rfl rfl rfl hl (Nat.le_of_ble_eq_true rfl) dL_alike_28 ⟨Nat.zero_le _, Nat.zero_le _⟩ rfl (fun H locs hP hD hS => ?_)
      refine lv_icmp_ne (tgt := 139) hx hb dL_alike_31 (by decide) (fun c21 => ?_) (fun c21 => ?_)
      · replace hf := brF c21 hf
        refine lv_iconst (v := (0 : Int32)) hx hb dL_alike_139 (by decide) ?_
        refine lv_istore_n (lv' := [(3, .int (0 : Int32)), (0, .ref (a_p0.1 0)), (1, .ref (a_p1.1 0)), (2, .int x2)]) hx hb dL_alike_140 rfl hl (by decide) rfl (fun ls hl => ?_)
        refine lv_iconst (v := (0 : Int32)) hx hb dL_alike_141 (by decide) ?_
        refine lv_istore (lv' := [(4, .int (0 : Int32)), (3, .int (0 : Int32)), (0, .ref (a_p0.1 0)), (1, .ref (a_p1.1 0)), (2, .int x2)]) hx hb dL_alike_142 hl (by decide) rfl (fun ls hl => ?_)
        exact (t_L_alike_144 hC  fuel) s16 s19 (0 : Int32) (0 : Int32) hf _ _ hP hD hS _ (lv_sub hl [2, 3, 1, 0] rfl)
      · replace hf := brT c21 hf
        refine lv_aload_n hx hb dL_alike_34 rfl (lv_at hl 0 rfl) ?_
        obtain ⟨r22, s23, hq24, hf⟩ := bnd2_of hf
        refine callX (As := []) (rest := []) (ci := 5) (q0 := 0) (wr := (wB cI cJ cZ cQ a_p1 s19)) (WB := (wB cI cJ cZ cQ a_p0 s23 ++ wB cI cJ cZ cQ a_p1 s19)) hx hb hml hown hts hK hN (b_X5_triangleCount l D cI cJ cZ cQ a_p0 s16  hq24) (cwV 0 hts gL_alike_X5_triangleCount rfl rfl rfl e_X5_triangleCount ⟨Nat.le_of_ble_eq_true rfl, Nat.le_of_ble_eq_true rfl⟩) hP hD hS hA (List.Perm.refl _) (List.Perm.refl _) rfl rfl rfl rfl hl (Nat.le_of_ble_eq_true rfl) dL_alike_35 ⟨Nat.zero_le _, Nat.zero_le _⟩ rfl (fun H locs hP hD hS => ?_)
        refine lv_aload_n hx hb dL_alike_38 rfl (lv_at hl 1 rfl) ?_
        obtain ⟨r25, s26, hq27, hf⟩ := bnd2_of hf
        refine callX (As := []) (rest := [.int r22]) (ci := 5) (q0 := 0) (wr := (wB cI cJ cZ cQ a_p0 s23)) (WB := (wB cI cJ cZ cQ a_p0 s23 ++ wB cI cJ cZ cQ a_p1 s26)) hx hb hml hown hts hK hN (b_X5_triangleCount l D cI cJ cZ cQ a_p1 s19  hq27) (cwV 0 hts gL_alike_X5_triangleCount rfl rfl rfl e_X5_triangleCount ⟨Nat.le_of_ble_eq_true rfl, Nat.le_of_ble_eq_true rfl⟩) hP hD hS hA List.perm_append_comm List.perm_append_comm rfl rfl rfl rfl hl (Nat.le_of_ble_eq_true rfl) dL_alike_39 ⟨Nat.zero_le _, Nat.zero_le _⟩ rfl (fun H locs hP hD hS => ?_)
        refine lv_icmp_ne (tgt := 139) hx hb dL_alike_42 (by decide) (fun c28 => ?_) (fun c28 => ?_)
        · replace hf := brF c28 hf
          refine lv_iconst (v := (0 : Int32)) hx hb dL_alike_139 (by decide) ?_
          refine lv_istore_n (lv' := [(3, .int (0 : Int32)), (0, .ref (a_p0.1 0)), (1, .ref (a_p1.1 0)), (2, .int x2)]) hx hb dL_alike_140 rfl hl (by decide) rfl (fun ls hl => ?_)
          refine lv_iconst (v := (0 : Int32)) hx hb dL_alike_141 (by decide) ?_
          refine lv_istore (lv' := [(4, .int (0 : Int32)), (3, .int (0 : Int32)), (0, .ref (a_p0.1 0)), (1, .ref (a_p1.1 0)), (2, .int x2)]) hx hb dL_alike_142 hl (by decide) rfl (fun ls hl => ?_)
          exact (t_L_alike_144 hC  fuel) s23 s26 (0 : Int32) (0 : Int32) hf _ _ hP hD hS _ (lv_sub hl [2, 3, 1, 0] rfl)
        · replace hf := brT c28 hf
          refine lv_aload_n hx hb dL_alike_45 rfl (lv_at hl 0 rfl) ?_
          refine lv_iconst (v := (0 : Int32)) hx hb dL_alike_46 (by decide) ?_
          refine lv_iconst (v := (0 : Int32)) hx hb dL_alike_47 (by decide) ?_
          obtain ⟨r29, s30, hq31, hf⟩ := bnd2_of hf
          refine callX (As := [.int (0 : Int32), .int (0 : Int32)]) (rest := []) (ci := 5) (q0 := 0) (wr := (wB cI cJ cZ cQ a_p1 s26)) (WB := (wB cI cJ cZ cQ a_p0 s30 ++ wB cI cJ cZ cQ a_p1 s26)) hx hb hml hown hts hK hN (b_X5_possibleWeights l D cI cJ cZ cQ a_p0 s23 (0 : Int32) (0 : Int32) hq31) (cwV 2 hts gL_alike_X5_possibleWeights rfl rfl rfl e_X5_possibleWeights ⟨Nat.le_of_ble_eq_true rfl, Nat.le_of_ble_eq_true rfl⟩) hP hD hS hA (List.Perm.refl _) (List.Perm.refl _) rfl rfl rfl rfl hl (Nat.le_of_ble_eq_true rfl) dL_alike_48 ⟨Nat.zero_le _, Nat.zero_le _⟩ rfl (fun H locs hP hD hS => ?_)
          refine lv_aload_n hx hb dL_alike_51 rfl (lv_at hl 1 rfl) ?_
          refine lv_iconst (v := (0 : Int32)) hx hb dL_alike_52 (by decide) ?_
          refine lv_iconst (v := (0 : Int32)) hx hb dL_alike_53 (by decide) ?_
          obtain ⟨r32, s33, hq34, hf⟩ := bnd2_of hf
          refine callX (As := [.int (0 : Int32), .int (0 : Int32)]) (rest := [.int r29]) (ci := 5) (q0 := 0) (wr := (wB cI cJ cZ cQ a_p0 s30)) (WB := (wB cI cJ cZ cQ a_p0 s30 ++ wB cI cJ cZ cQ a_p1 s33)) hx hb hml hown hts hK hN (b_X5_possibleWeights l D cI cJ cZ cQ a_p1 s26 (0 : Int32) (0 : Int32) hq34) (cwV 2 hts gL_alike_X5_possibleWeights rfl rfl rfl e_X5_possibleWeights ⟨Nat.le_of_ble_eq_true rfl, Nat.le_of_ble_eq_true rfl⟩) hP hD hS hA List.perm_append_comm List.perm_append_comm rfl rfl rfl rfl hl (Nat.le_of_ble_eq_true rfl) dL_alike_54 ⟨Nat.zero_le _, Nat.zero_le _⟩ rfl (fun H locs hP hD hS => ?_)
          refine lv_icmp_ne (tgt := 139) hx hb dL_alike_57 (by decide) (fun c35 => ?_) (fun c35 => ?_)
          · replace hf := brF c35 hf
            refine lv_iconst (v := (0 : Int32)) hx hb dL_alike_139 (by decide) ?_
            refine lv_istore_n (lv' := [(3, .int (0 : Int32)), (0, .ref (a_p0.1 0)), (1, .ref (a_p1.1 0)), (2, .int x2)]) hx hb dL_alike_140 rfl hl (by decide) rfl (fun ls hl => ?_)
            refine lv_iconst (v := (0 : Int32)) hx hb dL_alike_141 (by decide) ?_
            refine lv_istore (lv' := [(4, .int (0 : Int32)), (3, .int (0 : Int32)), (0, .ref (a_p0.1 0)), (1, .ref (a_p1.1 0)), (2, .int x2)]) hx hb dL_alike_142 hl (by decide) rfl (fun ls hl => ?_)
            exact (t_L_alike_144 hC  fuel) s30 s33 (0 : Int32) (0 : Int32) hf _ _ hP hD hS _ (lv_sub hl [2, 3, 1, 0] rfl)
          · replace hf := brT c35 hf
            refine lv_aload_n hx hb dL_alike_60 rfl (lv_at hl 0 rfl) ?_
            refine lv_iconst (v := (1 : Int32)) hx hb dL_alike_61 (by decide) ?_
            refine lv_bipush (v := (40 : Int32)) hx hb dL_alike_62 (by decide) ?_
            obtain ⟨r36, s37, hq38, hf⟩ := bnd2_of hf
            refine callX (As := [.int (1 : Int32), .int (40 : Int32)]) (rest := []) (ci := 5) (q0 := 0) (wr := (wB cI cJ cZ cQ a_p1 s33)) (WB := (wB cI cJ cZ cQ a_p0 s37 ++ wB cI cJ cZ cQ a_p1 s33)) hx hb hml hown hts hK hN (b_X5_weightForSize l D cI cJ cZ cQ a_p0 s30 (1 : Int32) (40 : Int32) hq38) (cwV 2 hts gL_alike_X5_weightForSize rfl rfl rfl e_X5_weightForSize ⟨Nat.le_of_ble_eq_true rfl, Nat.le_of_ble_eq_true rfl⟩) hP hD hS hA (List.Perm.refl _) (List.Perm.refl _) rfl rfl rfl rfl hl (Nat.le_of_ble_eq_true rfl) dL_alike_64 ⟨Nat.zero_le _, Nat.zero_le _⟩ rfl (fun H locs hP hD hS => ?_)
            refine lv_aload_n hx hb dL_alike_67 rfl (lv_at hl 1 rfl) ?_
            refine lv_iconst (v := (1 : Int32)) hx hb dL_alike_68 (by decide) ?_
            refine lv_bipush (v := (40 : Int32)) hx hb dL_alike_69 (by decide) ?_
            obtain ⟨r39, s40, hq41, hf⟩ := bnd2_of hf
            refine callX (As := [.int (1 : Int32), .int (40 : Int32)]) (rest := [.int r36]) (ci := 5) (q0 := 0) (wr := (wB cI cJ cZ cQ a_p0 s37)) (WB := (wB cI cJ cZ cQ a_p0 s37 ++ wB cI cJ cZ cQ a_p1 s40)) hx hb hml hown hts hK hN (b_X5_weightForSize l D cI cJ cZ cQ a_p1 s33 (1 : Int32) (40 : Int32) hq41) (cwV 2 hts gL_alike_X5_weightForSize rfl rfl rfl e_X5_weightForSize ⟨Nat.le_of_ble_eq_true rfl, Nat.le_of_ble_eq_true rfl⟩) hP hD hS hA List.perm_append_comm List.perm_append_comm rfl rfl rfl rfl hl (Nat.le_of_ble_eq_true rfl) dL_alike_71 ⟨Nat.zero_le _, Nat.zero_le _⟩ rfl (fun H locs hP hD hS => ?_)
            refine lv_icmp_ne (tgt := 139) hx hb dL_alike_74 (by decide) (fun c42 => ?_) (fun c42 => ?_)
            · replace hf := brF c42 hf
              refine lv_iconst (v := (0 : Int32)) hx hb dL_alike_139 (by decide) ?_
              refine lv_istore_n (lv' := [(3, .int (0 : Int32)), (0, .ref (a_p0.1 0)), (1, .ref (a_p1.1 0)), (2, .int x2)]) hx hb dL_alike_140 rfl hl (by decide) rfl (fun ls hl => ?_)
              refine lv_iconst (v := (0 : Int32)) hx hb dL_alike_141 (by decide) ?_
              refine lv_istore (lv' := [(4, .int (0 : Int32)), (3, .int (0 : Int32)), (0, .ref (a_p0.1 0)), (1, .ref (a_p1.1 0)), (2, .int x2)]) hx hb dL_alike_142 hl (by decide) rfl (fun ls hl => ?_)
              exact (t_L_alike_144 hC  fuel) s37 s40 (0 : Int32) (0 : Int32) hf _ _ hP hD hS _ (lv_sub hl [2, 3, 1, 0] rfl)
            · replace hf := brT c42 hf
              refine lv_aload_n hx hb dL_alike_77 rfl (lv_at hl 0 rfl) ?_
              refine lv_iload_n hx hb dL_alike_78 rfl (lv_at hl 2 rfl) ?_
              refine lv_bipush (v := (21 : Int32)) hx hb dL_alike_79 (by decide) ?_
              refine lv_irem hx hb dL_alike_81 (by decide) ?_
              refine lv_bipush (v := (7 : Int32)) hx hb dL_alike_82 (by decide) ?_
              refine lv_bipush (v := (9 : Int32)) hx hb dL_alike_84 (by decide) ?_
              obtain ⟨r43, s44, hq45, hf⟩ := bnd2_of hf
              refine callX (As := [.int (x2 - x2 / (21 : Int32) * (21 : Int32)), .int (7 : Int32), .int (9 : Int32)]) (rest := []) (ci := 5) (q0 := 0) (wr := (wB cI cJ cZ cQ a_p1 s40)) (WB := (wB cI cJ cZ cQ a_p0 s44 ++ wB cI cJ cZ cQ a_p1 s40)) hx hb hml hown hts hK hN (b_X5_conflicts l D cI cJ cZ cQ a_p0 s37 (x2 - x2 / (21 : Int32) * (21 : Int32)) (7 : Int32) (9 : Int32) hq45) (cwV 3 hts gL_alike_X5_conflicts rfl rfl rfl e_X5_conflicts ⟨Nat.le_of_ble_eq_true rfl, Nat.le_of_ble_eq_true rfl⟩) hP hD hS hA (List.Perm.refl _) (List.Perm.refl _) rfl rfl rfl rfl hl (Nat.le_of_ble_eq_true rfl) dL_alike_86 ⟨Nat.zero_le _, Nat.zero_le _⟩ rfl (fun H locs hP hD hS => ?_)
              refine lv_aload_n hx hb dL_alike_89 rfl (lv_at hl 1 rfl) ?_
              refine lv_iload_n hx hb dL_alike_90 rfl (lv_at hl 2 rfl) ?_
              refine lv_bipush (v := (21 : Int32)) hx hb dL_alike_91 (by decide) ?_
              refine lv_irem hx hb dL_alike_93 (by decide) ?_
              refine lv_bipush (v := (7 : Int32)) hx hb dL_alike_94 (by decide) ?_
              refine lv_bipush (v := (9 : Int32)) hx hb dL_alike_96 (by decide) ?_
              obtain ⟨r46, s47, hq48, hf⟩ := bnd2_of hf
              refine callX (As := [.int (x2 - x2 / (21 : Int32) * (21 : Int32)), .int (7 : Int32), .int (9 : Int32)]) (rest := [.int r43]) (ci := 5) (q0 := 0) (wr := (wB cI cJ cZ cQ a_p0 s44)) (WB := (wB cI cJ cZ cQ a_p0 s44 ++ wB cI cJ cZ cQ a_p1 s47)) hx hb hml hown hts hK hN (b_X5_conflicts l D cI cJ cZ cQ a_p1 s40 (x2 - x2 / (21 : Int32) * (21 : Int32)) (7 : Int32) (9 : Int32) hq48) (cwV 3 hts gL_alike_X5_conflicts rfl rfl rfl e_X5_conflicts ⟨Nat.le_of_ble_eq_true rfl, Nat.le_of_ble_eq_true rfl⟩) hP hD hS hA List.perm_append_comm List.perm_append_comm rfl rfl rfl rfl hl (Nat.le_of_ble_eq_true rfl) dL_alike_98 ⟨Nat.zero_le _, Nat.zero_le _⟩ rfl (fun H locs hP hD hS => ?_)
              refine lv_icmp_ne (tgt := 139) hx hb dL_alike_101 (by decide) (fun c49 => ?_) (fun c49 => ?_)
              · replace hf := brF c49 hf
                refine lv_iconst (v := (0 : Int32)) hx hb dL_alike_139 (by decide) ?_
                refine lv_istore_n (lv' := [(3, .int (0 : Int32)), (0, .ref (a_p0.1 0)), (1, .ref (a_p1.1 0)), (2, .int x2)]) hx hb dL_alike_140 rfl hl (by decide) rfl (fun ls hl => ?_)
                refine lv_iconst (v := (0 : Int32)) hx hb dL_alike_141 (by decide) ?_
                refine lv_istore (lv' := [(4, .int (0 : Int32)), (3, .int (0 : Int32)), (0, .ref (a_p0.1 0)), (1, .ref (a_p1.1 0)), (2, .int x2)]) hx hb dL_alike_142 hl (by decide) rfl (fun ls hl => ?_)
                exact (t_L_alike_144 hC  fuel) s44 s47 (0 : Int32) (0 : Int32) hf _ _ hP hD hS _ (lv_sub hl [2, 3, 1, 0] rfl)
              · replace hf := brT c49 hf
                refine lv_aload_n hx hb dL_alike_104 rfl (lv_at hl 0 rfl) ?_
                refine lv_iconst (v := (2 : Int32)) hx hb dL_alike_105 (by decide) ?_
                refine lv_ldc2 (v := (4000000000 : Int64)) hx hb hown (hts (.constantLong RL 130 (4000000000)) (List.mem_of_getElem? (i := 1) rfl)) dL_alike_106 ?_
                refine lv_iload_n hx hb dL_alike_109 rfl (lv_at hl 2 rfl) ?_
                refine lv_ldc (v := (2100000000 : Int32)) hx hb hown (hts (.constant RL 132 (2100000000)) (List.mem_of_getElem? (i := 2) rfl)) dL_alike_110 ?_
                refine lv_irem hx hb dL_alike_112 (by decide) ?_
                refine lv_i2l (v := (x2 - x2 / (2100000000 : Int32) * (2100000000 : Int32)).toInt64) hx hb dL_alike_113 rfl ?_
                refine lv_ladd hx hb dL_alike_114 ?_
                obtain ⟨r50, s51, hq52, hf⟩ := bnd2_of hf
                refine callX (As := [.int (2 : Int32), .long ((4000000000 : Int64) + (x2 - x2 / (2100000000 : Int32) * (2100000000 : Int32)).toInt64)]) (rest := []) (ci := 5) (q0 := 0) (wr := (wB cI cJ cZ cQ a_p1 s47)) (WB := (wB cI cJ cZ cQ a_p0 s51 ++ wB cI cJ cZ cQ a_p1 s47)) hx hb hml hown hts hK hN (b_X5_runScript l D cI cJ cZ cQ a_p0 s44 (2 : Int32) ((4000000000 : Int64) + (x2 - x2 / (2100000000 : Int32) * (2100000000 : Int32)).toInt64) hq52) (cwV 2 hts gL_alike_X5_runScript rfl rfl rfl e_X5_runScript ⟨Nat.le_of_ble_eq_true rfl, Nat.le_of_ble_eq_true rfl⟩) hP hD hS hA (List.Perm.refl _) (List.Perm.refl _) rfl rfl rfl rfl hl (Nat.le_of_ble_eq_true rfl) dL_alike_115 ⟨Nat.zero_le _, Nat.zero_le _⟩ rfl (fun H locs hP hD hS => ?_)
                refine lv_aload_n hx hb dL_alike_118 rfl (lv_at hl 1 rfl) ?_
                refine lv_iconst (v := (2 : Int32)) hx hb dL_alike_119 (by decide) ?_
                refine lv_ldc2 (v := (4000000000 : Int64)) hx hb hown (hts (.constantLong RL 130 (4000000000)) (List.mem_of_getElem? (i := 1) rfl)) dL_alike_120 ?_
                refine lv_iload_n hx hb dL_alike_123 rfl (lv_at hl 2 rfl) ?_
                refine lv_ldc (v := (2100000000 : Int32)) hx hb hown (hts (.constant RL 132 (2100000000)) (List.mem_of_getElem? (i := 2) rfl)) dL_alike_124 ?_
                refine lv_irem hx hb dL_alike_126 (by decide) ?_
                refine lv_i2l (v := (x2 - x2 / (2100000000 : Int32) * (2100000000 : Int32)).toInt64) hx hb dL_alike_127 rfl ?_
                refine lv_ladd hx hb dL_alike_128 ?_
                obtain ⟨r53, s54, hq55, hf⟩ := bnd2_of hf
                refine callX (As := [.int (2 : Int32), .long ((4000000000 : Int64) + (x2 - x2 / (2100000000 : Int32) * (2100000000 : Int32)).toInt64)]) (rest := [.int r50]) (ci := 5) (q0 := 0) (wr := (wB cI cJ cZ cQ a_p0 s51)) (WB := (wB cI cJ cZ cQ a_p0 s51 ++ wB cI cJ cZ cQ a_p1 s54)) hx hb hml hown hts hK hN (b_X5_runScript l D cI cJ cZ cQ a_p1 s47 (2 : Int32) ((4000000000 : Int64) + (x2 - x2 / (2100000000 : Int32) * (2100000000 : Int32)).toInt64) hq55) (cwV 2 hts gL_alike_X5_runScript rfl rfl rfl e_X5_runScript ⟨Nat.le_of_ble_eq_true rfl, Nat.le_of_ble_eq_true rfl⟩) hP hD hS hA List.perm_append_comm List.perm_append_comm rfl rfl rfl rfl hl (Nat.le_of_ble_eq_true rfl) dL_alike_129 ⟨Nat.zero_le _, Nat.zero_le _⟩ rfl (fun H locs hP hD hS => ?_)
                refine lv_icmp_ne (tgt := 139) hx hb dL_alike_132 (by decide) (fun c56 => ?_) (fun c56 => ?_)
                · replace hf := brF c56 hf
                  refine lv_iconst (v := (0 : Int32)) hx hb dL_alike_139 (by decide) ?_
                  refine lv_istore_n (lv' := [(3, .int (0 : Int32)), (0, .ref (a_p0.1 0)), (1, .ref (a_p1.1 0)), (2, .int x2)]) hx hb dL_alike_140 rfl hl (by decide) rfl (fun ls hl => ?_)
                  refine lv_iconst (v := (0 : Int32)) hx hb dL_alike_141 (by decide) ?_
                  refine lv_istore (lv' := [(4, .int (0 : Int32)), (3, .int (0 : Int32)), (0, .ref (a_p0.1 0)), (1, .ref (a_p1.1 0)), (2, .int x2)]) hx hb dL_alike_142 hl (by decide) rfl (fun ls hl => ?_)
                  exact (t_L_alike_144 hC  fuel) s51 s54 (0 : Int32) (0 : Int32) hf _ _ hP hD hS _ (lv_sub hl [2, 3, 1, 0] rfl)
                · replace hf := brT c56 hf
                  refine lv_iconst (v := (1 : Int32)) hx hb dL_alike_135 (by decide) ?_
                  refine lv_goto (tgt := 140) hx hb dL_alike_136 (by decide) ?_
                  refine lv_istore_n (lv' := [(3, .int (1 : Int32)), (0, .ref (a_p0.1 0)), (1, .ref (a_p1.1 0)), (2, .int x2)]) hx hb dL_alike_140 rfl hl (by decide) rfl (fun ls hl => ?_)
                  refine lv_iconst (v := (0 : Int32)) hx hb dL_alike_141 (by decide) ?_
                  refine lv_istore (lv' := [(4, .int (0 : Int32)), (3, .int (1 : Int32)), (0, .ref (a_p0.1 0)), (1, .ref (a_p1.1 0)), (2, .int x2)]) hx hb dL_alike_142 hl (by decide) rfl (fun ls hl => ?_)
                  exact (t_L_alike_144 hC  fuel) s51 s54 (1 : Int32) (0 : Int32) hf _ _ hP hD hS _ (lv_sub hl [2, 3, 1, 0] rfl)
theorem c_L_alike (l : Launch) (D : va_G) (cI cJ cZ cQ : ClassId) (a_p0 a_p1 : AB) (s_p0 s_p1 : ST) (p2 : Int32) {res : R_L_alike} (hf : f_L_alike_0 s_p0 s_p1 p2 = some res) : MetI l D (tys4 cI cJ cZ cQ) yL_alike wsL_alike rm_L_alike [.ref (a_p0.1 0), .ref (a_p1.1 0), .int p2] (wB cI cJ cZ cQ a_p0 s_p0 ++ wB cI cJ cZ cQ a_p1 s_p1) (wB cI cJ cZ cQ a_p0 res.2.1 ++ wB cI cJ cZ cQ a_p1 res.2.2) res.1 := by
  intro sz
  exact metW (own := RL) (cc := cL_alike) (nL := 5) (ret := (some .boolean)) (Qc := fun A => qI D (tys4 cI cJ cZ cQ) (wB cI cJ cZ cQ a_p0 res.2.1 ++ wB cI cJ cZ cQ a_p1 res.2.2) A res.1) (by decide) rfl rfl (Nat.le_of_ble_eq_true rfl) (fun p e s m args below meth c A hC hP hD hS ls hl => t_L_alike_0 hC s_p0 s_p1 p2 hf _ _ hP hD hS _ (lv_sub hl [0, 1, 2] rfl)) sz
theorem e_L_alike : yL_alike.cls ≠ "java/lang/invoke/MethodHandle" ∧ yL_alike.cls ≠ "java/lang/invoke/VarHandle" ∧ (parseMethodDescriptor yL_alike.desc).map (fun d => d.parameters.length) = some 3 := by decide +kernel
abbrev rm_L_owners : Room := { frames := 7, cells := 0, slots := 0, locals := 169 }
def S_L_owners_400 (p : Program) (l : Launch) (e : Env) (s : State) (m : MethodId) (args : Array Value) (below : List Frame) (meth : Method) (c : Code) (A : Nat → Prop) (D : va_G) (cI cJ cZ cQ : ClassId) (a_p0 : AB) (res : R_L_owners) (k : ST → Int32 → Int32 → Int32 → Int32 → Int32 → Int32 → Int32 → Int32 → Option R_L_owners) : Prop := ∀ (s_p0 : ST) (x1 : Int32) (x2 : Int32) (x6 : Int32) (x7 : Int32) (x8 : Int32) (x10 : Int32) (y0 : Int32) (y1 : Int32), k s_p0 x1 x2 x6 x7 x8 x10 y0 y1 = some res → ∀ (H : Heap) (locs : List Loc), va_P D vwCl (wB cI cJ cZ cQ a_p0 s_p0) H → va_D A (wB cI cJ cZ cQ a_p0 s_p0) → va_S A s.heap H locs → ∀ ls : Array Slot, lv_has ls 13 [(0, .ref (a_p0.1 0)), (1, .int x1), (2, .int x2), (6, .int x6), (7, .int x7), (8, .int x8), (10, .int x10)] → W p l e (headSpec wsL_owners rm_L_owners).room s m args below meth c H locs 0 0 (MQ below (qI D (tys4 cI cJ cZ cQ) (wB cI cJ cZ cQ a_p0 res.2) A res.1) args s 0 0 A) (F0 m 400 ls [.int y1, .int y0])
def S_L_owners_384 (p : Program) (l : Launch) (e : Env) (s : State) (m : MethodId) (args : Array Value) (below : List Frame) (meth : Method) (c : Code) (A : Nat → Prop) (D : va_G) (cI cJ cZ cQ : ClassId) (a_p0 : AB) (res : R_L_owners) (k : ST → Int32 → Int32 → Int32 → Int32 → Int32 → Int32 → Int32 → Int64 → Int32 → Int32 → Option R_L_owners) : Prop := ∀ (s_p0 : ST) (x1 : Int32) (x2 : Int32) (x6 : Int32) (x7 : Int32) (x8 : Int32) (x10 : Int32) (y1 : Int32) (y2 : Int64) (y3 : Int32) (y4 : Int32), k s_p0 x1 x2 x6 x7 x8 x10 y1 y2 y3 y4 = some res → ∀ (H : Heap) (locs : List Loc), va_P D vwCl (wB cI cJ cZ cQ a_p0 s_p0) H → va_D A (wB cI cJ cZ cQ a_p0 s_p0) → va_S A s.heap H locs → ∀ ls : Array Slot, lv_has ls 13 [(0, .ref (a_p0.1 0)), (1, .int x1), (2, .int x2), (6, .int x6), (7, .int x7), (8, .int x8), (10, .int x10)] → W p l e (headSpec wsL_owners rm_L_owners).room s m args below meth c H locs 0 0 (MQ below (qI D (tys4 cI cJ cZ cQ) (wB cI cJ cZ cQ a_p0 res.2) A res.1) args s 0 0 A) (F0 m 384 ls [.int y4, .int y3, .long y2, .int y1, .ref (a_p0.1 0)])
def S_L_owners_265 (p : Program) (l : Launch) (e : Env) (s : State) (m : MethodId) (args : Array Value) (below : List Frame) (meth : Method) (c : Code) (A : Nat → Prop) (D : va_G) (cI cJ cZ cQ : ClassId) (a_p0 : AB) (res : R_L_owners) (k : ST → Int32 → Int32 → Int32 → Int32 → Int32 → Int32 → Int32 → Int32 → Int32 → Option R_L_owners) : Prop := ∀ (s_p0 : ST) (x1 : Int32) (x2 : Int32) (x3 : Int32) (x6 : Int32) (x7 : Int32) (x8 : Int32) (x9 : Int32) (x10 : Int32) (x11 : Int32), k s_p0 x1 x2 x3 x6 x7 x8 x9 x10 x11 = some res → ∀ (H : Heap) (locs : List Loc), va_P D vwCl (wB cI cJ cZ cQ a_p0 s_p0) H → va_D A (wB cI cJ cZ cQ a_p0 s_p0) → va_S A s.heap H locs → ∀ ls : Array Slot, lv_has ls 13 [(0, .ref (a_p0.1 0)), (1, .int x1), (2, .int x2), (3, .int x3), (6, .int x6), (7, .int x7), (8, .int x8), (9, .int x9), (10, .int x10), (11, .int x11)] → W p l e (headSpec wsL_owners rm_L_owners).room s m args below meth c H locs 0 0 (MQ below (qI D (tys4 cI cJ cZ cQ) (wB cI cJ cZ cQ a_p0 res.2) A res.1) args s 0 0 A) (F0 m 265 ls [])
def S_L_owners_213 (p : Program) (l : Launch) (e : Env) (s : State) (m : MethodId) (args : Array Value) (below : List Frame) (meth : Method) (c : Code) (A : Nat → Prop) (D : va_G) (cI cJ cZ cQ : ClassId) (a_p0 : AB) (res : R_L_owners) (k : ST → Int32 → Int32 → Int32 → Int32 → Int32 → Int32 → Int32 → Int32 → Option R_L_owners) : Prop := ∀ (s_p0 : ST) (x1 : Int32) (x2 : Int32) (x6 : Int32) (x7 : Int32) (x8 : Int32) (x9 : Int32) (x10 : Int32) (y0 : Int32), k s_p0 x1 x2 x6 x7 x8 x9 x10 y0 = some res → ∀ (H : Heap) (locs : List Loc), va_P D vwCl (wB cI cJ cZ cQ a_p0 s_p0) H → va_D A (wB cI cJ cZ cQ a_p0 s_p0) → va_S A s.heap H locs → ∀ ls : Array Slot, lv_has ls 13 [(0, .ref (a_p0.1 0)), (1, .int x1), (2, .int x2), (6, .int x6), (7, .int x7), (8, .int x8), (9, .int x9), (10, .int x10)] → W p l e (headSpec wsL_owners rm_L_owners).room s m args below meth c H locs 0 0 (MQ below (qI D (tys4 cI cJ cZ cQ) (wB cI cJ cZ cQ a_p0 res.2) A res.1) args s 0 0 A) (F0 m 213 ls [.int y0])
def S_L_owners_138 (p : Program) (l : Launch) (e : Env) (s : State) (m : MethodId) (args : Array Value) (below : List Frame) (meth : Method) (c : Code) (A : Nat → Prop) (D : va_G) (cI cJ cZ cQ : ClassId) (a_p0 : AB) (res : R_L_owners) (k : ST → Int32 → Int32 → Int32 → Int32 → Int32 → Int32 → Int32 → Int32 → Option R_L_owners) : Prop := ∀ (s_p0 : ST) (x1 : Int32) (x2 : Int32) (x3 : Int32) (x6 : Int32) (x7 : Int32) (x8 : Int32) (x9 : Int32) (x10 : Int32), k s_p0 x1 x2 x3 x6 x7 x8 x9 x10 = some res → ∀ (H : Heap) (locs : List Loc), va_P D vwCl (wB cI cJ cZ cQ a_p0 s_p0) H → va_D A (wB cI cJ cZ cQ a_p0 s_p0) → va_S A s.heap H locs → ∀ ls : Array Slot, lv_has ls 13 [(0, .ref (a_p0.1 0)), (1, .int x1), (2, .int x2), (3, .int x3), (6, .int x6), (7, .int x7), (8, .int x8), (9, .int x9), (10, .int x10)] → W p l e (headSpec wsL_owners rm_L_owners).room s m args below meth c H locs 0 0 (MQ below (qI D (tys4 cI cJ cZ cQ) (wB cI cJ cZ cQ a_p0 res.2) A res.1) args s 0 0 A) (F0 m 138 ls [])
def S_L_owners_94 (p : Program) (l : Launch) (e : Env) (s : State) (m : MethodId) (args : Array Value) (below : List Frame) (meth : Method) (c : Code) (A : Nat → Prop) (D : va_G) (cI cJ cZ cQ : ClassId) (a_p0 : AB) (res : R_L_owners) (k : ST → Int32 → Int32 → Int32 → Int32 → Option R_L_owners) : Prop := ∀ (s_p0 : ST) (x1 : Int32) (x2 : Int32) (x3 : Int32) (x6 : Int32), k s_p0 x1 x2 x3 x6 = some res → ∀ (H : Heap) (locs : List Loc), va_P D vwCl (wB cI cJ cZ cQ a_p0 s_p0) H → va_D A (wB cI cJ cZ cQ a_p0 s_p0) → va_S A s.heap H locs → ∀ ls : Array Slot, lv_has ls 13 [(0, .ref (a_p0.1 0)), (1, .int x1), (2, .int x2), (3, .int x3), (6, .int x6)] → W p l e (headSpec wsL_owners rm_L_owners).room s m args below meth c H locs 0 0 (MQ below (qI D (tys4 cI cJ cZ cQ) (wB cI cJ cZ cQ a_p0 res.2) A res.1) args s 0 0 A) (F0 m 94 ls [])
def S_L_owners_82 (p : Program) (l : Launch) (e : Env) (s : State) (m : MethodId) (args : Array Value) (below : List Frame) (meth : Method) (c : Code) (A : Nat → Prop) (D : va_G) (cI cJ cZ cQ : ClassId) (a_p0 : AB) (res : R_L_owners) (k : ST → Int32 → Int32 → Int32 → Int32 → Option R_L_owners) : Prop := ∀ (s_p0 : ST) (x1 : Int32) (x2 : Int32) (y0 : Int32) (y1 : Int32), k s_p0 x1 x2 y0 y1 = some res → ∀ (H : Heap) (locs : List Loc), va_P D vwCl (wB cI cJ cZ cQ a_p0 s_p0) H → va_D A (wB cI cJ cZ cQ a_p0 s_p0) → va_S A s.heap H locs → ∀ ls : Array Slot, lv_has ls 13 [(0, .ref (a_p0.1 0)), (1, .int x1), (2, .int x2)] → W p l e (headSpec wsL_owners rm_L_owners).room s m args below meth c H locs 0 0 (MQ below (qI D (tys4 cI cJ cZ cQ) (wB cI cJ cZ cQ a_p0 res.2) A res.1) args s 0 0 A) (F0 m 82 ls [.int y1, .int y0])
def S_L_owners_67 (p : Program) (l : Launch) (e : Env) (s : State) (m : MethodId) (args : Array Value) (below : List Frame) (meth : Method) (c : Code) (A : Nat → Prop) (D : va_G) (cI cJ cZ cQ : ClassId) (a_p0 : AB) (res : R_L_owners) (k : ST → Int32 → Int32 → Int32 → Int32 → Int32 → Option R_L_owners) : Prop := ∀ (s_p0 : ST) (x1 : Int32) (x2 : Int32) (x5 : Int32) (y0 : Int32) (y1 : Int32), k s_p0 x1 x2 x5 y0 y1 = some res → ∀ (H : Heap) (locs : List Loc), va_P D vwCl (wB cI cJ cZ cQ a_p0 s_p0) H → va_D A (wB cI cJ cZ cQ a_p0 s_p0) → va_S A s.heap H locs → ∀ ls : Array Slot, lv_has ls 13 [(0, .ref (a_p0.1 0)), (1, .int x1), (2, .int x2), (5, .int x5)] → W p l e (headSpec wsL_owners rm_L_owners).room s m args below meth c H locs 0 0 (MQ below (qI D (tys4 cI cJ cZ cQ) (wB cI cJ cZ cQ a_p0 res.2) A res.1) args s 0 0 A) (F0 m 67 ls [.int y1, .int y0])
def S_L_owners_16 (p : Program) (l : Launch) (e : Env) (s : State) (m : MethodId) (args : Array Value) (below : List Frame) (meth : Method) (c : Code) (A : Nat → Prop) (D : va_G) (cI cJ cZ cQ : ClassId) (a_p0 : AB) (res : R_L_owners) (k : ST → Int32 → Int32 → Int32 → Int32 → Int32 → Option R_L_owners) : Prop := ∀ (s_p0 : ST) (x1 : Int32) (x2 : Int32) (x4 : Int32) (x5 : Int32) (x6 : Int32), k s_p0 x1 x2 x4 x5 x6 = some res → ∀ (H : Heap) (locs : List Loc), va_P D vwCl (wB cI cJ cZ cQ a_p0 s_p0) H → va_D A (wB cI cJ cZ cQ a_p0 s_p0) → va_S A s.heap H locs → ∀ ls : Array Slot, lv_has ls 13 [(0, .ref (a_p0.1 0)), (1, .int x1), (2, .int x2), (4, .int x4), (5, .int x5), (6, .int x6)] → W p l e (headSpec wsL_owners rm_L_owners).room s m args below meth c H locs 0 0 (MQ below (qI D (tys4 cI cJ cZ cQ) (wB cI cJ cZ cQ a_p0 res.2) A res.1) args s 0 0 A) (F0 m 16 ls [])
def S_L_owners_0 (p : Program) (l : Launch) (e : Env) (s : State) (m : MethodId) (args : Array Value) (below : List Frame) (meth : Method) (c : Code) (A : Nat → Prop) (D : va_G) (cI cJ cZ cQ : ClassId) (a_p0 : AB) (res : R_L_owners) (k : ST → Int32 → Option R_L_owners) : Prop := ∀ (s_p0 : ST) (x1 : Int32), k s_p0 x1 = some res → ∀ (H : Heap) (locs : List Loc), va_P D vwCl (wB cI cJ cZ cQ a_p0 s_p0) H → va_D A (wB cI cJ cZ cQ a_p0 s_p0) → va_S A s.heap H locs → ∀ ls : Array Slot, lv_has ls 13 [(0, .ref (a_p0.1 0)), (1, .int x1)] → W p l e (headSpec wsL_owners rm_L_owners).room s m args below meth c H locs 0 0 (MQ below (qI D (tys4 cI cJ cZ cQ) (wB cI cJ cZ cQ a_p0 res.2) A res.1) args s 0 0 A) (F0 m 0 ls [])
set_option maxHeartbeats 4000000 in
set_option maxRecDepth 100000 in
theorem t_L_owners_400 {p : Program} {l : Launch} {e : Env} {s : State} {m : MethodId} {args : Array Value} {below : List Frame} {meth : Method} {c : Code} {A : Nat → Prop} {D : va_G} {cI cJ cZ cQ : ClassId} {a_p0 : AB} {res : R_L_owners} {k94 : ST → Int32 → Int32 → Int32 → Int32 → Option R_L_owners} (hC : mcx RL cL_owners (some .boolean) 13 wsL_owners p s m args meth c A D (tys4 cI cJ cZ cQ)) (hk94 : S_L_owners_94 p l e s m args below meth c A D cI cJ cZ cQ a_p0 res k94) : S_L_owners_400 p l e s m args below meth c A D cI cJ cZ cQ a_p0 res (f_L_owners_400 k94) := by
  intro s_p0 x1 x2 x6 x7 x8 x10 y0 y1 hf H locs hP hD hS ls hl
  obtain ⟨hx, hb, hr, hml, hown, hts, hlocks, hA, hK, hN⟩ := id hC
  unfold f_L_owners_400 at hf
  refine lv_icmp_ne (tgt := 430) hx hb dL_owners_400 (by decide) (fun c1 => ?_) (fun c1 => ?_)
  · replace hf := brF c1 hf
    refine lv_iconst (v := (0 : Int32)) hx hb dL_owners_430 (by decide) ?_
    refine lv_istore_n (lv' := [(3, .int (0 : Int32)), (0, .ref (a_p0.1 0)), (1, .int x1), (2, .int x2), (6, .int x6), (7, .int x7), (8, .int x8), (10, .int x10)]) hx hb dL_owners_431 rfl hl (by decide) rfl (fun ls hl => ?_)
    refine lv_iinc (v := (x6 + (1 : Int32))) (lv' := [(6, .int (x6 + (1 : Int32))), (3, .int (0 : Int32)), (0, .ref (a_p0.1 0)), (1, .int x1), (2, .int x2), (7, .int x7), (8, .int x8), (10, .int x10)]) hx hb dL_owners_432 hl (k := 4) rfl rfl (by decide) rfl (fun ls hl => ?_)
    refine lv_goto (tgt := 94) hx hb dL_owners_435 (by decide) ?_
    exact (hk94) s_p0 x1 x2 (0 : Int32) (x6 + (1 : Int32)) hf _ _ hP hD hS _ (lv_sub hl [2, 3, 4, 1, 0] rfl)
  · replace hf := brT c1 hf
    refine lv_aload_n hx hb dL_owners_403 rfl (lv_at hl 0 rfl) ?_
    refine lv_iload hx hb dL_owners_404 (lv_at hl 4 rfl) ?_
    refine lv_iload hx hb dL_owners_406 (lv_at hl 5 rfl) ?_
    refine lv_bipush (v := (20 : Int32)) hx hb dL_owners_408 (by decide) ?_
    refine lv_iload hx hb dL_owners_410 (lv_at hl 5 rfl) ?_
    refine lv_isub hx hb dL_owners_412 ?_
    refine lv_iload hx hb dL_owners_413 (lv_at hl 4 rfl) ?_
    obtain ⟨r2, s3, hq4, hf⟩ := bnd2_of hf
    refine callX (As := [.int x7, .int x8, .int ((20 : Int32) - x8), .int x7]) (rest := []) (ci := 5) (q0 := 0) (wr := ([])) (WB := (wB cI cJ cZ cQ a_p0 s3)) hx hb hml hown hts hK hN (b_X5_alongSegment l D cI cJ cZ cQ a_p0 s_p0 x7 x8 ((20 : Int32) - x8) x7 hq4) (cwV 4 hts gL_owners_X5_alongSegment rfl rfl rfl e_X5_alongSegment ⟨Nat.le_of_ble_eq_true rfl, Nat.le_of_ble_eq_true rfl⟩) hP hD hS hA pmN pmN.symm rfl rfl rfl rfl hl (Nat.le_of_ble_eq_true rfl) dL_owners_415 ⟨Nat.zero_le _, Nat.zero_le _⟩ rfl (fun H locs hP hD hS => ?_)
    refine lv_iload hx hb dL_owners_418 (lv_at hl 6 rfl) ?_
    refine lv_iand hx hb dL_owners_420 ?_
    refine lv_iload hx hb dL_owners_421 (lv_at hl 6 rfl) ?_
    refine lv_icmp_ne (tgt := 430) hx hb dL_owners_423 (by decide) (fun c5 => ?_) (fun c5 => ?_)
    · replace hf := brF c5 hf
      refine lv_iconst (v := (0 : Int32)) hx hb dL_owners_430 (by decide) ?_
      refine lv_istore_n (lv' := [(3, .int (0 : Int32)), (0, .ref (a_p0.1 0)), (1, .int x1), (2, .int x2), (6, .int x6), (7, .int x7), (8, .int x8), (10, .int x10)]) hx hb dL_owners_431 rfl hl (by decide) rfl (fun ls hl => ?_)
      refine lv_iinc (v := (x6 + (1 : Int32))) (lv' := [(6, .int (x6 + (1 : Int32))), (3, .int (0 : Int32)), (0, .ref (a_p0.1 0)), (1, .int x1), (2, .int x2), (7, .int x7), (8, .int x8), (10, .int x10)]) hx hb dL_owners_432 hl (k := 4) rfl rfl (by decide) rfl (fun ls hl => ?_)
      refine lv_goto (tgt := 94) hx hb dL_owners_435 (by decide) ?_
      exact (hk94) s3 x1 x2 (0 : Int32) (x6 + (1 : Int32)) hf _ _ hP hD hS _ (lv_sub hl [2, 3, 4, 1, 0] rfl)
    · replace hf := brT c5 hf
      refine lv_iconst (v := (1 : Int32)) hx hb dL_owners_426 (by decide) ?_
      refine lv_goto (tgt := 431) hx hb dL_owners_427 (by decide) ?_
      refine lv_istore_n (lv' := [(3, .int (1 : Int32)), (0, .ref (a_p0.1 0)), (1, .int x1), (2, .int x2), (6, .int x6), (7, .int x7), (8, .int x8), (10, .int x10)]) hx hb dL_owners_431 rfl hl (by decide) rfl (fun ls hl => ?_)
      refine lv_iinc (v := (x6 + (1 : Int32))) (lv' := [(6, .int (x6 + (1 : Int32))), (3, .int (1 : Int32)), (0, .ref (a_p0.1 0)), (1, .int x1), (2, .int x2), (7, .int x7), (8, .int x8), (10, .int x10)]) hx hb dL_owners_432 hl (k := 4) rfl rfl (by decide) rfl (fun ls hl => ?_)
      refine lv_goto (tgt := 94) hx hb dL_owners_435 (by decide) ?_
      exact (hk94) s3 x1 x2 (1 : Int32) (x6 + (1 : Int32)) hf _ _ hP hD hS _ (lv_sub hl [2, 3, 4, 1, 0] rfl)
set_option maxHeartbeats 4000000 in
set_option maxRecDepth 100000 in
theorem t_L_owners_384 {p : Program} {l : Launch} {e : Env} {s : State} {m : MethodId} {args : Array Value} {below : List Frame} {meth : Method} {c : Code} {A : Nat → Prop} {D : va_G} {cI cJ cZ cQ : ClassId} {a_p0 : AB} {res : R_L_owners} {k94 : ST → Int32 → Int32 → Int32 → Int32 → Option R_L_owners} (hC : mcx RL cL_owners (some .boolean) 13 wsL_owners p s m args meth c A D (tys4 cI cJ cZ cQ)) (hk94 : S_L_owners_94 p l e s m args below meth c A D cI cJ cZ cQ a_p0 res k94) : S_L_owners_384 p l e s m args below meth c A D cI cJ cZ cQ a_p0 res (f_L_owners_384 k94) := by
  intro s_p0 x1 x2 x6 x7 x8 x10 y1 y2 y3 y4 hf H locs hP hD hS ls hl
  obtain ⟨hx, hb, hr, hml, hown, hts, hlocks, hA, hK, hN⟩ := id hC
  unfold f_L_owners_384 at hf
  refine lv_imul hx hb dL_owners_384 ?_
  refine lv_i2l (v := (y3 * y4).toInt64) hx hb dL_owners_385 rfl ?_
  refine lv_ladd hx hb dL_owners_386 ?_
  obtain ⟨r1, s2, hq3, hf⟩ := bnd2_of hf
  refine callX (As := [.int y1, .long (y2 + (y3 * y4).toInt64)]) (rest := []) (ci := 5) (q0 := 0) (wr := ([])) (WB := (wB cI cJ cZ cQ a_p0 s2)) hx hb hml hown hts hK hN (b_X5_runScript l D cI cJ cZ cQ a_p0 s_p0 y1 (y2 + (y3 * y4).toInt64) hq3) (cwV 2 hts gL_owners_X5_runScript rfl rfl rfl e_X5_runScript ⟨Nat.le_of_ble_eq_true rfl, Nat.le_of_ble_eq_true rfl⟩) hP hD hS hA pmN pmN.symm rfl rfl rfl rfl hl (Nat.le_of_ble_eq_true rfl) dL_owners_387 ⟨Nat.zero_le _, Nat.zero_le _⟩ rfl (fun H locs hP hD hS => ?_)
  refine lv_iload_n hx hb dL_owners_390 rfl (lv_at hl 2 rfl) ?_
  refine lv_if_ne (tgt := 398) hx hb dL_owners_391 (by decide) (fun c4 => ?_) (fun c4 => ?_)
  · replace hf := brF c4 hf
    refine lv_bipush (v := (-9 : Int32)) hx hb dL_owners_398 (by decide) ?_
    exact (t_L_owners_400 hC hk94) s2 x1 x2 x6 x7 x8 x10 r1 (-9 : Int32) hf _ _ hP hD hS _ (lv_sub hl [0, 1, 2, 3, 4, 5, 6] rfl)
  · replace hf := brT c4 hf
    refine lv_iconst (v := (0 : Int32)) hx hb dL_owners_394 (by decide) ?_
    refine lv_goto (tgt := 400) hx hb dL_owners_395 (by decide) ?_
    exact (t_L_owners_400 hC hk94) s2 x1 x2 x6 x7 x8 x10 r1 (0 : Int32) hf _ _ hP hD hS _ (lv_sub hl [0, 1, 2, 3, 4, 5, 6] rfl)
set_option maxHeartbeats 4000000 in
set_option maxRecDepth 100000 in
theorem i_L_owners_265 {p : Program} {l : Launch} {e : Env} {s : State} {m : MethodId} {args : Array Value} {below : List Frame} {meth : Method} {c : Code} {A : Nat → Prop} {D : va_G} {cI cJ cZ cQ : ClassId} {a_p0 : AB} {res : R_L_owners} {k94 : ST → Int32 → Int32 → Int32 → Int32 → Option R_L_owners} {k265 : ST → Int32 → Int32 → Int32 → Int32 → Int32 → Int32 → Int32 → Int32 → Int32 → Option R_L_owners} (hC : mcx RL cL_owners (some .boolean) 13 wsL_owners p s m args meth c A D (tys4 cI cJ cZ cQ)) (hk94 : S_L_owners_94 p l e s m args below meth c A D cI cJ cZ cQ a_p0 res k94) (hk265 : S_L_owners_265 p l e s m args below meth c A D cI cJ cZ cQ a_p0 res k265) : S_L_owners_265 p l e s m args below meth c A D cI cJ cZ cQ a_p0 res (g_L_owners_265 k94 k265) := by
  intro s_p0 x1 x2 x3 x6 x7 x8 x9 x10 x11 hf H locs hP hD hS ls hl
  obtain ⟨hx, hb, hr, hml, hown, hts, hlocks, hA, hK, hN⟩ := id hC
  unfold g_L_owners_265 at hf
  refine lv_iload hx hb dL_owners_265 (lv_at hl 9 rfl) ?_
  refine lv_iload_n hx hb dL_owners_267 rfl (lv_at hl 2 rfl) ?_
  refine lv_icmp_ge (tgt := 313) hx hb dL_owners_268 (by decide) (fun c1 => ?_) (fun c1 => ?_)
  · replace hf := brT c1 hf
    refine lv_iload_n hx hb dL_owners_313 rfl (lv_at hl 3 rfl) ?_
    refine lv_if_eq (tgt := 430) hx hb dL_owners_314 (by decide) (fun c2 => ?_) (fun c2 => ?_)
    · replace hf := brT c2 hf
      refine lv_iconst (v := (0 : Int32)) hx hb dL_owners_430 (by decide) ?_
      refine lv_istore_n (lv' := [(3, .int (0 : Int32)), (0, .ref (a_p0.1 0)), (1, .int x1), (2, .int x2), (6, .int x6), (7, .int x7), (8, .int x8), (9, .int x9), (10, .int x10), (11, .int x11)]) hx hb dL_owners_431 rfl hl (by decide) rfl (fun ls hl => ?_)
      refine lv_iinc (v := (x6 + (1 : Int32))) (lv' := [(6, .int (x6 + (1 : Int32))), (3, .int (0 : Int32)), (0, .ref (a_p0.1 0)), (1, .int x1), (2, .int x2), (7, .int x7), (8, .int x8), (9, .int x9), (10, .int x10), (11, .int x11)]) hx hb dL_owners_432 hl (k := 4) rfl rfl (by decide) rfl (fun ls hl => ?_)
      refine lv_goto (tgt := 94) hx hb dL_owners_435 (by decide) ?_
      exact (hk94) s_p0 x1 x2 (0 : Int32) (x6 + (1 : Int32)) hf _ _ hP hD hS _ (lv_sub hl [2, 3, 4, 1, 0] rfl)
    · replace hf := brF c2 hf
      refine lv_aload_n hx hb dL_owners_317 rfl (lv_at hl 0 rfl) ?_
      refine lv_iload hx hb dL_owners_318 (lv_at hl 5 rfl) ?_
      refine lv_iload hx hb dL_owners_320 (lv_at hl 6 rfl) ?_
      obtain ⟨r3, s4, hq5, hf⟩ := bnd2_of hf
      refine callX (As := [.int x7, .int x8]) (rest := []) (ci := 5) (q0 := 0) (wr := ([])) (WB := (wB cI cJ cZ cQ a_p0 s4)) hx hb hml hown hts hK hN (b_X5_owner l D cI cJ cZ cQ a_p0 s_p0 x7 x8 hq5) (cwV 2 hts gL_owners_X5_owner rfl rfl rfl e_X5_owner ⟨Nat.le_of_ble_eq_true rfl, Nat.le_of_ble_eq_true rfl⟩) hP hD hS hA pmN pmN.symm rfl rfl rfl rfl hl (Nat.le_of_ble_eq_true rfl) dL_owners_322 ⟨Nat.zero_le _, Nat.zero_le _⟩ rfl (fun H locs hP hD hS => ?_)
      refine lv_iload hx hb dL_owners_325 (lv_at hl 7 rfl) ?_
      refine lv_icmp_ne (tgt := 430) hx hb dL_owners_327 (by decide) (fun c6 => ?_) (fun c6 => ?_)
      · replace hf := brF c6 hf
        refine lv_iconst (v := (0 : Int32)) hx hb dL_owners_430 (by decide) ?_
        refine lv_istore_n (lv' := [(3, .int (0 : Int32)), (0, .ref (a_p0.1 0)), (1, .int x1), (2, .int x2), (6, .int x6), (7, .int x7), (8, .int x8), (9, .int x9), (10, .int x10), (11, .int x11)]) hx hb dL_owners_431 rfl hl (by decide) rfl (fun ls hl => ?_)
        refine lv_iinc (v := (x6 + (1 : Int32))) (lv' := [(6, .int (x6 + (1 : Int32))), (3, .int (0 : Int32)), (0, .ref (a_p0.1 0)), (1, .int x1), (2, .int x2), (7, .int x7), (8, .int x8), (9, .int x9), (10, .int x10), (11, .int x11)]) hx hb dL_owners_432 hl (k := 4) rfl rfl (by decide) rfl (fun ls hl => ?_)
        refine lv_goto (tgt := 94) hx hb dL_owners_435 (by decide) ?_
        exact (hk94) s4 x1 x2 (0 : Int32) (x6 + (1 : Int32)) hf _ _ hP hD hS _ (lv_sub hl [2, 3, 4, 1, 0] rfl)
      · replace hf := brT c6 hf
        refine lv_aload_n hx hb dL_owners_330 rfl (lv_at hl 0 rfl) ?_
        refine lv_iload hx hb dL_owners_331 (lv_at hl 5 rfl) ?_
        refine lv_iload hx hb dL_owners_333 (lv_at hl 6 rfl) ?_
        refine lv_iload hx hb dL_owners_335 (lv_at hl 5 rfl) ?_
        refine lv_iload hx hb dL_owners_337 (lv_at hl 6 rfl) ?_
        obtain ⟨r7, s8, hq9, hf⟩ := bnd2_of hf
        refine callX (As := [.int x7, .int x8, .int x7, .int x8]) (rest := []) (ci := 5) (q0 := 0) (wr := ([])) (WB := (wB cI cJ cZ cQ a_p0 s8)) hx hb hml hown hts hK hN (b_X5_alongSegment l D cI cJ cZ cQ a_p0 s4 x7 x8 x7 x8 hq9) (cwV 4 hts gL_owners_X5_alongSegment rfl rfl rfl e_X5_alongSegment ⟨Nat.le_of_ble_eq_true rfl, Nat.le_of_ble_eq_true rfl⟩) hP hD hS hA pmN pmN.symm rfl rfl rfl rfl hl (Nat.le_of_ble_eq_true rfl) dL_owners_339 ⟨Nat.zero_le _, Nat.zero_le _⟩ rfl (fun H locs hP hD hS => ?_)
        refine lv_iload hx hb dL_owners_342 (lv_at hl 8 rfl) ?_
        refine lv_icmp_ne (tgt := 430) hx hb dL_owners_344 (by decide) (fun c10 => ?_) (fun c10 => ?_)
        · replace hf := brF c10 hf
          refine lv_iconst (v := (0 : Int32)) hx hb dL_owners_430 (by decide) ?_
          refine lv_istore_n (lv' := [(3, .int (0 : Int32)), (0, .ref (a_p0.1 0)), (1, .int x1), (2, .int x2), (6, .int x6), (7, .int x7), (8, .int x8), (9, .int x9), (10, .int x10), (11, .int x11)]) hx hb dL_owners_431 rfl hl (by decide) rfl (fun ls hl => ?_)
          refine lv_iinc (v := (x6 + (1 : Int32))) (lv' := [(6, .int (x6 + (1 : Int32))), (3, .int (0 : Int32)), (0, .ref (a_p0.1 0)), (1, .int x1), (2, .int x2), (7, .int x7), (8, .int x8), (9, .int x9), (10, .int x10), (11, .int x11)]) hx hb dL_owners_432 hl (k := 4) rfl rfl (by decide) rfl (fun ls hl => ?_)
          refine lv_goto (tgt := 94) hx hb dL_owners_435 (by decide) ?_
          exact (hk94) s8 x1 x2 (0 : Int32) (x6 + (1 : Int32)) hf _ _ hP hD hS _ (lv_sub hl [2, 3, 4, 1, 0] rfl)
        · replace hf := brT c10 hf
          refine lv_aload_n hx hb dL_owners_347 rfl (lv_at hl 0 rfl) ?_
          refine lv_iconst (v := (2 : Int32)) hx hb dL_owners_348 (by decide) ?_
          refine lv_ldc2 (v := (40000 : Int64)) hx hb hown (hts (.constantLong RL 133 (40000)) (List.mem_of_getElem? (i := 1) rfl)) dL_owners_349 ?_
          refine lv_bipush (v := (100 : Int32)) hx hb dL_owners_352 (by decide) ?_
          refine lv_iload hx hb dL_owners_354 (lv_at hl 5 rfl) ?_
          refine lv_imul hx hb dL_owners_356 ?_
          refine lv_i2l (v := ((100 : Int32) * x7).toInt64) hx hb dL_owners_357 rfl ?_
          refine lv_ladd hx hb dL_owners_358 ?_
          refine lv_iload hx hb dL_owners_359 (lv_at hl 6 rfl) ?_
          refine lv_i2l (v := x8.toInt64) hx hb dL_owners_361 rfl ?_
          refine lv_ladd hx hb dL_owners_362 ?_
          refine lv_ldc2 (v := (100000 : Int64)) hx hb hown (hts (.constantLong RL 79 (100000)) (List.mem_of_getElem? (i := 2) rfl)) dL_owners_363 ?_
          refine lv_lmul hx hb dL_owners_366 ?_
          refine lv_ldc2 (v := (50000 : Int64)) hx hb hown (hts (.constantLong RL 135 (50000)) (List.mem_of_getElem? (i := 3) rfl)) dL_owners_367 ?_
          refine lv_ladd hx hb dL_owners_370 ?_
          refine lv_sipush (v := (1000 : Int32)) hx hb dL_owners_371 (by decide) ?_
          refine lv_iload_n hx hb dL_owners_374 rfl (lv_at hl 2 rfl) ?_
          refine lv_if_ne (tgt := 382) hx hb dL_owners_375 (by decide) (fun c11 => ?_) (fun c11 => ?_)
          · replace hf := brF c11 hf
            refine lv_iload hx hb dL_owners_382 (lv_at hl 7 rfl) ?_
            exact (t_L_owners_384 hC hk94) s8 x1 x2 x6 x7 x8 x10 (2 : Int32) (((((40000 : Int64) + ((100 : Int32) * x7).toInt64) + x8.toInt64) * (100000 : Int64)) + (50000 : Int64)) (1000 : Int32) x9 hf _ _ hP hD hS _ (lv_sub hl [0, 1, 2, 4, 5, 6, 8] rfl)
          · replace hf := brT c11 hf
            refine lv_iconst (v := (0 : Int32)) hx hb dL_owners_378 (by decide) ?_
            refine lv_goto (tgt := 384) hx hb dL_owners_379 (by decide) ?_
            exact (t_L_owners_384 hC hk94) s8 x1 x2 x6 x7 x8 x10 (2 : Int32) (((((40000 : Int64) + ((100 : Int32) * x7).toInt64) + x8.toInt64) * (100000 : Int64)) + (50000 : Int64)) (1000 : Int32) (0 : Int32) hf _ _ hP hD hS _ (lv_sub hl [0, 1, 2, 4, 5, 6, 8] rfl)
  · replace hf := brF c1 hf
    refine lv_iload hx hb dL_owners_271 (lv_at hl 8 rfl) ?_
    refine lv_aload_n hx hb dL_owners_273 rfl (lv_at hl 0 rfl) ?_
    refine lv_iload hx hb dL_owners_274 (lv_at hl 9 rfl) ?_
    refine lv_iload hx hb dL_owners_276 (lv_at hl 5 rfl) ?_
    refine lv_iload hx hb dL_owners_278 (lv_at hl 6 rfl) ?_
    obtain ⟨r12, s13, hq14, hf⟩ := bnd2_of hf
    refine callX (As := [.int x11, .int x7, .int x8]) (rest := [.int x10]) (ci := 5) (q0 := 0) (wr := ([])) (WB := (wB cI cJ cZ cQ a_p0 s13)) hx hb hml hown hts hK hN (b_X5_powerDistance l D cI cJ cZ cQ a_p0 s_p0 x11 x7 x8 hq14) (cwV 3 hts gL_owners_X5_powerDistance rfl rfl rfl e_X5_powerDistance ⟨Nat.le_of_ble_eq_true rfl, Nat.le_of_ble_eq_true rfl⟩) hP hD hS hA pmN pmN.symm rfl rfl rfl rfl hl (Nat.le_of_ble_eq_true rfl) dL_owners_280 ⟨Nat.zero_le _, Nat.zero_le _⟩ rfl (fun H locs hP hD hS => ?_)
    refine lv_aload_n hx hb dL_owners_283 rfl (lv_at hl 0 rfl) ?_
    refine lv_iload hx hb dL_owners_284 (lv_at hl 7 rfl) ?_
    refine lv_iload hx hb dL_owners_286 (lv_at hl 5 rfl) ?_
    refine lv_iload hx hb dL_owners_288 (lv_at hl 6 rfl) ?_
    obtain ⟨r15, s16, hq17, hf⟩ := bnd2_of hf
    refine callX (As := [.int x9, .int x7, .int x8]) (rest := [.int r12, .int x10]) (ci := 5) (q0 := 0) (wr := ([])) (WB := (wB cI cJ cZ cQ a_p0 s16)) hx hb hml hown hts hK hN (b_X5_powerDistance l D cI cJ cZ cQ a_p0 s13 x9 x7 x8 hq17) (cwV 3 hts gL_owners_X5_powerDistance rfl rfl rfl e_X5_powerDistance ⟨Nat.le_of_ble_eq_true rfl, Nat.le_of_ble_eq_true rfl⟩) hP hD hS hA pmN pmN.symm rfl rfl rfl rfl hl (Nat.le_of_ble_eq_true rfl) dL_owners_290 ⟨Nat.zero_le _, Nat.zero_le _⟩ rfl (fun H locs hP hD hS => ?_)
    refine lv_icmp_ne (tgt := 303) hx hb dL_owners_293 (by decide) (fun c18 => ?_) (fun c18 => ?_)
    · replace hf := brF c18 hf
      refine lv_iconst (v := (0 : Int32)) hx hb dL_owners_303 (by decide) ?_
      refine lv_ior hx hb dL_owners_304 ?_
      refine lv_topi (fun v19 ev19 => ?_)
      replace hf := nm_of ev19 hf
      refine lv_istore (lv' := [(10, .int v19), (0, .ref (a_p0.1 0)), (1, .int x1), (2, .int x2), (3, .int x3), (6, .int x6), (7, .int x7), (8, .int x8), (9, .int x9), (11, .int x11)]) hx hb dL_owners_305 hl (by decide) rfl (fun ls hl => ?_)
      refine lv_iinc (v := (x11 + (1 : Int32))) (lv' := [(11, .int (x11 + (1 : Int32))), (10, .int v19), (0, .ref (a_p0.1 0)), (1, .int x1), (2, .int x2), (3, .int x3), (6, .int x6), (7, .int x7), (8, .int x8), (9, .int x9)]) hx hb dL_owners_307 hl (k := 9) rfl rfl (by decide) rfl (fun ls hl => ?_)
      refine lv_goto (tgt := 265) hx hb dL_owners_310 (by decide) ?_
      exact (hk265) s16 x1 x2 x3 x6 x7 x8 x9 v19 (x11 + (1 : Int32)) hf _ _ hP hD hS _ (lv_sub hl [2, 3, 4, 5, 6, 7, 8, 9, 1, 0] rfl)
    · replace hf := brT c18 hf
      refine lv_iconst (v := (1 : Int32)) hx hb dL_owners_296 (by decide) ?_
      refine lv_iload hx hb dL_owners_297 (lv_at hl 9 rfl) ?_
      refine lv_ishl hx hb dL_owners_299 ?_
      refine lv_goto (tgt := 304) hx hb dL_owners_300 (by decide) ?_
      refine lv_ior hx hb dL_owners_304 ?_
      refine lv_topi (fun v20 ev20 => ?_)
      replace hf := nm_of ev20 hf
      refine lv_istore (lv' := [(10, .int v20), (0, .ref (a_p0.1 0)), (1, .int x1), (2, .int x2), (3, .int x3), (6, .int x6), (7, .int x7), (8, .int x8), (9, .int x9), (11, .int x11)]) hx hb dL_owners_305 hl (by decide) rfl (fun ls hl => ?_)
      refine lv_iinc (v := (x11 + (1 : Int32))) (lv' := [(11, .int (x11 + (1 : Int32))), (10, .int v20), (0, .ref (a_p0.1 0)), (1, .int x1), (2, .int x2), (3, .int x3), (6, .int x6), (7, .int x7), (8, .int x8), (9, .int x9)]) hx hb dL_owners_307 hl (k := 9) rfl rfl (by decide) rfl (fun ls hl => ?_)
      refine lv_goto (tgt := 265) hx hb dL_owners_310 (by decide) ?_
      exact (hk265) s16 x1 x2 x3 x6 x7 x8 x9 v20 (x11 + (1 : Int32)) hf _ _ hP hD hS _ (lv_sub hl [2, 3, 4, 5, 6, 7, 8, 9, 1, 0] rfl)
theorem t_L_owners_265 {p : Program} {l : Launch} {e : Env} {s : State} {m : MethodId} {args : Array Value} {below : List Frame} {meth : Method} {c : Code} {A : Nat → Prop} {D : va_G} {cI cJ cZ cQ : ClassId} {a_p0 : AB} {res : R_L_owners} {k94 : ST → Int32 → Int32 → Int32 → Int32 → Option R_L_owners} (hC : mcx RL cL_owners (some .boolean) 13 wsL_owners p s m args meth c A D (tys4 cI cJ cZ cQ)) (hk94 : S_L_owners_94 p l e s m args below meth c A D cI cJ cZ cQ a_p0 res k94) (n : Nat) : S_L_owners_265 p l e s m args below meth c A D cI cJ cZ cQ a_p0 res (f_L_owners_265 k94 n) := by
  induction n with
  | zero =>
    intro s_p0 x1 x2 x3 x6 x7 x8 x9 x10 x11 hf
    exact nomatch (show (none : Option R_L_owners) = some res from hf)
  | succ n ih => exact i_L_owners_265 hC hk94 ih
set_option maxHeartbeats 4000000 in
set_option maxRecDepth 100000 in
theorem t_L_owners_213 {p : Program} {l : Launch} {e : Env} {s : State} {m : MethodId} {args : Array Value} {below : List Frame} {meth : Method} {c : Code} {A : Nat → Prop} {D : va_G} {cI cJ cZ cQ : ClassId} {a_p0 : AB} {res : R_L_owners} {k138 : ST → Int32 → Int32 → Int32 → Int32 → Int32 → Int32 → Int32 → Int32 → Option R_L_owners} (hC : mcx RL cL_owners (some .boolean) 13 wsL_owners p s m args meth c A D (tys4 cI cJ cZ cQ)) (hk138 : S_L_owners_138 p l e s m args below meth c A D cI cJ cZ cQ a_p0 res k138) : S_L_owners_213 p l e s m args below meth c A D cI cJ cZ cQ a_p0 res (f_L_owners_213 k138) := by
  intro s_p0 x1 x2 x6 x7 x8 x9 x10 y0 hf H locs hP hD hS ls hl
  obtain ⟨hx, hb, hr, hml, hown, hts, hlocks, hA, hK, hN⟩ := id hC
  unfold f_L_owners_213 at hf
  refine lv_istore_n (lv' := [(3, .int y0), (0, .ref (a_p0.1 0)), (1, .int x1), (2, .int x2), (6, .int x6), (7, .int x7), (8, .int x8), (9, .int x9), (10, .int x10)]) hx hb dL_owners_213 rfl hl (by decide) rfl (fun ls hl => ?_)
  refine lv_iload hx hb dL_owners_214 (lv_at hl 7 rfl) ?_
  refine lv_bipush (v := (-9 : Int32)) hx hb dL_owners_216 (by decide) ?_
  refine lv_icmp_eq (tgt := 244) hx hb dL_owners_218 (by decide) (fun c1 => ?_) (fun c1 => ?_)
  · replace hf := brT c1 hf
    refine lv_iload hx hb dL_owners_244 (lv_at hl 8 rfl) ?_
    refine lv_goto (tgt := 251) hx hb dL_owners_246 (by decide) ?_
    refine lv_istore (lv' := [(9, .int x10), (3, .int y0), (0, .ref (a_p0.1 0)), (1, .int x1), (2, .int x2), (6, .int x6), (7, .int x7), (8, .int x8), (10, .int x10)]) hx hb dL_owners_251 hl (by decide) rfl (fun ls hl => ?_)
    refine lv_iinc (v := (x10 + (1 : Int32))) (lv' := [(10, .int (x10 + (1 : Int32))), (9, .int x10), (3, .int y0), (0, .ref (a_p0.1 0)), (1, .int x1), (2, .int x2), (6, .int x6), (7, .int x7), (8, .int x8)]) hx hb dL_owners_253 hl (k := 8) rfl rfl (by decide) rfl (fun ls hl => ?_)
    refine lv_goto (tgt := 138) hx hb dL_owners_256 (by decide) ?_
    exact (hk138) s_p0 x1 x2 y0 x6 x7 x8 x10 (x10 + (1 : Int32)) hf _ _ hP hD hS _ (lv_sub hl [3, 4, 5, 2, 6, 7, 8, 1, 0] rfl)
  · replace hf := brF c1 hf
    refine lv_aload_n hx hb dL_owners_221 rfl (lv_at hl 1 rfl) ?_
    refine lv_iload hx hb dL_owners_222 (lv_at hl 8 rfl) ?_
    refine lv_iload hx hb dL_owners_224 (lv_at hl 5 rfl) ?_
    refine lv_iload hx hb dL_owners_226 (lv_at hl 6 rfl) ?_
    obtain ⟨r2, s3, hq4, hf⟩ := bnd2_of hf
    refine callX (As := [.int x10, .int x7, .int x8]) (rest := []) (ci := 5) (q0 := 0) (wr := ([])) (WB := (wB cI cJ cZ cQ a_p0 s3)) hx hb hml hown hts hK hN (b_X5_powerDistance l D cI cJ cZ cQ a_p0 s_p0 x10 x7 x8 hq4) (cwV 3 hts gL_owners_X5_powerDistance rfl rfl rfl e_X5_powerDistance ⟨Nat.le_of_ble_eq_true rfl, Nat.le_of_ble_eq_true rfl⟩) hP hD hS hA pmN pmN.symm rfl rfl rfl rfl hl (Nat.le_of_ble_eq_true rfl) dL_owners_228 ⟨Nat.zero_le _, Nat.zero_le _⟩ rfl (fun H locs hP hD hS => ?_)
    refine lv_aload_n hx hb dL_owners_231 rfl (lv_at hl 1 rfl) ?_
    refine lv_iload hx hb dL_owners_232 (lv_at hl 7 rfl) ?_
    refine lv_iload hx hb dL_owners_234 (lv_at hl 5 rfl) ?_
    refine lv_iload hx hb dL_owners_236 (lv_at hl 6 rfl) ?_
    obtain ⟨r5, s6, hq7, hf⟩ := bnd2_of hf
    refine callX (As := [.int x9, .int x7, .int x8]) (rest := [.int r2]) (ci := 5) (q0 := 0) (wr := ([])) (WB := (wB cI cJ cZ cQ a_p0 s6)) hx hb hml hown hts hK hN (b_X5_powerDistance l D cI cJ cZ cQ a_p0 s3 x9 x7 x8 hq7) (cwV 3 hts gL_owners_X5_powerDistance rfl rfl rfl e_X5_powerDistance ⟨Nat.le_of_ble_eq_true rfl, Nat.le_of_ble_eq_true rfl⟩) hP hD hS hA pmN pmN.symm rfl rfl rfl rfl hl (Nat.le_of_ble_eq_true rfl) dL_owners_238 ⟨Nat.zero_le _, Nat.zero_le _⟩ rfl (fun H locs hP hD hS => ?_)
    refine lv_icmp_ge (tgt := 249) hx hb dL_owners_241 (by decide) (fun c8 => ?_) (fun c8 => ?_)
    · replace hf := brT c8 hf
      refine lv_iload hx hb dL_owners_249 (lv_at hl 7 rfl) ?_
      refine lv_istore (lv' := [(9, .int x9), (3, .int y0), (0, .ref (a_p0.1 0)), (1, .int x1), (2, .int x2), (6, .int x6), (7, .int x7), (8, .int x8), (10, .int x10)]) hx hb dL_owners_251 hl (by decide) rfl (fun ls hl => ?_)
      refine lv_iinc (v := (x10 + (1 : Int32))) (lv' := [(10, .int (x10 + (1 : Int32))), (9, .int x9), (3, .int y0), (0, .ref (a_p0.1 0)), (1, .int x1), (2, .int x2), (6, .int x6), (7, .int x7), (8, .int x8)]) hx hb dL_owners_253 hl (k := 8) rfl rfl (by decide) rfl (fun ls hl => ?_)
      refine lv_goto (tgt := 138) hx hb dL_owners_256 (by decide) ?_
      exact (hk138) s6 x1 x2 y0 x6 x7 x8 x9 (x10 + (1 : Int32)) hf _ _ hP hD hS _ (lv_sub hl [3, 4, 5, 2, 6, 7, 8, 1, 0] rfl)
    · replace hf := brF c8 hf
      refine lv_iload hx hb dL_owners_244 (lv_at hl 8 rfl) ?_
      refine lv_goto (tgt := 251) hx hb dL_owners_246 (by decide) ?_
      refine lv_istore (lv' := [(9, .int x10), (3, .int y0), (0, .ref (a_p0.1 0)), (1, .int x1), (2, .int x2), (6, .int x6), (7, .int x7), (8, .int x8), (10, .int x10)]) hx hb dL_owners_251 hl (by decide) rfl (fun ls hl => ?_)
      refine lv_iinc (v := (x10 + (1 : Int32))) (lv' := [(10, .int (x10 + (1 : Int32))), (9, .int x10), (3, .int y0), (0, .ref (a_p0.1 0)), (1, .int x1), (2, .int x2), (6, .int x6), (7, .int x7), (8, .int x8)]) hx hb dL_owners_253 hl (k := 8) rfl rfl (by decide) rfl (fun ls hl => ?_)
      refine lv_goto (tgt := 138) hx hb dL_owners_256 (by decide) ?_
      exact (hk138) s6 x1 x2 y0 x6 x7 x8 x10 (x10 + (1 : Int32)) hf _ _ hP hD hS _ (lv_sub hl [3, 4, 5, 2, 6, 7, 8, 1, 0] rfl)
set_option maxHeartbeats 4000000 in
set_option maxRecDepth 100000 in
theorem i_L_owners_138 {p : Program} {l : Launch} {e : Env} {s : State} {m : MethodId} {args : Array Value} {below : List Frame} {meth : Method} {c : Code} {A : Nat → Prop} {D : va_G} {cI cJ cZ cQ : ClassId} {a_p0 : AB} {res : R_L_owners} {k94 : ST → Int32 → Int32 → Int32 → Int32 → Option R_L_owners} {k138 : ST → Int32 → Int32 → Int32 → Int32 → Int32 → Int32 → Int32 → Int32 → Option R_L_owners} (hC : mcx RL cL_owners (some .boolean) 13 wsL_owners p s m args meth c A D (tys4 cI cJ cZ cQ)) (hk94 : S_L_owners_94 p l e s m args below meth c A D cI cJ cZ cQ a_p0 res k94) (hk138 : S_L_owners_138 p l e s m args below meth c A D cI cJ cZ cQ a_p0 res k138) : S_L_owners_138 p l e s m args below meth c A D cI cJ cZ cQ a_p0 res (g_L_owners_138 k94 k138) := by
  intro s_p0 x1 x2 x3 x6 x7 x8 x9 x10 hf H locs hP hD hS ls hl
  obtain ⟨hx, hb, hr, hml, hown, hts, hlocks, hA, hK, hN⟩ := id hC
  unfold g_L_owners_138 at hf
  refine lv_iload hx hb dL_owners_138 (lv_at hl 8 rfl) ?_
  refine lv_iload_n hx hb dL_owners_140 rfl (lv_at hl 2 rfl) ?_
  refine lv_icmp_ge (tgt := 259) hx hb dL_owners_141 (by decide) (fun c1 => ?_) (fun c1 => ?_)
  · replace hf := brT c1 hf
    refine lv_iconst (v := (0 : Int32)) hx hb dL_owners_259 (by decide) ?_
    refine lv_istore (lv' := [(10, .int (0 : Int32)), (0, .ref (a_p0.1 0)), (1, .int x1), (2, .int x2), (3, .int x3), (6, .int x6), (7, .int x7), (8, .int x8), (9, .int x9)]) hx hb dL_owners_260 hl (by decide) rfl (fun ls hl => ?_)
    refine lv_iconst (v := (0 : Int32)) hx hb dL_owners_262 (by decide) ?_
    refine lv_istore (lv' := [(11, .int (0 : Int32)), (10, .int (0 : Int32)), (0, .ref (a_p0.1 0)), (1, .int x1), (2, .int x2), (3, .int x3), (6, .int x6), (7, .int x7), (8, .int x8), (9, .int x9)]) hx hb dL_owners_263 hl (by decide) rfl (fun ls hl => ?_)
    exact (t_L_owners_265 hC hk94 fuel) s_p0 x1 x2 x3 x6 x7 x8 x9 (0 : Int32) (0 : Int32) hf _ _ hP hD hS _ (lv_sub hl [2, 3, 4, 5, 6, 7, 8, 9, 1, 0] rfl)
  · replace hf := brF c1 hf
    refine lv_iload hx hb dL_owners_144 (lv_at hl 5 rfl) ?_
    refine lv_aload_n hx hb dL_owners_146 rfl (lv_at hl 0 rfl) ?_
    refine lv_iload hx hb dL_owners_147 (lv_at hl 8 rfl) ?_
    refine lv_iconst (v := (0 : Int32)) hx hb dL_owners_149 (by decide) ?_
    obtain ⟨r2, s3, hq4, hf⟩ := bnd2_of hf
    refine callX (As := [.int x10, .int (0 : Int32)]) (rest := [.int x7]) (ci := 5) (q0 := 0) (wr := ([])) (WB := (wB cI cJ cZ cQ a_p0 s3)) hx hb hml hown hts hK hN (b_X5_site l D cI cJ cZ cQ a_p0 s_p0 x10 (0 : Int32) hq4) (cwV 2 hts gL_owners_X5_site rfl rfl rfl e_X5_site ⟨Nat.le_of_ble_eq_true rfl, Nat.le_of_ble_eq_true rfl⟩) hP hD hS hA pmN pmN.symm rfl rfl rfl rfl hl (Nat.le_of_ble_eq_true rfl) dL_owners_150 ⟨Nat.zero_le _, Nat.zero_le _⟩ rfl (fun H locs hP hD hS => ?_)
    refine lv_isub hx hb dL_owners_153 ?_
    refine lv_topi (fun v5 ev5 => ?_)
    replace hf := nm_of ev5 hf
    refine lv_istore (lv' := [(11, .int v5), (0, .ref (a_p0.1 0)), (1, .int x1), (2, .int x2), (3, .int x3), (6, .int x6), (7, .int x7), (8, .int x8), (9, .int x9), (10, .int x10)]) hx hb dL_owners_154 hl (by decide) rfl (fun ls hl => ?_)
    refine lv_iload hx hb dL_owners_156 (lv_at hl 7 rfl) ?_
    refine lv_aload_n hx hb dL_owners_158 rfl (lv_at hl 1 rfl) ?_
    refine lv_iload hx hb dL_owners_159 (lv_at hl 9 rfl) ?_
    refine lv_iconst (v := (1 : Int32)) hx hb dL_owners_161 (by decide) ?_
    obtain ⟨r6, s7, hq8, hf⟩ := bnd2_of hf
    refine callX (As := [.int x10, .int (1 : Int32)]) (rest := [.int x8]) (ci := 5) (q0 := 0) (wr := ([])) (WB := (wB cI cJ cZ cQ a_p0 s7)) hx hb hml hown hts hK hN (b_X5_site l D cI cJ cZ cQ a_p0 s3 x10 (1 : Int32) hq8) (cwV 2 hts gL_owners_X5_site rfl rfl rfl e_X5_site ⟨Nat.le_of_ble_eq_true rfl, Nat.le_of_ble_eq_true rfl⟩) hP hD hS hA pmN pmN.symm rfl rfl rfl rfl hl (Nat.le_of_ble_eq_true rfl) dL_owners_162 ⟨Nat.zero_le _, Nat.zero_le _⟩ rfl (fun H locs hP hD hS => ?_)
    refine lv_isub hx hb dL_owners_165 ?_
    refine lv_topi (fun v9 ev9 => ?_)
    replace hf := nm_of ev9 hf
    refine lv_istore (lv' := [(12, .int v9), (11, .int v5), (0, .ref (a_p0.1 0)), (1, .int x1), (2, .int x2), (3, .int x3), (6, .int x6), (7, .int x7), (8, .int x8), (9, .int x9), (10, .int x10)]) hx hb dL_owners_166 hl (by decide) rfl (fun ls hl => ?_)
    refine lv_iload_n hx hb dL_owners_168 rfl (lv_at hl 5 rfl) ?_
    refine lv_if_eq (tgt := 212) hx hb dL_owners_169 (by decide) (fun c10 => ?_) (fun c10 => ?_)
    · replace hf := brT c10 hf
      refine lv_iconst (v := (0 : Int32)) hx hb dL_owners_212 (by decide) ?_
      exact (t_L_owners_213 hC hk138) s7 x1 x2 x6 x7 x8 x9 x10 (0 : Int32) hf _ _ hP hD hS _ (lv_sub hl [2, 3, 4, 6, 7, 8, 9, 10] rfl)
    · replace hf := brF c10 hf
      refine lv_aload_n hx hb dL_owners_172 rfl (lv_at hl 2 rfl) ?_
      refine lv_iload hx hb dL_owners_173 (lv_at hl 10 rfl) ?_
      refine lv_iload hx hb dL_owners_175 (lv_at hl 7 rfl) ?_
      refine lv_iload hx hb dL_owners_177 (lv_at hl 8 rfl) ?_
      obtain ⟨r11, s12, hq13, hf⟩ := bnd2_of hf
      refine callX (As := [.int x10, .int x7, .int x8]) (rest := []) (ci := 5) (q0 := 0) (wr := ([])) (WB := (wB cI cJ cZ cQ a_p0 s12)) hx hb hml hown hts hK hN (b_X5_powerDistance l D cI cJ cZ cQ a_p0 s7 x10 x7 x8 hq13) (cwV 3 hts gL_owners_X5_powerDistance rfl rfl rfl e_X5_powerDistance ⟨Nat.le_of_ble_eq_true rfl, Nat.le_of_ble_eq_true rfl⟩) hP hD hS hA pmN pmN.symm rfl rfl rfl rfl hl (Nat.le_of_ble_eq_true rfl) dL_owners_179 ⟨Nat.zero_le _, Nat.zero_le _⟩ rfl (fun H locs hP hD hS => ?_)
      refine lv_iload hx hb dL_owners_182 (lv_at hl 1 rfl) ?_
      refine lv_iload hx hb dL_owners_184 (lv_at hl 1 rfl) ?_
      refine lv_imul hx hb dL_owners_186 ?_
      refine lv_iload hx hb dL_owners_187 (lv_at hl 0 rfl) ?_
      refine lv_iload hx hb dL_owners_189 (lv_at hl 0 rfl) ?_
      refine lv_imul hx hb dL_owners_191 ?_
      refine lv_iadd hx hb dL_owners_192 ?_
      refine lv_aload_n hx hb dL_owners_193 rfl (lv_at hl 2 rfl) ?_
      refine lv_iload hx hb dL_owners_194 (lv_at hl 10 rfl) ?_
      refine lv_iconst (v := (2 : Int32)) hx hb dL_owners_196 (by decide) ?_
      obtain ⟨r14, s15, hq16, hf⟩ := bnd2_of hf
      refine callX (As := [.int x10, .int (2 : Int32)]) (rest := [.int ((v5 * v5) + (v9 * v9)), .int r11]) (ci := 5) (q0 := 0) (wr := ([])) (WB := (wB cI cJ cZ cQ a_p0 s15)) hx hb hml hown hts hK hN (b_X5_site l D cI cJ cZ cQ a_p0 s12 x10 (2 : Int32) hq16) (cwV 2 hts gL_owners_X5_site rfl rfl rfl e_X5_site ⟨Nat.le_of_ble_eq_true rfl, Nat.le_of_ble_eq_true rfl⟩) hP hD hS hA pmN pmN.symm rfl rfl rfl rfl hl (Nat.le_of_ble_eq_true rfl) dL_owners_197 ⟨Nat.zero_le _, Nat.zero_le _⟩ rfl (fun H locs hP hD hS => ?_)
      refine lv_isub hx hb dL_owners_200 ?_
      refine lv_sipush (v := (1000 : Int32)) hx hb dL_owners_201 (by decide) ?_
      refine lv_iadd hx hb dL_owners_204 ?_
      refine lv_icmp_ne (tgt := 212) hx hb dL_owners_205 (by decide) (fun c17 => ?_) (fun c17 => ?_)
      · replace hf := brF c17 hf
        refine lv_iconst (v := (0 : Int32)) hx hb dL_owners_212 (by decide) ?_
        exact (t_L_owners_213 hC hk138) s15 x1 x2 x6 x7 x8 x9 x10 (0 : Int32) hf _ _ hP hD hS _ (lv_sub hl [2, 3, 4, 6, 7, 8, 9, 10] rfl)
      · replace hf := brT c17 hf
        refine lv_iconst (v := (1 : Int32)) hx hb dL_owners_208 (by decide) ?_
        refine lv_goto (tgt := 213) hx hb dL_owners_209 (by decide) ?_
        exact (t_L_owners_213 hC hk138) s15 x1 x2 x6 x7 x8 x9 x10 (1 : Int32) hf _ _ hP hD hS _ (lv_sub hl [2, 3, 4, 6, 7, 8, 9, 10] rfl)
theorem t_L_owners_138 {p : Program} {l : Launch} {e : Env} {s : State} {m : MethodId} {args : Array Value} {below : List Frame} {meth : Method} {c : Code} {A : Nat → Prop} {D : va_G} {cI cJ cZ cQ : ClassId} {a_p0 : AB} {res : R_L_owners} {k94 : ST → Int32 → Int32 → Int32 → Int32 → Option R_L_owners} (hC : mcx RL cL_owners (some .boolean) 13 wsL_owners p s m args meth c A D (tys4 cI cJ cZ cQ)) (hk94 : S_L_owners_94 p l e s m args below meth c A D cI cJ cZ cQ a_p0 res k94) (n : Nat) : S_L_owners_138 p l e s m args below meth c A D cI cJ cZ cQ a_p0 res (f_L_owners_138 k94 n) := by
  induction n with
  | zero =>
    intro s_p0 x1 x2 x3 x6 x7 x8 x9 x10 hf
    exact nomatch (show (none : Option R_L_owners) = some res from hf)
  | succ n ih => exact i_L_owners_138 hC hk94 ih
set_option maxHeartbeats 4000000 in
set_option maxRecDepth 100000 in
theorem i_L_owners_94 {p : Program} {l : Launch} {e : Env} {s : State} {m : MethodId} {args : Array Value} {below : List Frame} {meth : Method} {c : Code} {A : Nat → Prop} {D : va_G} {cI cJ cZ cQ : ClassId} {a_p0 : AB} {res : R_L_owners}  {k94 : ST → Int32 → Int32 → Int32 → Int32 → Option R_L_owners} (hC : mcx RL cL_owners (some .boolean) 13 wsL_owners p s m args meth c A D (tys4 cI cJ cZ cQ))  (hk94 : S_L_owners_94 p l e s m args below meth c A D cI cJ cZ cQ a_p0 res k94) : S_L_owners_94 p l e s m args below meth c A D cI cJ cZ cQ a_p0 res (g_L_owners_94  k94) := by
  intro s_p0 x1 x2 x3 x6 hf H locs hP hD hS ls hl
  obtain ⟨hx, hb, hr, hml, hown, hts, hlocks, hA, hK, hN⟩ := id hC
  unfold g_L_owners_94 at hf
  refine lv_iload hx hb dL_owners_94 (lv_at hl 4 rfl) ?_
  refine lv_bipush (v := (7 : Int32)) hx hb dL_owners_96 (by decide) ?_
  refine lv_icmp_ge (tgt := 438) hx hb dL_owners_98 (by decide) (fun c1 => ?_) (fun c1 => ?_)
  · replace hf := brT c1 hf
    refine lv_iload_n hx hb dL_owners_438 rfl (lv_at hl 3 rfl) ?_
    obtain ⟨hn, hf⟩ := gZ_of hf
    obtain rfl := Option.some.inj hf
    exact endI (ty := .boolean) hC hn rfl hP hD hS dL_owners_439
  · replace hf := brF c1 hf
    refine lv_iload_n hx hb dL_owners_101 rfl (lv_at hl 3 rfl) ?_
    refine lv_if_eq (tgt := 438) hx hb dL_owners_102 (by decide) (fun c2 => ?_) (fun c2 => ?_)
    · replace hf := brT c2 hf
      refine lv_iload_n hx hb dL_owners_438 rfl (lv_at hl 3 rfl) ?_
      obtain ⟨hn, hf⟩ := gZ_of hf
      obtain rfl := Option.some.inj hf
      exact endI (ty := .boolean) hC hn rfl hP hD hS dL_owners_439
    · replace hf := brF c2 hf
      refine lv_iload_n hx hb dL_owners_105 rfl (lv_at hl 1 rfl) ?_
      refine lv_iload hx hb dL_owners_106 (lv_at hl 4 rfl) ?_
      refine lv_iconst (v := (1 : Int32)) hx hb dL_owners_108 (by decide) ?_
      refine lv_iadd hx hb dL_owners_109 ?_
      obtain ⟨hz3, hf⟩ := gNz_of hf
      refine lv_idiv hx hb dL_owners_110 hz3 ?_
      refine lv_bipush (v := (21 : Int32)) hx hb dL_owners_111 (by decide) ?_
      refine lv_irem hx hb dL_owners_113 (by decide) ?_
      refine lv_topi (fun v4 ev4 => ?_)
      replace hf := nm_of ev4 hf
      refine lv_istore (lv' := [(7, .int v4), (0, .ref (a_p0.1 0)), (1, .int x1), (2, .int x2), (3, .int x3), (6, .int x6)]) hx hb dL_owners_114 hl (by decide) rfl (fun ls hl => ?_)
      refine lv_iload_n hx hb dL_owners_116 rfl (lv_at hl 2 rfl) ?_
      refine lv_bipush (v := (7 : Int32)) hx hb dL_owners_117 (by decide) ?_
      refine lv_iload hx hb dL_owners_119 (lv_at hl 5 rfl) ?_
      refine lv_imul hx hb dL_owners_121 ?_
      refine lv_bipush (v := (23 : Int32)) hx hb dL_owners_122 (by decide) ?_
      refine lv_iadd hx hb dL_owners_124 ?_
      obtain ⟨hz5, hf⟩ := gNz_of hf
      refine lv_idiv hx hb dL_owners_125 hz5 ?_
      refine lv_bipush (v := (21 : Int32)) hx hb dL_owners_126 (by decide) ?_
      refine lv_irem hx hb dL_owners_128 (by decide) ?_
      refine lv_topi (fun v6 ev6 => ?_)
      replace hf := nm_of ev6 hf
      refine lv_istore (lv' := [(8, .int v6), (7, .int v4), (0, .ref (a_p0.1 0)), (1, .int x1), (2, .int x2), (3, .int x3), (6, .int x6)]) hx hb dL_owners_129 hl (by decide) rfl (fun ls hl => ?_)
      refine lv_bipush (v := (-9 : Int32)) hx hb dL_owners_131 (by decide) ?_
      refine lv_istore (lv' := [(9, .int (-9 : Int32)), (8, .int v6), (7, .int v4), (0, .ref (a_p0.1 0)), (1, .int x1), (2, .int x2), (3, .int x3), (6, .int x6)]) hx hb dL_owners_133 hl (by decide) rfl (fun ls hl => ?_)
      refine lv_iconst (v := (0 : Int32)) hx hb dL_owners_135 (by decide) ?_
      refine lv_istore (lv' := [(10, .int (0 : Int32)), (9, .int (-9 : Int32)), (8, .int v6), (7, .int v4), (0, .ref (a_p0.1 0)), (1, .int x1), (2, .int x2), (3, .int x3), (6, .int x6)]) hx hb dL_owners_136 hl (by decide) rfl (fun ls hl => ?_)
      exact (t_L_owners_138 hC hk94 fuel) s_p0 x1 x2 x3 x6 v4 v6 (-9 : Int32) (0 : Int32) hf _ _ hP hD hS _ (lv_sub hl [4, 5, 6, 7, 8, 3, 2, 1, 0] rfl)
theorem t_L_owners_94 {p : Program} {l : Launch} {e : Env} {s : State} {m : MethodId} {args : Array Value} {below : List Frame} {meth : Method} {c : Code} {A : Nat → Prop} {D : va_G} {cI cJ cZ cQ : ClassId} {a_p0 : AB} {res : R_L_owners}  (hC : mcx RL cL_owners (some .boolean) 13 wsL_owners p s m args meth c A D (tys4 cI cJ cZ cQ))  (n : Nat) : S_L_owners_94 p l e s m args below meth c A D cI cJ cZ cQ a_p0 res (f_L_owners_94  n) := by
  induction n with
  | zero =>
    intro s_p0 x1 x2 x3 x6 hf
    exact nomatch (show (none : Option R_L_owners) = some res from hf)
  | succ n ih => exact i_L_owners_94 hC  ih
set_option maxHeartbeats 4000000 in
set_option maxRecDepth 100000 in
theorem t_L_owners_82 {p : Program} {l : Launch} {e : Env} {s : State} {m : MethodId} {args : Array Value} {below : List Frame} {meth : Method} {c : Code} {A : Nat → Prop} {D : va_G} {cI cJ cZ cQ : ClassId} {a_p0 : AB} {res : R_L_owners}  (hC : mcx RL cL_owners (some .boolean) 13 wsL_owners p s m args meth c A D (tys4 cI cJ cZ cQ))  : S_L_owners_82 p l e s m args below meth c A D cI cJ cZ cQ a_p0 res (f_L_owners_82 ) := by
  intro s_p0 x1 x2 y0 y1 hf H locs hP hD hS ls hl
  obtain ⟨hx, hb, hr, hml, hown, hts, hlocks, hA, hK, hN⟩ := id hC
  unfold f_L_owners_82 at hf
  refine lv_icmp_ne (tgt := 89) hx hb dL_owners_82 (by decide) (fun c1 => ?_) (fun c1 => ?_)
  · replace hf := brF c1 hf
    refine lv_iconst (v := (0 : Int32)) hx hb dL_owners_89 (by decide) ?_
    refine lv_istore_n (lv' := [(3, .int (0 : Int32)), (0, .ref (a_p0.1 0)), (1, .int x1), (2, .int x2)]) hx hb dL_owners_90 rfl hl (by decide) rfl (fun ls hl => ?_)
    refine lv_iconst (v := (0 : Int32)) hx hb dL_owners_91 (by decide) ?_
    refine lv_istore (lv' := [(6, .int (0 : Int32)), (3, .int (0 : Int32)), (0, .ref (a_p0.1 0)), (1, .int x1), (2, .int x2)]) hx hb dL_owners_92 hl (by decide) rfl (fun ls hl => ?_)
    exact (t_L_owners_94 hC  fuel) s_p0 x1 x2 (0 : Int32) (0 : Int32) hf _ _ hP hD hS _ (lv_sub hl [2, 3, 4, 1, 0] rfl)
  · replace hf := brT c1 hf
    refine lv_iconst (v := (1 : Int32)) hx hb dL_owners_85 (by decide) ?_
    refine lv_goto (tgt := 90) hx hb dL_owners_86 (by decide) ?_
    refine lv_istore_n (lv' := [(3, .int (1 : Int32)), (0, .ref (a_p0.1 0)), (1, .int x1), (2, .int x2)]) hx hb dL_owners_90 rfl hl (by decide) rfl (fun ls hl => ?_)
    refine lv_iconst (v := (0 : Int32)) hx hb dL_owners_91 (by decide) ?_
    refine lv_istore (lv' := [(6, .int (0 : Int32)), (3, .int (1 : Int32)), (0, .ref (a_p0.1 0)), (1, .int x1), (2, .int x2)]) hx hb dL_owners_92 hl (by decide) rfl (fun ls hl => ?_)
    exact (t_L_owners_94 hC  fuel) s_p0 x1 x2 (1 : Int32) (0 : Int32) hf _ _ hP hD hS _ (lv_sub hl [2, 3, 4, 1, 0] rfl)
set_option maxHeartbeats 4000000 in
set_option maxRecDepth 100000 in
theorem t_L_owners_67 {p : Program} {l : Launch} {e : Env} {s : State} {m : MethodId} {args : Array Value} {below : List Frame} {meth : Method} {c : Code} {A : Nat → Prop} {D : va_G} {cI cJ cZ cQ : ClassId} {a_p0 : AB} {res : R_L_owners}  (hC : mcx RL cL_owners (some .boolean) 13 wsL_owners p s m args meth c A D (tys4 cI cJ cZ cQ))  : S_L_owners_67 p l e s m args below meth c A D cI cJ cZ cQ a_p0 res (f_L_owners_67 ) := by
  intro s_p0 x1 x2 x5 y0 y1 hf H locs hP hD hS ls hl
  obtain ⟨hx, hb, hr, hml, hown, hts, hlocks, hA, hK, hN⟩ := id hC
  unfold f_L_owners_67 at hf
  refine lv_icmp_ne (tgt := 89) hx hb dL_owners_67 (by decide) (fun c1 => ?_) (fun c1 => ?_)
  · replace hf := brF c1 hf
    refine lv_iconst (v := (0 : Int32)) hx hb dL_owners_89 (by decide) ?_
    refine lv_istore_n (lv' := [(3, .int (0 : Int32)), (0, .ref (a_p0.1 0)), (1, .int x1), (2, .int x2), (5, .int x5)]) hx hb dL_owners_90 rfl hl (by decide) rfl (fun ls hl => ?_)
    refine lv_iconst (v := (0 : Int32)) hx hb dL_owners_91 (by decide) ?_
    refine lv_istore (lv' := [(6, .int (0 : Int32)), (3, .int (0 : Int32)), (0, .ref (a_p0.1 0)), (1, .int x1), (2, .int x2), (5, .int x5)]) hx hb dL_owners_92 hl (by decide) rfl (fun ls hl => ?_)
    exact (t_L_owners_94 hC  fuel) s_p0 x1 x2 (0 : Int32) (0 : Int32) hf _ _ hP hD hS _ (lv_sub hl [2, 3, 4, 1, 0] rfl)
  · replace hf := brT c1 hf
    refine lv_iload hx hb dL_owners_70 (lv_at hl 3 rfl) ?_
    refine lv_iload_n hx hb dL_owners_72 rfl (lv_at hl 2 rfl) ?_
    refine lv_if_ne (tgt := 80) hx hb dL_owners_73 (by decide) (fun c2 => ?_) (fun c2 => ?_)
    · replace hf := brF c2 hf
      refine lv_bipush (v := (50 : Int32)) hx hb dL_owners_80 (by decide) ?_
      exact (t_L_owners_82 hC ) s_p0 x1 x2 x5 (50 : Int32) hf _ _ hP hD hS _ (lv_sub hl [0, 1, 2] rfl)
    · replace hf := brT c2 hf
      refine lv_iconst (v := (0 : Int32)) hx hb dL_owners_76 (by decide) ?_
      refine lv_goto (tgt := 82) hx hb dL_owners_77 (by decide) ?_
      exact (t_L_owners_82 hC ) s_p0 x1 x2 x5 (0 : Int32) hf _ _ hP hD hS _ (lv_sub hl [0, 1, 2] rfl)
set_option maxHeartbeats 4000000 in
set_option maxRecDepth 100000 in
theorem i_L_owners_16 {p : Program} {l : Launch} {e : Env} {s : State} {m : MethodId} {args : Array Value} {below : List Frame} {meth : Method} {c : Code} {A : Nat → Prop} {D : va_G} {cI cJ cZ cQ : ClassId} {a_p0 : AB} {res : R_L_owners}  {k16 : ST → Int32 → Int32 → Int32 → Int32 → Int32 → Option R_L_owners} (hC : mcx RL cL_owners (some .boolean) 13 wsL_owners p s m args meth c A D (tys4 cI cJ cZ cQ))  (hk16 : S_L_owners_16 p l e s m args below meth c A D cI cJ cZ cQ a_p0 res k16) : S_L_owners_16 p l e s m args below meth c A D cI cJ cZ cQ a_p0 res (g_L_owners_16  k16) := by
  intro s_p0 x1 x2 x4 x5 x6 hf H locs hP hD hS ls hl
  obtain ⟨hx, hb, hr, hml, hown, hts, hlocks, hA, hK, hN⟩ := id hC
  unfold g_L_owners_16 at hf
  refine lv_iload hx hb dL_owners_16 (lv_at hl 5 rfl) ?_
  refine lv_iload_n hx hb dL_owners_18 rfl (lv_at hl 2 rfl) ?_
  refine lv_icmp_ge (tgt := 54) hx hb dL_owners_19 (by decide) (fun c1 => ?_) (fun c1 => ?_)
  · replace hf := brT c1 hf
    refine lv_iload hx hb dL_owners_54 (lv_at hl 3 rfl) ?_
    refine lv_iload_n hx hb dL_owners_56 rfl (lv_at hl 2 rfl) ?_
    refine lv_if_ne (tgt := 64) hx hb dL_owners_57 (by decide) (fun c2 => ?_) (fun c2 => ?_)
    · replace hf := brF c2 hf
      refine lv_sipush (v := (441 : Int32)) hx hb dL_owners_64 (by decide) ?_
      exact (t_L_owners_67 hC ) s_p0 x1 x2 x5 x4 (441 : Int32) hf _ _ hP hD hS _ (lv_sub hl [0, 1, 2, 4] rfl)
    · replace hf := brT c2 hf
      refine lv_iconst (v := (0 : Int32)) hx hb dL_owners_60 (by decide) ?_
      refine lv_goto (tgt := 67) hx hb dL_owners_61 (by decide) ?_
      exact (t_L_owners_67 hC ) s_p0 x1 x2 x5 x4 (0 : Int32) hf _ _ hP hD hS _ (lv_sub hl [0, 1, 2, 4] rfl)
  · replace hf := brF c1 hf
    refine lv_iload hx hb dL_owners_22 (lv_at hl 3 rfl) ?_
    refine lv_aload_n hx hb dL_owners_24 rfl (lv_at hl 0 rfl) ?_
    refine lv_iload hx hb dL_owners_25 (lv_at hl 5 rfl) ?_
    obtain ⟨r3, s4, hq5, hf⟩ := bnd2_of hf
    refine callX (As := [.int x6]) (rest := [.int x4]) (ci := 5) (q0 := 0) (wr := ([])) (WB := (wB cI cJ cZ cQ a_p0 s4)) hx hb hml hown hts hK hN (b_X5_size l D cI cJ cZ cQ a_p0 s_p0 x6 hq5) (cwV 1 hts gL_owners_X5_size rfl rfl rfl e_X5_size ⟨Nat.le_of_ble_eq_true rfl, Nat.le_of_ble_eq_true rfl⟩) hP hD hS hA pmN pmN.symm rfl rfl rfl rfl hl (Nat.le_of_ble_eq_true rfl) dL_owners_27 ⟨Nat.zero_le _, Nat.zero_le _⟩ rfl (fun H locs hP hD hS => ?_)
    refine lv_iadd hx hb dL_owners_30 ?_
    refine lv_topi (fun v6 ev6 => ?_)
    replace hf := nm_of ev6 hf
    refine lv_istore (lv' := [(4, .int v6), (0, .ref (a_p0.1 0)), (1, .int x1), (2, .int x2), (5, .int x5), (6, .int x6)]) hx hb dL_owners_31 hl (by decide) rfl (fun ls hl => ?_)
    refine lv_iload hx hb dL_owners_33 (lv_at hl 4 rfl) ?_
    refine lv_aload_n hx hb dL_owners_35 rfl (lv_at hl 1 rfl) ?_
    refine lv_iload_n hx hb dL_owners_36 rfl (lv_at hl 2 rfl) ?_
    refine lv_i2l (v := x1.toInt64) hx hb dL_owners_37 rfl ?_
    refine lv_iload hx hb dL_owners_38 (lv_at hl 5 rfl) ?_
    refine lv_bipush (v := (50 : Int32)) hx hb dL_owners_40 (by decide) ?_
    obtain ⟨r7, s8, hq9, hf⟩ := bnd2_of hf
    refine callX (As := [.long x1.toInt64, .int x6, .int (50 : Int32)]) (rest := [.int x5]) (ci := 5) (q0 := 0) (wr := ([])) (WB := (wB cI cJ cZ cQ a_p0 s8)) hx hb hml hown hts hK hN (b_X5_sample l D cI cJ cZ cQ a_p0 s4 x1.toInt64 x6 (50 : Int32) hq9) (cwV 3 hts gL_owners_X5_sample rfl rfl rfl e_X5_sample ⟨Nat.le_of_ble_eq_true rfl, Nat.le_of_ble_eq_true rfl⟩) hP hD hS hA pmN pmN.symm rfl rfl rfl rfl hl (Nat.le_of_ble_eq_true rfl) dL_owners_42 ⟨Nat.zero_le _, Nat.zero_le _⟩ rfl (fun H locs hP hD hS => ?_)
    refine lv_iadd hx hb dL_owners_45 ?_
    refine lv_topi (fun v10 ev10 => ?_)
    replace hf := nm_of ev10 hf
    refine lv_istore (lv' := [(5, .int v10), (4, .int v6), (0, .ref (a_p0.1 0)), (1, .int x1), (2, .int x2), (6, .int x6)]) hx hb dL_owners_46 hl (by decide) rfl (fun ls hl => ?_)
    refine lv_iinc (v := (x6 + (1 : Int32))) (lv' := [(6, .int (x6 + (1 : Int32))), (5, .int v10), (4, .int v6), (0, .ref (a_p0.1 0)), (1, .int x1), (2, .int x2)]) hx hb dL_owners_48 hl (k := 5) rfl rfl (by decide) rfl (fun ls hl => ?_)
    refine lv_goto (tgt := 16) hx hb dL_owners_51 (by decide) ?_
    exact (hk16) s8 x1 x2 v6 v10 (x6 + (1 : Int32)) hf _ _ hP hD hS _ (lv_sub hl [3, 4, 5, 2, 1, 0] rfl)
theorem t_L_owners_16 {p : Program} {l : Launch} {e : Env} {s : State} {m : MethodId} {args : Array Value} {below : List Frame} {meth : Method} {c : Code} {A : Nat → Prop} {D : va_G} {cI cJ cZ cQ : ClassId} {a_p0 : AB} {res : R_L_owners}  (hC : mcx RL cL_owners (some .boolean) 13 wsL_owners p s m args meth c A D (tys4 cI cJ cZ cQ))  (n : Nat) : S_L_owners_16 p l e s m args below meth c A D cI cJ cZ cQ a_p0 res (f_L_owners_16  n) := by
  induction n with
  | zero =>
    intro s_p0 x1 x2 x4 x5 x6 hf
    exact nomatch (show (none : Option R_L_owners) = some res from hf)
  | succ n ih => exact i_L_owners_16 hC  ih
set_option maxHeartbeats 4000000 in
set_option maxRecDepth 100000 in
theorem t_L_owners_0 {p : Program} {l : Launch} {e : Env} {s : State} {m : MethodId} {args : Array Value} {below : List Frame} {meth : Method} {c : Code} {A : Nat → Prop} {D : va_G} {cI cJ cZ cQ : ClassId} {a_p0 : AB} {res : R_L_owners}  (hC : mcx RL cL_owners (some .boolean) 13 wsL_owners p s m args meth c A D (tys4 cI cJ cZ cQ))  : S_L_owners_0 p l e s m args below meth c A D cI cJ cZ cQ a_p0 res (f_L_owners_0 ) := by
  intro s_p0 x1 hf H locs hP hD hS ls hl
  obtain ⟨hx, hb, hr, hml, hown, hts, hlocks, hA, hK, hN⟩ := id hC
  unfold f_L_owners_0 at hf
  refine lv_aload_n hx hb dL_owners_0 rfl (lv_at hl 0 rfl) ?_
  obtain ⟨r1, s2, hq3, hf⟩ := bnd2_of hf
  refine callX (As := []) (rest := []) (ci := 5) (q0 := 0) (wr := ([])) (WB := (wB cI cJ cZ cQ a_p0 s2)) hx hb hml hown hts hK hN (b_X5_siteCount l D cI cJ cZ cQ a_p0 s_p0  hq3) (cwV 0 hts gL_owners_X5_siteCount rfl rfl rfl e_X5_siteCount ⟨Nat.le_of_ble_eq_true rfl, Nat.le_of_ble_eq_true rfl⟩) hP hD hS hA pmN pmN.symm rfl rfl rfl rfl hl (Nat.le_of_ble_eq_true rfl) dL_owners_1 ⟨Nat.zero_le _, Nat.zero_le _⟩ rfl (fun H locs hP hD hS => ?_)
  refine lv_istore_n (lv' := [(2, .int r1), (0, .ref (a_p0.1 0)), (1, .int x1)]) hx hb dL_owners_4 rfl hl (by decide) rfl (fun ls hl => ?_)
  refine lv_iconst (v := (1 : Int32)) hx hb dL_owners_5 (by decide) ?_
  refine lv_istore_n (lv' := [(3, .int (1 : Int32)), (2, .int r1), (0, .ref (a_p0.1 0)), (1, .int x1)]) hx hb dL_owners_6 rfl hl (by decide) rfl (fun ls hl => ?_)
  refine lv_iconst (v := (0 : Int32)) hx hb dL_owners_7 (by decide) ?_
  refine lv_istore (lv' := [(4, .int (0 : Int32)), (3, .int (1 : Int32)), (2, .int r1), (0, .ref (a_p0.1 0)), (1, .int x1)]) hx hb dL_owners_8 hl (by decide) rfl (fun ls hl => ?_)
  refine lv_iconst (v := (0 : Int32)) hx hb dL_owners_10 (by decide) ?_
  refine lv_istore (lv' := [(5, .int (0 : Int32)), (4, .int (0 : Int32)), (3, .int (1 : Int32)), (2, .int r1), (0, .ref (a_p0.1 0)), (1, .int x1)]) hx hb dL_owners_11 hl (by decide) rfl (fun ls hl => ?_)
  refine lv_iconst (v := (0 : Int32)) hx hb dL_owners_13 (by decide) ?_
  refine lv_istore (lv' := [(6, .int (0 : Int32)), (5, .int (0 : Int32)), (4, .int (0 : Int32)), (3, .int (1 : Int32)), (2, .int r1), (0, .ref (a_p0.1 0)), (1, .int x1)]) hx hb dL_owners_14 hl (by decide) rfl (fun ls hl => ?_)
  exact (t_L_owners_16 hC  fuel) s2 x1 r1 (0 : Int32) (0 : Int32) (0 : Int32) hf _ _ hP hD hS _ (lv_sub hl [5, 6, 4, 2, 1, 0] rfl)
theorem c_L_owners (l : Launch) (D : va_G) (cI cJ cZ cQ : ClassId) (a_p0 : AB) (s_p0 : ST) (p1 : Int32) {res : R_L_owners} (hf : f_L_owners_0 s_p0 p1 = some res) : MetI l D (tys4 cI cJ cZ cQ) yL_owners wsL_owners rm_L_owners [.ref (a_p0.1 0), .int p1] (wB cI cJ cZ cQ a_p0 s_p0) (wB cI cJ cZ cQ a_p0 res.2) res.1 := by
  intro sz
  exact metW (own := RL) (cc := cL_owners) (nL := 13) (ret := (some .boolean)) (Qc := fun A => qI D (tys4 cI cJ cZ cQ) (wB cI cJ cZ cQ a_p0 res.2) A res.1) (by decide) rfl rfl (Nat.le_of_ble_eq_true rfl) (fun p e s m args below meth c A hC hP hD hS ls hl => t_L_owners_0 hC s_p0 p1 hf _ _ hP hD hS _ (lv_sub hl [0, 1] rfl)) sz
theorem e_L_owners : yL_owners.cls ≠ "java/lang/invoke/MethodHandle" ∧ yL_owners.cls ≠ "java/lang/invoke/VarHandle" ∧ (parseMethodDescriptor yL_owners.desc).map (fun d => d.parameters.length) = some 2 := by decide +kernel
