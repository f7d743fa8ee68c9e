abbrev rm_L_cells : Room := { frames := 7, cells := 0, slots := 0, locals := 169 }
def S_L_cells_567 (p : Program) (l : Launch) (e : Env) (s : State) (m : MethodId) (args : Array Value) (below : List Frame) (meth : Method) (c : Code) (A : Nat → Prop) (D : va_G) (cI cJ cZ cQ : ClassId) (a_p0 : AB) (res : R_L_cells) (k : ST → Int32 → Int32 → Int32 → Int32 → Int32 → Option R_L_cells) : Prop := ∀ (s_p0 : ST) (x1 : Int32) (x2 : Int32) (x3 : Int32) (x5 : Int32) (x6 : Int32), k s_p0 x1 x2 x3 x5 x6 = some res → ∀ (H : Heap) (locs : List Loc), va_P D vwCl (wB cI cJ cZ cQ a_p0 s_p0) H → va_D A (wB cI cJ cZ cQ a_p0 s_p0) → va_S A s.heap H locs → ∀ ls : Array Slot, lv_has ls 33 [(0, .ref (a_p0.1 0)), (1, .int x1), (2, .int x2), (3, .int x3), (5, .int x5), (6, .int x6)] → W p l e (headSpec wsL_cells rm_L_cells).room s m args below meth c H locs 0 0 (MQ below (qI D (tys4 cI cJ cZ cQ) (wB cI cJ cZ cQ a_p0 res.2) A res.1) args s 0 0 A) (F0 m 567 ls [])
def S_L_cells_491 (p : Program) (l : Launch) (e : Env) (s : State) (m : MethodId) (args : Array Value) (below : List Frame) (meth : Method) (c : Code) (A : Nat → Prop) (D : va_G) (cI cJ cZ cQ : ClassId) (a_p0 : AB) (res : R_L_cells) (k : ST → Int32 → Int32 → Int32 → Int32 → Int32 → Int64 → Int64 → Int64 → Int64 → Int32 → Int32 → Int64 → Int64 → Int64 → Int64 → Int32 → Option R_L_cells) : Prop := ∀ (s_p0 : ST) (x1 : Int32) (x3 : Int32) (x4 : Int32) (x5 : Int32) (x6 : Int32) (x7 : Int64) (x9 : Int64) (x11 : Int64) (x13 : Int64) (x23 : Int32) (x24 : Int32) (x25 : Int64) (x27 : Int64) (x29 : Int64) (x31 : Int64) (y0 : Int32), k s_p0 x1 x3 x4 x5 x6 x7 x9 x11 x13 x23 x24 x25 x27 x29 x31 y0 = some res → ∀ (H : Heap) (locs : List Loc), va_P D vwCl (wB cI cJ cZ cQ a_p0 s_p0) H → va_D A (wB cI cJ cZ cQ a_p0 s_p0) → va_S A s.heap H locs → ∀ ls : Array Slot, lv_has ls 33 [(0, .ref (a_p0.1 0)), (1, .int x1), (3, .int x3), (4, .int x4), (5, .int x5), (6, .int x6), (7, .long x7), (9, .long x9), (11, .long x11), (13, .long x13), (23, .int x23), (24, .int x24), (25, .long x25), (27, .long x27), (29, .long x29), (31, .long x31)] → W p l e (headSpec wsL_cells rm_L_cells).room s m args below meth c H locs 0 0 (MQ below (qI D (tys4 cI cJ cZ cQ) (wB cI cJ cZ cQ a_p0 res.2) A res.1) args s 0 0 A) (F0 m 491 ls [.int y0])
def S_L_cells_386 (p : Program) (l : Launch) (e : Env) (s : State) (m : MethodId) (args : Array Value) (below : List Frame) (meth : Method) (c : Code) (A : Nat → Prop) (D : va_G) (cI cJ cZ cQ : ClassId) (a_p0 : AB) (res : R_L_cells) (k : ST → Int32 → Int32 → Int32 → Int32 → Int32 → Int32 → Int64 → Int64 → Int64 → Int64 → Int32 → Int32 → Option R_L_cells) : Prop := ∀ (s_p0 : ST) (x1 : Int32) (x2 : Int32) (x3 : Int32) (x4 : Int32) (x5 : Int32) (x6 : Int32) (x7 : Int64) (x9 : Int64) (x11 : Int64) (x13 : Int64) (x23 : Int32) (x24 : Int32), k s_p0 x1 x2 x3 x4 x5 x6 x7 x9 x11 x13 x23 x24 = some res → ∀ (H : Heap) (locs : List Loc), va_P D vwCl (wB cI cJ cZ cQ a_p0 s_p0) H → va_D A (wB cI cJ cZ cQ a_p0 s_p0) → va_S A s.heap H locs → ∀ ls : Array Slot, lv_has ls 33 [(0, .ref (a_p0.1 0)), (1, .int x1), (2, .int x2), (3, .int x3), (4, .int x4), (5, .int x5), (6, .int x6), (7, .long x7), (9, .long x9), (11, .long x11), (13, .long x13), (23, .int x23), (24, .int x24)] → W p l e (headSpec wsL_cells rm_L_cells).room s m args below meth c H locs 0 0 (MQ below (qI D (tys4 cI cJ cZ cQ) (wB cI cJ cZ cQ a_p0 res.2) A res.1) args s 0 0 A) (F0 m 386 ls [])
def S_L_cells_352 (p : Program) (l : Launch) (e : Env) (s : State) (m : MethodId) (args : Array Value) (below : List Frame) (meth : Method) (c : Code) (A : Nat → Prop) (D : va_G) (cI cJ cZ cQ : ClassId) (a_p0 : AB) (res : R_L_cells) (k : ST → Int32 → Int32 → Int32 → Int32 → Int32 → Int32 → Int64 → Int64 → Int64 → Int64 → Int32 → Option R_L_cells) : Prop := ∀ (s_p0 : ST) (x1 : Int32) (x2 : Int32) (x3 : Int32) (x4 : Int32) (x5 : Int32) (x6 : Int32) (x7 : Int64) (x9 : Int64) (x11 : Int64) (x13 : Int64) (y0 : Int32), k s_p0 x1 x2 x3 x4 x5 x6 x7 x9 x11 x13 y0 = some res → ∀ (H : Heap) (locs : List Loc), va_P D vwCl (wB cI cJ cZ cQ a_p0 s_p0) H → va_D A (wB cI cJ cZ cQ a_p0 s_p0) → va_S A s.heap H locs → ∀ ls : Array Slot, lv_has ls 33 [(0, .ref (a_p0.1 0)), (1, .int x1), (2, .int x2), (3, .int x3), (4, .int x4), (5, .int x5), (6, .int x6), (7, .long x7), (9, .long x9), (11, .long x11), (13, .long x13)] → W p l e (headSpec wsL_cells rm_L_cells).room s m args below meth c H locs 0 0 (MQ below (qI D (tys4 cI cJ cZ cQ) (wB cI cJ cZ cQ a_p0 res.2) A res.1) args s 0 0 A) (F0 m 352 ls [.int y0])
def S_L_cells_327 (p : Program) (l : Launch) (e : Env) (s : State) (m : MethodId) (args : Array Value) (below : List Frame) (meth : Method) (c : Code) (A : Nat → Prop) (D : va_G) (cI cJ cZ cQ : ClassId) (a_p0 : AB) (res : R_L_cells) (k : ST → Int32 → Int32 → Int32 → Int32 → Int32 → Int64 → Int64 → Int64 → Int64 → Int32 → Option R_L_cells) : Prop := ∀ (s_p0 : ST) (x1 : Int32) (x3 : Int32) (x4 : Int32) (x5 : Int32) (x6 : Int32) (x7 : Int64) (x9 : Int64) (x11 : Int64) (x13 : Int64) (y0 : Int32), k s_p0 x1 x3 x4 x5 x6 x7 x9 x11 x13 y0 = some res → ∀ (H : Heap) (locs : List Loc), va_P D vwCl (wB cI cJ cZ cQ a_p0 s_p0) H → va_D A (wB cI cJ cZ cQ a_p0 s_p0) → va_S A s.heap H locs → ∀ ls : Array Slot, lv_has ls 33 [(0, .ref (a_p0.1 0)), (1, .int x1), (3, .int x3), (4, .int x4), (5, .int x5), (6, .int x6), (7, .long x7), (9, .long x9), (11, .long x11), (13, .long x13)] → W p l e (headSpec wsL_cells rm_L_cells).room s m args below meth c H locs 0 0 (MQ below (qI D (tys4 cI cJ cZ cQ) (wB cI cJ cZ cQ a_p0 res.2) A res.1) args s 0 0 A) (F0 m 327 ls [.int y0])
def S_L_cells_128 (p : Program) (l : Launch) (e : Env) (s : State) (m : MethodId) (args : Array Value) (below : List Frame) (meth : Method) (c : Code) (A : Nat → Prop) (D : va_G) (cI cJ cZ cQ : ClassId) (a_p0 : AB) (res : R_L_cells) (k : ST → Int32 → Int32 → Int32 → Int32 → Int32 → Int32 → Option R_L_cells) : Prop := ∀ (s_p0 : ST) (x1 : Int32) (x2 : Int32) (x3 : Int32) (x4 : Int32) (x5 : Int32) (x6 : Int32), k s_p0 x1 x2 x3 x4 x5 x6 = some res → ∀ (H : Heap) (locs : List Loc), va_P D vwCl (wB cI cJ cZ cQ a_p0 s_p0) H → va_D A (wB cI cJ cZ cQ a_p0 s_p0) → va_S A s.heap H locs → ∀ ls : Array Slot, lv_has ls 33 [(0, .ref (a_p0.1 0)), (1, .int x1), (2, .int x2), (3, .int x3), (4, .int x4), (5, .int x5), (6, .int x6)] → W p l e (headSpec wsL_cells rm_L_cells).room s m args below meth c H locs 0 0 (MQ below (qI D (tys4 cI cJ cZ cQ) (wB cI cJ cZ cQ a_p0 res.2) A res.1) args s 0 0 A) (F0 m 128 ls [])
def S_L_cells_109 (p : Program) (l : Launch) (e : Env) (s : State) (m : MethodId) (args : Array Value) (below : List Frame) (meth : Method) (c : Code) (A : Nat → Prop) (D : va_G) (cI cJ cZ cQ : ClassId) (a_p0 : AB) (res : R_L_cells) (k : ST → Int32 → Int32 → Int32 → Int32 → Int32 → Int32 → Option R_L_cells) : Prop := ∀ (s_p0 : ST) (x1 : Int32) (x3 : Int32) (x4 : Int32) (x5 : Int32) (y0 : Int32) (y1 : Int32), k s_p0 x1 x3 x4 x5 y0 y1 = some res → ∀ (H : Heap) (locs : List Loc), va_P D vwCl (wB cI cJ cZ cQ a_p0 s_p0) H → va_D A (wB cI cJ cZ cQ a_p0 s_p0) → va_S A s.heap H locs → ∀ ls : Array Slot, lv_has ls 33 [(0, .ref (a_p0.1 0)), (1, .int x1), (3, .int x3), (4, .int x4), (5, .int x5)] → W p l e (headSpec wsL_cells rm_L_cells).room s m args below meth c H locs 0 0 (MQ below (qI D (tys4 cI cJ cZ cQ) (wB cI cJ cZ cQ a_p0 res.2) A res.1) args s 0 0 A) (F0 m 109 ls [.int y1, .int y0])
def S_L_cells_83 (p : Program) (l : Launch) (e : Env) (s : State) (m : MethodId) (args : Array Value) (below : List Frame) (meth : Method) (c : Code) (A : Nat → Prop) (D : va_G) (cI cJ cZ cQ : ClassId) (a_p0 : AB) (res : R_L_cells) (k : ST → Int32 → Int32 → Int32 → Int32 → Option R_L_cells) : Prop := ∀ (s_p0 : ST) (x1 : Int32) (x3 : Int32) (x4 : Int32) (x5 : Int32), k s_p0 x1 x3 x4 x5 = some res → ∀ (H : Heap) (locs : List Loc), va_P D vwCl (wB cI cJ cZ cQ a_p0 s_p0) H → va_D A (wB cI cJ cZ cQ a_p0 s_p0) → va_S A s.heap H locs → ∀ ls : Array Slot, lv_has ls 33 [(0, .ref (a_p0.1 0)), (1, .int x1), (3, .int x3), (4, .int x4), (5, .int x5)] → W p l e (headSpec wsL_cells rm_L_cells).room s m args below meth c H locs 0 0 (MQ below (qI D (tys4 cI cJ cZ cQ) (wB cI cJ cZ cQ a_p0 res.2) A res.1) args s 0 0 A) (F0 m 83 ls [])
def S_L_cells_61 (p : Program) (l : Launch) (e : Env) (s : State) (m : MethodId) (args : Array Value) (below : List Frame) (meth : Method) (c : Code) (A : Nat → Prop) (D : va_G) (cI cJ cZ cQ : ClassId) (a_p0 : AB) (res : R_L_cells) (k : ST → Int32 → Int32 → Int32 → Int32 → Int32 → Int32 → Option R_L_cells) : Prop := ∀ (s_p0 : ST) (x1 : Int32) (x3 : Int32) (x4 : Int32) (x5 : Int32) (y0 : Int32) (y1 : Int32), k s_p0 x1 x3 x4 x5 y0 y1 = some res → ∀ (H : Heap) (locs : List Loc), va_P D vwCl (wB cI cJ cZ cQ a_p0 s_p0) H → va_D A (wB cI cJ cZ cQ a_p0 s_p0) → va_S A s.heap H locs → ∀ ls : Array Slot, lv_has ls 33 [(0, .ref (a_p0.1 0)), (1, .int x1), (3, .int x3), (4, .int x4), (5, .int x5)] → W p l e (headSpec wsL_cells rm_L_cells).room s m args below meth c H locs 0 0 (MQ below (qI D (tys4 cI cJ cZ cQ) (wB cI cJ cZ cQ a_p0 res.2) A res.1) args s 0 0 A) (F0 m 61 ls [.int y1, .int y0])
def S_L_cells_43 (p : Program) (l : Launch) (e : Env) (s : State) (m : MethodId) (args : Array Value) (below : List Frame) (meth : Method) (c : Code) (A : Nat → Prop) (D : va_G) (cI cJ cZ cQ : ClassId) (a_p0 : AB) (res : R_L_cells) (k : ST → Int32 → Int32 → Int32 → Int32 → Option R_L_cells) : Prop := ∀ (s_p0 : ST) (x1 : Int32) (x3 : Int32) (x4 : Int32) (x5 : Int32), k s_p0 x1 x3 x4 x5 = some res → ∀ (H : Heap) (locs : List Loc), va_P D vwCl (wB cI cJ cZ cQ a_p0 s_p0) H → va_D A (wB cI cJ cZ cQ a_p0 s_p0) → va_S A s.heap H locs → ∀ ls : Array Slot, lv_has ls 33 [(0, .ref (a_p0.1 0)), (1, .int x1), (3, .int x3), (4, .int x4), (5, .int x5)] → W p l e (headSpec wsL_cells rm_L_cells).room s m args below meth c H locs 0 0 (MQ below (qI D (tys4 cI cJ cZ cQ) (wB cI cJ cZ cQ a_p0 res.2) A res.1) args s 0 0 A) (F0 m 43 ls [])
def S_L_cells_9 (p : Program) (l : Launch) (e : Env) (s : State) (m : MethodId) (args : Array Value) (below : List Frame) (meth : Method) (c : Code) (A : Nat → Prop) (D : va_G) (cI cJ cZ cQ : ClassId) (a_p0 : AB) (res : R_L_cells) (k : ST → Int32 → Int32 → Int32 → Option R_L_cells) : Prop := ∀ (s_p0 : ST) (x1 : Int32) (x2 : Int32) (x3 : Int32), k s_p0 x1 x2 x3 = some res → ∀ (H : Heap) (locs : List Loc), va_P D vwCl (wB cI cJ cZ cQ a_p0 s_p0) H → va_D A (wB cI cJ cZ cQ a_p0 s_p0) → va_S A s.heap H locs → ∀ ls : Array Slot, lv_has ls 33 [(0, .ref (a_p0.1 0)), (1, .int x1), (2, .int x2), (3, .int x3)] → W p l e (headSpec wsL_cells rm_L_cells).room s m args below meth c H locs 0 0 (MQ below (qI D (tys4 cI cJ cZ cQ) (wB cI cJ cZ cQ a_p0 res.2) A res.1) args s 0 0 A) (F0 m 9 ls [])
def S_L_cells_0 (p : Program) (l : Launch) (e : Env) (s : State) (m : MethodId) (args : Array Value) (below : List Frame) (meth : Method) (c : Code) (A : Nat → Prop) (D : va_G) (cI cJ cZ cQ : ClassId) (a_p0 : AB) (res : R_L_cells) (k : ST → Option R_L_cells) : Prop := ∀ (s_p0 : ST), k s_p0 = some res → ∀ (H : Heap) (locs : List Loc), va_P D vwCl (wB cI cJ cZ cQ a_p0 s_p0) H → va_D A (wB cI cJ cZ cQ a_p0 s_p0) → va_S A s.heap H locs → ∀ ls : Array Slot, lv_has ls 33 [(0, .ref (a_p0.1 0))] → W p l e (headSpec wsL_cells rm_L_cells).room s m args below meth c H locs 0 0 (MQ below (qI D (tys4 cI cJ cZ cQ) (wB cI cJ cZ cQ a_p0 res.2) A res.1) args s 0 0 A) (F0 m 0 ls [])
set_option maxHeartbeats 4000000 in
set_option maxRecDepth 100000 in
theorem i_L_cells_567 {p : Program} {l : Launch} {e : Env} {s : State} {m : MethodId} {args : Array Value} {below : List Frame} {meth : Method} {c : Code} {A : Nat → Prop} {D : va_G} {cI cJ cZ cQ : ClassId} {a_p0 : AB} {res : R_L_cells} {k9 : ST → Int32 → Int32 → Int32 → Option R_L_cells} {k567 : ST → Int32 → Int32 → Int32 → Int32 → Int32 → Option R_L_cells} (hC : mcx RL cL_cells (some .boolean) 33 wsL_cells p s m args meth c A D (tys4 cI cJ cZ cQ)) (hk9 : S_L_cells_9 p l e s m args below meth c A D cI cJ cZ cQ a_p0 res k9) (hk567 : S_L_cells_567 p l e s m args below meth c A D cI cJ cZ cQ a_p0 res k567) : S_L_cells_567 p l e s m args below meth c A D cI cJ cZ cQ a_p0 res (g_L_cells_567 k9 k567) := by
  intro s_p0 x1 x2 x3 x5 x6 hf H locs hP hD hS ls hl
  obtain ⟨hx, hb, hr, hml, hown, hts, hlocks, hA, hK, hN⟩ := id hC
  unfold g_L_cells_567 at hf
  refine lv_iload hx hb dL_cells_567 (lv_at hl 5 rfl) ?_
  refine lv_iload_n hx hb dL_cells_569 rfl (lv_at hl 1 rfl) ?_
  refine lv_icmp_ge (tgt := 609) hx hb dL_cells_570 (by decide) (fun c1 => ?_) (fun c1 => ?_)
  · replace hf := brT c1 hf
    refine lv_iinc (v := (x3 + (1 : Int32))) (lv' := [(3, .int (x3 + (1 : Int32))), (0, .ref (a_p0.1 0)), (1, .int x1), (2, .int x2), (5, .int x5), (6, .int x6)]) hx hb dL_cells_609 hl (k := 3) rfl rfl (by decide) rfl (fun ls hl => ?_)
    refine lv_goto (tgt := 9) hx hb dL_cells_612 (by decide) ?_
    exact (hk9) s_p0 x1 x2 (x3 + (1 : Int32)) hf _ _ hP hD hS _ (lv_sub hl [1, 2, 3, 0] rfl)
  · replace hf := brF c1 hf
    refine lv_iload_n hx hb dL_cells_573 rfl (lv_at hl 2 rfl) ?_
    refine lv_if_eq (tgt := 609) hx hb dL_cells_574 (by decide) (fun c2 => ?_) (fun c2 => ?_)
    · replace hf := brT c2 hf
      refine lv_iinc (v := (x3 + (1 : Int32))) (lv' := [(3, .int (x3 + (1 : Int32))), (0, .ref (a_p0.1 0)), (1, .int x1), (2, .int x2), (5, .int x5), (6, .int x6)]) hx hb dL_cells_609 hl (k := 3) rfl rfl (by decide) rfl (fun ls hl => ?_)
      refine lv_goto (tgt := 9) hx hb dL_cells_612 (by decide) ?_
      exact (hk9) s_p0 x1 x2 (x3 + (1 : Int32)) hf _ _ hP hD hS _ (lv_sub hl [1, 2, 3, 0] rfl)
    · replace hf := brF c2 hf
      refine lv_iload hx hb dL_cells_577 (lv_at hl 4 rfl) ?_
      refine lv_iload hx hb dL_cells_579 (lv_at hl 5 rfl) ?_
      refine lv_ishr hx hb dL_cells_581 ?_
      refine lv_iconst (v := (1 : Int32)) hx hb dL_cells_582 (by decide) ?_
      refine lv_iand hx hb dL_cells_583 ?_
      refine lv_aload_n hx hb dL_cells_584 rfl (lv_at hl 0 rfl) ?_
      refine lv_iload hx hb dL_cells_585 (lv_at hl 5 rfl) ?_
      obtain ⟨r3, s4, hq5, hf⟩ := bnd2_of hf
      refine callX (As := [.int x6]) (rest := [.int ((x5 >>> (x6 &&& 31)) &&& (1 : Int32))]) (ci := 5) (q0 := 0) (wr := ([])) (WB := (wB cI cJ cZ cQ a_p0 s4)) hx hb hml hown hts hK hN (b_X5_neighbours l D cI cJ cZ cQ a_p0 s_p0 x6 hq5) (cwV 1 hts gL_cells_X5_neighbours rfl rfl rfl e_X5_neighbours ⟨Nat.le_of_ble_eq_true rfl, Nat.le_of_ble_eq_true rfl⟩) hP hD hS hA pmN pmN.symm rfl rfl rfl rfl hl (Nat.le_of_ble_eq_true rfl) dL_cells_587 ⟨Nat.zero_le _, Nat.zero_le _⟩ rfl (fun H locs hP hD hS => ?_)
      refine lv_iload_n hx hb dL_cells_590 rfl (lv_at hl 3 rfl) ?_
      refine lv_ishr hx hb dL_cells_591 ?_
      refine lv_iconst (v := (1 : Int32)) hx hb dL_cells_592 (by decide) ?_
      refine lv_iand hx hb dL_cells_593 ?_
      refine lv_icmp_ne (tgt := 601) hx hb dL_cells_594 (by decide) (fun c6 => ?_) (fun c6 => ?_)
      · replace hf := brF c6 hf
        refine lv_iconst (v := (0 : Int32)) hx hb dL_cells_601 (by decide) ?_
        refine lv_istore_n (lv' := [(2, .int (0 : Int32)), (0, .ref (a_p0.1 0)), (1, .int x1), (3, .int x3), (5, .int x5), (6, .int x6)]) hx hb dL_cells_602 rfl hl (by decide) rfl (fun ls hl => ?_)
        refine lv_iinc (v := (x6 + (1 : Int32))) (lv' := [(6, .int (x6 + (1 : Int32))), (2, .int (0 : Int32)), (0, .ref (a_p0.1 0)), (1, .int x1), (3, .int x3), (5, .int x5)]) hx hb dL_cells_603 hl (k := 5) rfl rfl (by decide) rfl (fun ls hl => ?_)
        refine lv_goto (tgt := 567) hx hb dL_cells_606 (by decide) ?_
        exact (hk567) s4 x1 (0 : Int32) x3 x5 (x6 + (1 : Int32)) hf _ _ hP hD hS _ (lv_sub hl [2, 3, 1, 4, 5, 0] rfl)
      · replace hf := brT c6 hf
        refine lv_iconst (v := (1 : Int32)) hx hb dL_cells_597 (by decide) ?_
        refine lv_goto (tgt := 602) hx hb dL_cells_598 (by decide) ?_
        refine lv_istore_n (lv' := [(2, .int (1 : Int32)), (0, .ref (a_p0.1 0)), (1, .int x1), (3, .int x3), (5, .int x5), (6, .int x6)]) hx hb dL_cells_602 rfl hl (by decide) rfl (fun ls hl => ?_)
        refine lv_iinc (v := (x6 + (1 : Int32))) (lv' := [(6, .int (x6 + (1 : Int32))), (2, .int (1 : Int32)), (0, .ref (a_p0.1 0)), (1, .int x1), (3, .int x3), (5, .int x5)]) hx hb dL_cells_603 hl (k := 5) rfl rfl (by decide) rfl (fun ls hl => ?_)
        refine lv_goto (tgt := 567) hx hb dL_cells_606 (by decide) ?_
        exact (hk567) s4 x1 (1 : Int32) x3 x5 (x6 + (1 : Int32)) hf _ _ hP hD hS _ (lv_sub hl [2, 3, 1, 4, 5, 0] rfl)
theorem t_L_cells_567 {p : Program} {l : Launch} {e : Env} {s : State} {m : MethodId} {args : Array Value} {below : List Frame} {meth : Method} {c : Code} {A : Nat → Prop} {D : va_G} {cI cJ cZ cQ : ClassId} {a_p0 : AB} {res : R_L_cells} {k9 : ST → Int32 → Int32 → Int32 → Option R_L_cells} (hC : mcx RL cL_cells (some .boolean) 33 wsL_cells p s m args meth c A D (tys4 cI cJ cZ cQ)) (hk9 : S_L_cells_9 p l e s m args below meth c A D cI cJ cZ cQ a_p0 res k9) (n : Nat) : S_L_cells_567 p l e s m args below meth c A D cI cJ cZ cQ a_p0 res (f_L_cells_567 k9 n) := by
  induction n with
  | zero =>
    intro s_p0 x1 x2 x3 x5 x6 hf
    exact nomatch (show (none : Option R_L_cells) = some res from hf)
  | succ n ih => exact i_L_cells_567 hC hk9 ih
set_option maxHeartbeats 4000000 in
set_option maxRecDepth 100000 in
theorem t_L_cells_491 {p : Program} {l : Launch} {e : Env} {s : State} {m : MethodId} {args : Array Value} {below : List Frame} {meth : Method} {c : Code} {A : Nat → Prop} {D : va_G} {cI cJ cZ cQ : ClassId} {a_p0 : AB} {res : R_L_cells} {k386 : ST → Int32 → Int32 → Int32 → Int32 → Int32 → Int32 → Int64 → Int64 → Int64 → Int64 → Int32 → Int32 → Option R_L_cells} (hC : mcx RL cL_cells (some .boolean) 33 wsL_cells p s m args meth c A D (tys4 cI cJ cZ cQ)) (hk386 : S_L_cells_386 p l e s m args below meth c A D cI cJ cZ cQ a_p0 res k386) : S_L_cells_491 p l e s m args below meth c A D cI cJ cZ cQ a_p0 res (f_L_cells_491 k386) := by
  intro s_p0 x1 x3 x4 x5 x6 x7 x9 x11 x13 x23 x24 x25 x27 x29 x31 y0 hf H locs hP hD hS ls hl
  obtain ⟨hx, hb, hr, hml, hown, hts, hlocks, hA, hK, hN⟩ := id hC
  unfold f_L_cells_491 at hf
  refine lv_istore_n (lv' := [(2, .int y0), (0, .ref (a_p0.1 0)), (1, .int x1), (3, .int x3), (4, .int x4), (5, .int x5), (6, .int x6), (7, .long x7), (9, .long x9), (11, .long x11), (13, .long x13), (23, .int x23), (24, .int x24), (25, .long x25), (27, .long x27), (29, .long x29), (31, .long x31)]) hx hb dL_cells_491 rfl hl (by decide) rfl (fun ls hl => ?_)
  refine lv_iload hx hb dL_cells_492 (lv_at hl 11 rfl) ?_
  refine lv_iload hx hb dL_cells_494 (lv_at hl 12 rfl) ?_
  refine lv_iload_n hx hb dL_cells_496 rfl (lv_at hl 3 rfl) ?_
  refine lv_icmp_eq (tgt := 532) hx hb dL_cells_497 (by decide) (fun c1 => ?_) (fun c1 => ?_)
  · replace hf := brT c1 hf
    refine lv_iconst (v := (0 : Int32)) hx hb dL_cells_532 (by decide) ?_
    refine lv_iadd hx hb dL_cells_533 ?_
    refine lv_topi (fun v2 ev2 => ?_)
    replace hf := nm_of ev2 hf
    refine lv_istore (lv' := [(23, .int v2), (2, .int y0), (0, .ref (a_p0.1 0)), (1, .int x1), (3, .int x3), (4, .int x4), (5, .int x5), (6, .int x6), (7, .long x7), (9, .long x9), (11, .long x11), (13, .long x13), (24, .int x24), (25, .long x25), (27, .long x27), (29, .long x29), (31, .long x31)]) hx hb dL_cells_534 hl (by decide) rfl (fun ls hl => ?_)
    refine lv_iinc (v := (x24 + (1 : Int32))) (lv' := [(24, .int (x24 + (1 : Int32))), (23, .int v2), (2, .int y0), (0, .ref (a_p0.1 0)), (1, .int x1), (3, .int x3), (4, .int x4), (5, .int x5), (6, .int x6), (7, .long x7), (9, .long x9), (11, .long x11), (13, .long x13), (25, .long x25), (27, .long x27), (29, .long x29), (31, .long x31)]) hx hb dL_cells_536 hl (k := 12) rfl rfl (by decide) rfl (fun ls hl => ?_)
    refine lv_goto (tgt := 386) hx hb dL_cells_539 (by decide) ?_
    exact (hk386) s_p0 x1 y0 x3 x4 x5 x6 x7 x9 x11 x13 v2 (x24 + (1 : Int32)) hf _ _ hP hD hS _ (lv_sub hl [3, 4, 2, 5, 6, 7, 8, 9, 10, 11, 12, 1, 0] rfl)
  · replace hf := brF c1 hf
    refine lv_lload hx hb dL_cells_500 (lv_at hl 16 rfl) ?_
    refine lv_lload hx hb dL_cells_502 (lv_at hl 15 rfl) ?_
    refine lv_lload hx hb dL_cells_504 (lv_at hl 8 rfl) ?_
    refine lv_lmul hx hb dL_cells_506 ?_
    refine lv_lload hx hb dL_cells_507 (lv_at hl 10 rfl) ?_
    refine lv_lmul hx hb dL_cells_509 ?_
    refine W.lcmp hx hb dL_cells_510 ?_
    refine lv_if_ne (tgt := 532) hx hb dL_cells_511 (by decide) (fun c3 => ?_) (fun c3 => ?_)
    · replace hf := brF c3 hf
      refine lv_iconst (v := (0 : Int32)) hx hb dL_cells_532 (by decide) ?_
      refine lv_iadd hx hb dL_cells_533 ?_
      refine lv_topi (fun v4 ev4 => ?_)
      replace hf := nm_of ev4 hf
      refine lv_istore (lv' := [(23, .int v4), (2, .int y0), (0, .ref (a_p0.1 0)), (1, .int x1), (3, .int x3), (4, .int x4), (5, .int x5), (6, .int x6), (7, .long x7), (9, .long x9), (11, .long x11), (13, .long x13), (24, .int x24), (25, .long x25), (27, .long x27), (29, .long x29), (31, .long x31)]) hx hb dL_cells_534 hl (by decide) rfl (fun ls hl => ?_)
      refine lv_iinc (v := (x24 + (1 : Int32))) (lv' := [(24, .int (x24 + (1 : Int32))), (23, .int v4), (2, .int y0), (0, .ref (a_p0.1 0)), (1, .int x1), (3, .int x3), (4, .int x4), (5, .int x5), (6, .int x6), (7, .long x7), (9, .long x9), (11, .long x11), (13, .long x13), (25, .long x25), (27, .long x27), (29, .long x29), (31, .long x31)]) hx hb dL_cells_536 hl (k := 12) rfl rfl (by decide) rfl (fun ls hl => ?_)
      refine lv_goto (tgt := 386) hx hb dL_cells_539 (by decide) ?_
      exact (hk386) s_p0 x1 y0 x3 x4 x5 x6 x7 x9 x11 x13 v4 (x24 + (1 : Int32)) hf _ _ hP hD hS _ (lv_sub hl [3, 4, 2, 5, 6, 7, 8, 9, 10, 11, 12, 1, 0] rfl)
    · replace hf := brT c3 hf
      refine lv_lload hx hb dL_cells_514 (lv_at hl 13 rfl) ?_
      refine lv_lconst (v := (0 : Int64)) hx hb dL_cells_516 (by decide) ?_
      refine W.lcmp hx hb dL_cells_517 ?_
      refine lv_if_ne (tgt := 528) hx hb dL_cells_518 (by decide) (fun c5 => ?_) (fun c5 => ?_)
      · replace hf := brF c5 hf
        refine lv_iconst (v := (1 : Int32)) hx hb dL_cells_528 (by decide) ?_
        refine lv_goto (tgt := 533) hx hb dL_cells_529 (by decide) ?_
        refine lv_iadd hx hb dL_cells_533 ?_
        refine lv_topi (fun v6 ev6 => ?_)
        replace hf := nm_of ev6 hf
        refine lv_istore (lv' := [(23, .int v6), (2, .int y0), (0, .ref (a_p0.1 0)), (1, .int x1), (3, .int x3), (4, .int x4), (5, .int x5), (6, .int x6), (7, .long x7), (9, .long x9), (11, .long x11), (13, .long x13), (24, .int x24), (25, .long x25), (27, .long x27), (29, .long x29), (31, .long x31)]) hx hb dL_cells_534 hl (by decide) rfl (fun ls hl => ?_)
        refine lv_iinc (v := (x24 + (1 : Int32))) (lv' := [(24, .int (x24 + (1 : Int32))), (23, .int v6), (2, .int y0), (0, .ref (a_p0.1 0)), (1, .int x1), (3, .int x3), (4, .int x4), (5, .int x5), (6, .int x6), (7, .long x7), (9, .long x9), (11, .long x11), (13, .long x13), (25, .long x25), (27, .long x27), (29, .long x29), (31, .long x31)]) hx hb dL_cells_536 hl (k := 12) rfl rfl (by decide) rfl (fun ls hl => ?_)
        refine lv_goto (tgt := 386) hx hb dL_cells_539 (by decide) ?_
        exact (hk386) s_p0 x1 y0 x3 x4 x5 x6 x7 x9 x11 x13 v6 (x24 + (1 : Int32)) hf _ _ hP hD hS _ (lv_sub hl [3, 4, 2, 5, 6, 7, 8, 9, 10, 11, 12, 1, 0] rfl)
      · replace hf := brT c5 hf
        refine lv_lload hx hb dL_cells_521 (lv_at hl 14 rfl) ?_
        refine lv_lconst (v := (0 : Int64)) hx hb dL_cells_523 (by decide) ?_
        refine W.lcmp hx hb dL_cells_524 ?_
        refine lv_if_eq (tgt := 532) hx hb dL_cells_525 (by decide) (fun c7 => ?_) (fun c7 => ?_)
        · replace hf := brT c7 hf
          refine lv_iconst (v := (0 : Int32)) hx hb dL_cells_532 (by decide) ?_
          refine lv_iadd hx hb dL_cells_533 ?_
          refine lv_topi (fun v8 ev8 => ?_)
          replace hf := nm_of ev8 hf
          refine lv_istore (lv' := [(23, .int v8), (2, .int y0), (0, .ref (a_p0.1 0)), (1, .int x1), (3, .int x3), (4, .int x4), (5, .int x5), (6, .int x6), (7, .long x7), (9, .long x9), (11, .long x11), (13, .long x13), (24, .int x24), (25, .long x25), (27, .long x27), (29, .long x29), (31, .long x31)]) hx hb dL_cells_534 hl (by decide) rfl (fun ls hl => ?_)
          refine lv_iinc (v := (x24 + (1 : Int32))) (lv' := [(24, .int (x24 + (1 : Int32))), (23, .int v8), (2, .int y0), (0, .ref (a_p0.1 0)), (1, .int x1), (3, .int x3), (4, .int x4), (5, .int x5), (6, .int x6), (7, .long x7), (9, .long x9), (11, .long x11), (13, .long x13), (25, .long x25), (27, .long x27), (29, .long x29), (31, .long x31)]) hx hb dL_cells_536 hl (k := 12) rfl rfl (by decide) rfl (fun ls hl => ?_)
          refine lv_goto (tgt := 386) hx hb dL_cells_539 (by decide) ?_
          exact (hk386) s_p0 x1 y0 x3 x4 x5 x6 x7 x9 x11 x13 v8 (x24 + (1 : Int32)) hf _ _ hP hD hS _ (lv_sub hl [3, 4, 2, 5, 6, 7, 8, 9, 10, 11, 12, 1, 0] rfl)
        · replace hf := brF c7 hf
          refine lv_iconst (v := (1 : Int32)) hx hb dL_cells_528 (by decide) ?_
          refine lv_goto (tgt := 533) hx hb dL_cells_529 (by decide) ?_
          refine lv_iadd hx hb dL_cells_533 ?_
          refine lv_topi (fun v9 ev9 => ?_)
          replace hf := nm_of ev9 hf
          refine lv_istore (lv' := [(23, .int v9), (2, .int y0), (0, .ref (a_p0.1 0)), (1, .int x1), (3, .int x3), (4, .int x4), (5, .int x5), (6, .int x6), (7, .long x7), (9, .long x9), (11, .long x11), (13, .long x13), (24, .int x24), (25, .long x25), (27, .long x27), (29, .long x29), (31, .long x31)]) hx hb dL_cells_534 hl (by decide) rfl (fun ls hl => ?_)
          refine lv_iinc (v := (x24 + (1 : Int32))) (lv' := [(24, .int (x24 + (1 : Int32))), (23, .int v9), (2, .int y0), (0, .ref (a_p0.1 0)), (1, .int x1), (3, .int x3), (4, .int x4), (5, .int x5), (6, .int x6), (7, .long x7), (9, .long x9), (11, .long x11), (13, .long x13), (25, .long x25), (27, .long x27), (29, .long x29), (31, .long x31)]) hx hb dL_cells_536 hl (k := 12) rfl rfl (by decide) rfl (fun ls hl => ?_)
          refine lv_goto (tgt := 386) hx hb dL_cells_539 (by decide) ?_
          exact (hk386) s_p0 x1 y0 x3 x4 x5 x6 x7 x9 x11 x13 v9 (x24 + (1 : Int32)) hf _ _ hP hD hS _ (lv_sub hl [3, 4, 2, 5, 6, 7, 8, 9, 10, 11, 12, 1, 0] rfl)
set_option maxHeartbeats 4000000 in
set_option maxRecDepth 100000 in
theorem i_L_cells_386 {p : Program} {l : Launch} {e : Env} {s : State} {m : MethodId} {args : Array Value} {below : List Frame} {meth : Method} {c : Code} {A : Nat → Prop} {D : va_G} {cI cJ cZ cQ : ClassId} {a_p0 : AB} {res : R_L_cells} {k128 : ST → Int32 → Int32 → Int32 → Int32 → Int32 → Int32 → Option R_L_cells} {k386 : ST → Int32 → Int32 → Int32 → Int32 → Int32 → Int32 → Int64 → Int64 → Int64 → Int64 → Int32 → Int32 → Option R_L_cells} (hC : mcx RL cL_cells (some .boolean) 33 wsL_cells p s m args meth c A D (tys4 cI cJ cZ cQ)) (hk128 : S_L_cells_128 p l e s m args below meth c A D cI cJ cZ cQ a_p0 res k128) (hk386 : S_L_cells_386 p l e s m args below meth c A D cI cJ cZ cQ a_p0 res k386) : S_L_cells_386 p l e s m args below meth c A D cI cJ cZ cQ a_p0 res (g_L_cells_386 k128 k386) := by
  intro s_p0 x1 x2 x3 x4 x5 x6 x7 x9 x11 x13 x23 x24 hf H locs hP hD hS ls hl
  obtain ⟨hx, hb, hr, hml, hown, hts, hlocks, hA, hK, hN⟩ := id hC
  unfold g_L_cells_386 at hf
  refine lv_iload hx hb dL_cells_386 (lv_at hl 12 rfl) ?_
  refine lv_iload_n hx hb dL_cells_388 rfl (lv_at hl 1 rfl) ?_
  refine lv_icmp_ge (tgt := 542) hx hb dL_cells_389 (by decide) (fun c1 => ?_) (fun c1 => ?_)
  · replace hf := brT c1 hf
    refine lv_iload_n hx hb dL_cells_542 rfl (lv_at hl 2 rfl) ?_
    refine lv_if_eq (tgt := 556) hx hb dL_cells_543 (by decide) (fun c2 => ?_) (fun c2 => ?_)
    · replace hf := brT c2 hf
      refine lv_iconst (v := (0 : Int32)) hx hb dL_cells_556 (by decide) ?_
      refine lv_istore_n (lv' := [(2, .int (0 : Int32)), (0, .ref (a_p0.1 0)), (1, .int x1), (3, .int x3), (4, .int x4), (5, .int x5), (6, .int x6), (7, .long x7), (9, .long x9), (11, .long x11), (13, .long x13), (23, .int x23), (24, .int x24)]) hx hb dL_cells_557 rfl hl (by decide) rfl (fun ls hl => ?_)
      refine lv_iinc (v := (x6 + (1 : Int32))) (lv' := [(6, .int (x6 + (1 : Int32))), (2, .int (0 : Int32)), (0, .ref (a_p0.1 0)), (1, .int x1), (3, .int x3), (4, .int x4), (5, .int x5), (7, .long x7), (9, .long x9), (11, .long x11), (13, .long x13), (23, .int x23), (24, .int x24)]) hx hb dL_cells_558 hl (k := 6) rfl rfl (by decide) rfl (fun ls hl => ?_)
      refine lv_goto (tgt := 128) hx hb dL_cells_561 (by decide) ?_
      exact (hk128) s_p0 x1 (0 : Int32) x3 x4 x5 (x6 + (1 : Int32)) hf _ _ hP hD hS _ (lv_sub hl [2, 3, 1, 4, 5, 6, 0] rfl)
    · replace hf := brF c2 hf
      refine lv_iload hx hb dL_cells_546 (lv_at hl 11 rfl) ?_
      refine lv_iconst (v := (1 : Int32)) hx hb dL_cells_548 (by decide) ?_
      refine lv_icmp_le (tgt := 556) hx hb dL_cells_549 (by decide) (fun c3 => ?_) (fun c3 => ?_)
      · replace hf := brT c3 hf
        refine lv_iconst (v := (0 : Int32)) hx hb dL_cells_556 (by decide) ?_
        refine lv_istore_n (lv' := [(2, .int (0 : Int32)), (0, .ref (a_p0.1 0)), (1, .int x1), (3, .int x3), (4, .int x4), (5, .int x5), (6, .int x6), (7, .long x7), (9, .long x9), (11, .long x11), (13, .long x13), (23, .int x23), (24, .int x24)]) hx hb dL_cells_557 rfl hl (by decide) rfl (fun ls hl => ?_)
        refine lv_iinc (v := (x6 + (1 : Int32))) (lv' := [(6, .int (x6 + (1 : Int32))), (2, .int (0 : Int32)), (0, .ref (a_p0.1 0)), (1, .int x1), (3, .int x3), (4, .int x4), (5, .int x5), (7, .long x7), (9, .long x9), (11, .long x11), (13, .long x13), (23, .int x23), (24, .int x24)]) hx hb dL_cells_558 hl (k := 6) rfl rfl (by decide) rfl (fun ls hl => ?_)
        refine lv_goto (tgt := 128) hx hb dL_cells_561 (by decide) ?_
        exact (hk128) s_p0 x1 (0 : Int32) x3 x4 x5 (x6 + (1 : Int32)) hf _ _ hP hD hS _ (lv_sub hl [2, 3, 1, 4, 5, 6, 0] rfl)
      · replace hf := brF c3 hf
        refine lv_iconst (v := (1 : Int32)) hx hb dL_cells_552 (by decide) ?_
        refine lv_goto (tgt := 557) hx hb dL_cells_553 (by decide) ?_
        refine lv_istore_n (lv' := [(2, .int (1 : Int32)), (0, .ref (a_p0.1 0)), (1, .int x1), (3, .int x3), (4, .int x4), (5, .int x5), (6, .int x6), (7, .long x7), (9, .long x9), (11, .long x11), (13, .long x13), (23, .int x23), (24, .int x24)]) hx hb dL_cells_557 rfl hl (by decide) rfl (fun ls hl => ?_)
        refine lv_iinc (v := (x6 + (1 : Int32))) (lv' := [(6, .int (x6 + (1 : Int32))), (2, .int (1 : Int32)), (0, .ref (a_p0.1 0)), (1, .int x1), (3, .int x3), (4, .int x4), (5, .int x5), (7, .long x7), (9, .long x9), (11, .long x11), (13, .long x13), (23, .int x23), (24, .int x24)]) hx hb dL_cells_558 hl (k := 6) rfl rfl (by decide) rfl (fun ls hl => ?_)
        refine lv_goto (tgt := 128) hx hb dL_cells_561 (by decide) ?_
        exact (hk128) s_p0 x1 (1 : Int32) x3 x4 x5 (x6 + (1 : Int32)) hf _ _ hP hD hS _ (lv_sub hl [2, 3, 1, 4, 5, 6, 0] rfl)
  · replace hf := brF c1 hf
    refine lv_iconst (v := (2 : Int32)) hx hb dL_cells_392 (by decide) ?_
    refine lv_aload_n hx hb dL_cells_393 rfl (lv_at hl 0 rfl) ?_
    refine lv_iload hx hb dL_cells_394 (lv_at hl 12 rfl) ?_
    refine lv_iconst (v := (0 : Int32)) hx hb dL_cells_396 (by decide) ?_
    obtain ⟨r4, s5, hq6, hf⟩ := bnd2_of hf
    refine callX (As := [.int x24, .int (0 : Int32)]) (rest := [.int (2 : Int32)]) (ci := 5) (q0 := 0) (wr := ([])) (WB := (wB cI cJ cZ cQ a_p0 s5)) hx hb hml hown hts hK hN (b_X5_site l D cI cJ cZ cQ a_p0 s_p0 x24 (0 : Int32) hq6) (cwV 2 hts gL_cells_X5_site rfl rfl rfl e_X5_site ⟨Nat.le_of_ble_eq_true rfl, Nat.le_of_ble_eq_true rfl⟩) hP hD hS hA pmN pmN.symm rfl rfl rfl rfl hl (Nat.le_of_ble_eq_true rfl) dL_cells_397 ⟨Nat.zero_le _, Nat.zero_le _⟩ rfl (fun H locs hP hD hS => ?_)
    refine lv_aload_n hx hb dL_cells_400 rfl (lv_at hl 0 rfl) ?_
    refine lv_iload_n hx hb dL_cells_401 rfl (lv_at hl 3 rfl) ?_
    refine lv_iconst (v := (0 : Int32)) hx hb dL_cells_402 (by decide) ?_
    obtain ⟨r7, s8, hq9, hf⟩ := bnd2_of hf
    refine callX (As := [.int x3, .int (0 : Int32)]) (rest := [.int r4, .int (2 : Int32)]) (ci := 5) (q0 := 0) (wr := ([])) (WB := (wB cI cJ cZ cQ a_p0 s8)) hx hb hml hown hts hK hN (b_X5_site l D cI cJ cZ cQ a_p0 s5 x3 (0 : Int32) hq9) (cwV 2 hts gL_cells_X5_site rfl rfl rfl e_X5_site ⟨Nat.le_of_ble_eq_true rfl, Nat.le_of_ble_eq_true rfl⟩) hP hD hS hA pmN pmN.symm rfl rfl rfl rfl hl (Nat.le_of_ble_eq_true rfl) dL_cells_403 ⟨Nat.zero_le _, Nat.zero_le _⟩ rfl (fun H locs hP hD hS => ?_)
    refine lv_isub hx hb dL_cells_406 ?_
    refine lv_imul hx hb dL_cells_407 ?_
    refine lv_i2l (v := ((2 : Int32) * (r4 - r7)).toInt64) hx hb dL_cells_408 rfl ?_
    refine lv_topl (fun v10 ev10 => ?_)
    replace hf := nm_of ev10 hf
    refine lv_lstore (lv' := [(25, .long v10), (0, .ref (a_p0.1 0)), (1, .int x1), (2, .int x2), (3, .int x3), (4, .int x4), (5, .int x5), (6, .int x6), (7, .long x7), (9, .long x9), (11, .long x11), (13, .long x13), (23, .int x23), (24, .int x24)]) hx hb dL_cells_409 hl (by decide) rfl (fun ls hl => ?_)
    refine lv_iconst (v := (2 : Int32)) hx hb dL_cells_411 (by decide) ?_
    refine lv_aload_n hx hb dL_cells_412 rfl (lv_at hl 1 rfl) ?_
    refine lv_iload hx hb dL_cells_413 (lv_at hl 13 rfl) ?_
    refine lv_iconst (v := (1 : Int32)) hx hb dL_cells_415 (by decide) ?_
    obtain ⟨r11, s12, hq13, hf⟩ := bnd2_of hf
    refine callX (As := [.int x24, .int (1 : Int32)]) (rest := [.int (2 : Int32)]) (ci := 5) (q0 := 0) (wr := ([])) (WB := (wB cI cJ cZ cQ a_p0 s12)) hx hb hml hown hts hK hN (b_X5_site l D cI cJ cZ cQ a_p0 s8 x24 (1 : Int32) hq13) (cwV 2 hts gL_cells_X5_site rfl rfl rfl e_X5_site ⟨Nat.le_of_ble_eq_true rfl, Nat.le_of_ble_eq_true rfl⟩) hP hD hS hA pmN pmN.symm rfl rfl rfl rfl hl (Nat.le_of_ble_eq_true rfl) dL_cells_416 ⟨Nat.zero_le _, Nat.zero_le _⟩ rfl (fun H locs hP hD hS => ?_)
    refine lv_aload_n hx hb dL_cells_419 rfl (lv_at hl 1 rfl) ?_
    refine lv_iload_n hx hb dL_cells_420 rfl (lv_at hl 4 rfl) ?_
    refine lv_iconst (v := (1 : Int32)) hx hb dL_cells_421 (by decide) ?_
    obtain ⟨r14, s15, hq16, hf⟩ := bnd2_of hf
    refine callX (As := [.int x3, .int (1 : Int32)]) (rest := [.int r11, .int (2 : Int32)]) (ci := 5) (q0 := 0) (wr := ([])) (WB := (wB cI cJ cZ cQ a_p0 s15)) hx hb hml hown hts hK hN (b_X5_site l D cI cJ cZ cQ a_p0 s12 x3 (1 : Int32) hq16) (cwV 2 hts gL_cells_X5_site rfl rfl rfl e_X5_site ⟨Nat.le_of_ble_eq_true rfl, Nat.le_of_ble_eq_true rfl⟩) hP hD hS hA pmN pmN.symm rfl rfl rfl rfl hl (Nat.le_of_ble_eq_true rfl) dL_cells_422 ⟨Nat.zero_le _, Nat.zero_le _⟩ rfl (fun H locs hP hD hS => ?_)
    refine lv_isub hx hb dL_cells_425 ?_
    refine lv_imul hx hb dL_cells_426 ?_
    refine lv_i2l (v := ((2 : Int32) * (r11 - r14)).toInt64) hx hb dL_cells_427 rfl ?_
    refine lv_topl (fun v17 ev17 => ?_)
    replace hf := nm_of ev17 hf
    refine lv_lstore (lv' := [(27, .long v17), (25, .long v10), (0, .ref (a_p0.1 0)), (1, .int x1), (2, .int x2), (3, .int x3), (4, .int x4), (5, .int x5), (6, .int x6), (7, .long x7), (9, .long x9), (11, .long x11), (13, .long x13), (23, .int x23), (24, .int x24)]) hx hb dL_cells_428 hl (by decide) rfl (fun ls hl => ?_)
    refine lv_aload_n hx hb dL_cells_430 rfl (lv_at hl 2 rfl) ?_
    refine lv_iload hx hb dL_cells_431 (lv_at hl 14 rfl) ?_
    refine lv_iconst (v := (0 : Int32)) hx hb dL_cells_433 (by decide) ?_
    refine lv_iconst (v := (0 : Int32)) hx hb dL_cells_434 (by decide) ?_
    obtain ⟨r18, s19, hq20, hf⟩ := bnd2_of hf
    refine callX (As := [.int x24, .int (0 : Int32), .int (0 : Int32)]) (rest := []) (ci := 5) (q0 := 0) (wr := ([])) (WB := (wB cI cJ cZ cQ a_p0 s19)) hx hb hml hown hts hK hN (b_X5_powerDistance l D cI cJ cZ cQ a_p0 s15 x24 (0 : Int32) (0 : Int32) hq20) (cwV 3 hts gL_cells_X5_powerDistance rfl rfl rfl e_X5_powerDistance ⟨Nat.le_of_ble_eq_true rfl, Nat.le_of_ble_eq_true rfl⟩) hP hD hS hA pmN pmN.symm rfl rfl rfl rfl hl (Nat.le_of_ble_eq_true rfl) dL_cells_435 ⟨Nat.zero_le _, Nat.zero_le _⟩ rfl (fun H locs hP hD hS => ?_)
    refine lv_aload_n hx hb dL_cells_438 rfl (lv_at hl 2 rfl) ?_
    refine lv_iload_n hx hb dL_cells_439 rfl (lv_at hl 5 rfl) ?_
    refine lv_iconst (v := (0 : Int32)) hx hb dL_cells_440 (by decide) ?_
    refine lv_iconst (v := (0 : Int32)) hx hb dL_cells_441 (by decide) ?_
    obtain ⟨r21, s22, hq23, hf⟩ := bnd2_of hf
    refine callX (As := [.int x3, .int (0 : Int32), .int (0 : Int32)]) (rest := [.int r18]) (ci := 5) (q0 := 0) (wr := ([])) (WB := (wB cI cJ cZ cQ a_p0 s22)) hx hb hml hown hts hK hN (b_X5_powerDistance l D cI cJ cZ cQ a_p0 s19 x3 (0 : Int32) (0 : Int32) hq23) (cwV 3 hts gL_cells_X5_powerDistance rfl rfl rfl e_X5_powerDistance ⟨Nat.le_of_ble_eq_true rfl, Nat.le_of_ble_eq_true rfl⟩) hP hD hS hA pmN pmN.symm rfl rfl rfl rfl hl (Nat.le_of_ble_eq_true rfl) dL_cells_442 ⟨Nat.zero_le _, Nat.zero_le _⟩ rfl (fun H locs hP hD hS => ?_)
    refine lv_isub hx hb dL_cells_445 ?_
    refine lv_i2l (v := (r18 - r21).toInt64) hx hb dL_cells_446 rfl ?_
    refine lv_topl (fun v24 ev24 => ?_)
    replace hf := nm_of ev24 hf
    refine lv_lstore (lv' := [(29, .long v24), (27, .long v17), (25, .long v10), (0, .ref (a_p0.1 0)), (1, .int x1), (2, .int x2), (3, .int x3), (4, .int x4), (5, .int x5), (6, .int x6), (7, .long x7), (9, .long x9), (11, .long x11), (13, .long x13), (23, .int x23), (24, .int x24)]) hx hb dL_cells_447 hl (by decide) rfl (fun ls hl => ?_)
    refine lv_lload hx hb dL_cells_449 (lv_at hl 2 rfl) ?_
    refine lv_lload hx hb dL_cells_451 (lv_at hl 10 rfl) ?_
    refine lv_lmul hx hb dL_cells_453 ?_
    refine lv_lload hx hb dL_cells_454 (lv_at hl 13 rfl) ?_
    refine lv_lmul hx hb dL_cells_456 ?_
    refine lv_lload hx hb dL_cells_457 (lv_at hl 1 rfl) ?_
    refine lv_lload hx hb dL_cells_459 (lv_at hl 12 rfl) ?_
    refine lv_lmul hx hb dL_cells_461 ?_
    refine lv_lload hx hb dL_cells_462 (lv_at hl 11 rfl) ?_
    refine lv_lmul hx hb dL_cells_464 ?_
    refine lv_ladd hx hb dL_cells_465 ?_
    refine lv_topl (fun v25 ev25 => ?_)
    replace hf := nm_of ev25 hf
    refine lv_lstore (lv' := [(31, .long v25), (29, .long v24), (27, .long v17), (25, .long v10), (0, .ref (a_p0.1 0)), (1, .int x1), (2, .int x2), (3, .int x3), (4, .int x4), (5, .int x5), (6, .int x6), (7, .long x7), (9, .long x9), (11, .long x11), (13, .long x13), (23, .int x23), (24, .int x24)]) hx hb dL_cells_466 hl (by decide) rfl (fun ls hl => ?_)
    refine lv_iload_n hx hb dL_cells_468 rfl (lv_at hl 6 rfl) ?_
    refine lv_if_eq (tgt := 490) hx hb dL_cells_469 (by decide) (fun c26 => ?_) (fun c26 => ?_)
    · replace hf := brT c26 hf
      refine lv_iconst (v := (0 : Int32)) hx hb dL_cells_490 (by decide) ?_
      exact (t_L_cells_491 hC hk386) s22 x1 x3 x4 x5 x6 x7 x9 x11 x13 x23 x24 v10 v17 v24 v25 (0 : Int32) hf _ _ hP hD hS _ (lv_sub hl [4, 5, 7, 8, 9, 10, 11, 12, 13, 14, 15, 16, 3, 2, 1, 0] rfl)
    · replace hf := brF c26 hf
      refine lv_lload hx hb dL_cells_472 (lv_at hl 0 rfl) ?_
      refine lv_lload hx hb dL_cells_474 (lv_at hl 1 rfl) ?_
      refine lv_lload hx hb dL_cells_476 (lv_at hl 12 rfl) ?_
      refine lv_lmul hx hb dL_cells_478 ?_
      refine lv_lload hx hb dL_cells_479 (lv_at hl 14 rfl) ?_
      refine lv_lmul hx hb dL_cells_481 ?_
      refine W.lcmp hx hb dL_cells_482 ?_
      refine lv_if_gt (tgt := 490) hx hb dL_cells_483 (by decide) (fun c27 => ?_) (fun c27 => ?_)
      · replace hf := brT c27 hf
        refine lv_iconst (v := (0 : Int32)) hx hb dL_cells_490 (by decide) ?_
        exact (t_L_cells_491 hC hk386) s22 x1 x3 x4 x5 x6 x7 x9 x11 x13 x23 x24 v10 v17 v24 v25 (0 : Int32) hf _ _ hP hD hS _ (lv_sub hl [4, 5, 7, 8, 9, 10, 11, 12, 13, 14, 15, 16, 3, 2, 1, 0] rfl)
      · replace hf := brF c27 hf
        refine lv_iconst (v := (1 : Int32)) hx hb dL_cells_486 (by decide) ?_
        refine lv_goto (tgt := 491) hx hb dL_cells_487 (by decide) ?_
        exact (t_L_cells_491 hC hk386) s22 x1 x3 x4 x5 x6 x7 x9 x11 x13 x23 x24 v10 v17 v24 v25 (1 : Int32) hf _ _ hP hD hS _ (lv_sub hl [4, 5, 7, 8, 9, 10, 11, 12, 13, 14, 15, 16, 3, 2, 1, 0] rfl)
theorem t_L_cells_386 {p : Program} {l : Launch} {e : Env} {s : State} {m : MethodId} {args : Array Value} {below : List Frame} {meth : Method} {c : Code} {A : Nat → Prop} {D : va_G} {cI cJ cZ cQ : ClassId} {a_p0 : AB} {res : R_L_cells} {k128 : ST → Int32 → Int32 → Int32 → Int32 → Int32 → Int32 → Option R_L_cells} (hC : mcx RL cL_cells (some .boolean) 33 wsL_cells p s m args meth c A D (tys4 cI cJ cZ cQ)) (hk128 : S_L_cells_128 p l e s m args below meth c A D cI cJ cZ cQ a_p0 res k128) (n : Nat) : S_L_cells_386 p l e s m args below meth c A D cI cJ cZ cQ a_p0 res (f_L_cells_386 k128 n) := by
  induction n with
  | zero =>
    intro s_p0 x1 x2 x3 x4 x5 x6 x7 x9 x11 x13 x23 x24 hf
    exact nomatch (show (none : Option R_L_cells) = some res from hf)
  | succ n ih => exact i_L_cells_386 hC hk128 ih
set_option maxHeartbeats 4000000 in
set_option maxRecDepth 100000 in
theorem t_L_cells_352 {p : Program} {l : Launch} {e : Env} {s : State} {m : MethodId} {args : Array Value} {below : List Frame} {meth : Method} {c : Code} {A : Nat → Prop} {D : va_G} {cI cJ cZ cQ : ClassId} {a_p0 : AB} {res : R_L_cells} {k128 : ST → Int32 → Int32 → Int32 → Int32 → Int32 → Int32 → Option R_L_cells} (hC : mcx RL cL_cells (some .boolean) 33 wsL_cells p s m args meth c A D (tys4 cI cJ cZ cQ)) (hk128 : S_L_cells_128 p l e s m args below meth c A D cI cJ cZ cQ a_p0 res k128) : S_L_cells_352 p l e s m args below meth c A D cI cJ cZ cQ a_p0 res (f_L_cells_352 k128) := by
  intro s_p0 x1 x2 x3 x4 x5 x6 x7 x9 x11 x13 y0 hf H locs hP hD hS ls hl
  obtain ⟨hx, hb, hr, hml, hown, hts, hlocks, hA, hK, hN⟩ := id hC
  unfold f_L_cells_352 at hf
  refine lv_istore (lv' := [(23, .int y0), (0, .ref (a_p0.1 0)), (1, .int x1), (2, .int x2), (3, .int x3), (4, .int x4), (5, .int x5), (6, .int x6), (7, .long x7), (9, .long x9), (11, .long x11), (13, .long x13)]) hx hb dL_cells_352 hl (by decide) rfl (fun ls hl => ?_)
  refine lv_iload hx hb dL_cells_354 (lv_at hl 0 rfl) ?_
  refine lv_lload hx hb dL_cells_356 (lv_at hl 10 rfl) ?_
  refine lv_lconst (v := (0 : Int64)) hx hb dL_cells_358 (by decide) ?_
  refine W.lcmp hx hb dL_cells_359 ?_
  refine lv_if_eq (tgt := 375) hx hb dL_cells_360 (by decide) (fun c1 => ?_) (fun c1 => ?_)
  · replace hf := brT c1 hf
    refine lv_iconst (v := (1 : Int32)) hx hb dL_cells_375 (by decide) ?_
    refine lv_goto (tgt := 380) hx hb dL_cells_376 (by decide) ?_
    refine lv_iadd hx hb dL_cells_380 ?_
    refine lv_topi (fun v2 ev2 => ?_)
    replace hf := nm_of ev2 hf
    refine lv_istore (lv' := [(23, .int v2), (0, .ref (a_p0.1 0)), (1, .int x1), (2, .int x2), (3, .int x3), (4, .int x4), (5, .int x5), (6, .int x6), (7, .long x7), (9, .long x9), (11, .long x11), (13, .long x13)]) hx hb dL_cells_381 hl (by decide) rfl (fun ls hl => ?_)
    refine lv_iconst (v := (0 : Int32)) hx hb dL_cells_383 (by decide) ?_
    refine lv_istore (lv' := [(24, .int (0 : Int32)), (23, .int v2), (0, .ref (a_p0.1 0)), (1, .int x1), (2, .int x2), (3, .int x3), (4, .int x4), (5, .int x5), (6, .int x6), (7, .long x7), (9, .long x9), (11, .long x11), (13, .long x13)]) hx hb dL_cells_384 hl (by decide) rfl (fun ls hl => ?_)
    exact (t_L_cells_386 hC hk128 fuel) s_p0 x1 x2 x3 x4 x5 x6 x7 x9 x11 x13 v2 (0 : Int32) hf _ _ hP hD hS _ (lv_sub hl [2, 3, 4, 5, 6, 7, 8, 9, 10, 11, 12, 1, 0] rfl)
  · replace hf := brF c1 hf
    refine lv_lload hx hb dL_cells_363 (lv_at hl 10 rfl) ?_
    refine lv_ldc2 (v := (20 : Int64)) hx hb hown (hts (.constantLong RL 139 (20)) (List.mem_of_getElem? (i := 2) rfl)) dL_cells_365 ?_
    refine lv_lload hx hb dL_cells_368 (lv_at hl 11 rfl) ?_
    refine lv_lmul hx hb dL_cells_370 ?_
    refine W.lcmp hx hb dL_cells_371 ?_
    refine lv_if_ne (tgt := 379) hx hb dL_cells_372 (by decide) (fun c3 => ?_) (fun c3 => ?_)
    · replace hf := brF c3 hf
      refine lv_iconst (v := (0 : Int32)) hx hb dL_cells_379 (by decide) ?_
      refine lv_iadd hx hb dL_cells_380 ?_
      refine lv_topi (fun v4 ev4 => ?_)
      replace hf := nm_of ev4 hf
      refine lv_istore (lv' := [(23, .int v4), (0, .ref (a_p0.1 0)), (1, .int x1), (2, .int x2), (3, .int x3), (4, .int x4), (5, .int x5), (6, .int x6), (7, .long x7), (9, .long x9), (11, .long x11), (13, .long x13)]) hx hb dL_cells_381 hl (by decide) rfl (fun ls hl => ?_)
      refine lv_iconst (v := (0 : Int32)) hx hb dL_cells_383 (by decide) ?_
      refine lv_istore (lv' := [(24, .int (0 : Int32)), (23, .int v4), (0, .ref (a_p0.1 0)), (1, .int x1), (2, .int x2), (3, .int x3), (4, .int x4), (5, .int x5), (6, .int x6), (7, .long x7), (9, .long x9), (11, .long x11), (13, .long x13)]) hx hb dL_cells_384 hl (by decide) rfl (fun ls hl => ?_)
      exact (t_L_cells_386 hC hk128 fuel) s_p0 x1 x2 x3 x4 x5 x6 x7 x9 x11 x13 v4 (0 : Int32) hf _ _ hP hD hS _ (lv_sub hl [2, 3, 4, 5, 6, 7, 8, 9, 10, 11, 12, 1, 0] rfl)
    · replace hf := brT c3 hf
      refine lv_iconst (v := (1 : Int32)) hx hb dL_cells_375 (by decide) ?_
      refine lv_goto (tgt := 380) hx hb dL_cells_376 (by decide) ?_
      refine lv_iadd hx hb dL_cells_380 ?_
      refine lv_topi (fun v5 ev5 => ?_)
      replace hf := nm_of ev5 hf
      refine lv_istore (lv' := [(23, .int v5), (0, .ref (a_p0.1 0)), (1, .int x1), (2, .int x2), (3, .int x3), (4, .int x4), (5, .int x5), (6, .int x6), (7, .long x7), (9, .long x9), (11, .long x11), (13, .long x13)]) hx hb dL_cells_381 hl (by decide) rfl (fun ls hl => ?_)
      refine lv_iconst (v := (0 : Int32)) hx hb dL_cells_383 (by decide) ?_
      refine lv_istore (lv' := [(24, .int (0 : Int32)), (23, .int v5), (0, .ref (a_p0.1 0)), (1, .int x1), (2, .int x2), (3, .int x3), (4, .int x4), (5, .int x5), (6, .int x6), (7, .long x7), (9, .long x9), (11, .long x11), (13, .long x13)]) hx hb dL_cells_384 hl (by decide) rfl (fun ls hl => ?_)
      exact (t_L_cells_386 hC hk128 fuel) s_p0 x1 x2 x3 x4 x5 x6 x7 x9 x11 x13 v5 (0 : Int32) hf _ _ hP hD hS _ (lv_sub hl [2, 3, 4, 5, 6, 7, 8, 9, 10, 11, 12, 1, 0] rfl)
set_option maxHeartbeats 4000000 in
set_option maxRecDepth 100000 in
theorem t_L_cells_327 {p : Program} {l : Launch} {e : Env} {s : State} {m : MethodId} {args : Array Value} {below : List Frame} {meth : Method} {c : Code} {A : Nat → Prop} {D : va_G} {cI cJ cZ cQ : ClassId} {a_p0 : AB} {res : R_L_cells} {k128 : ST → Int32 → Int32 → Int32 → Int32 → Int32 → Int32 → Option R_L_cells} (hC : mcx RL cL_cells (some .boolean) 33 wsL_cells p s m args meth c A D (tys4 cI cJ cZ cQ)) (hk128 : S_L_cells_128 p l e s m args below meth c A D cI cJ cZ cQ a_p0 res k128) : S_L_cells_327 p l e s m args below meth c A D cI cJ cZ cQ a_p0 res (f_L_cells_327 k128) := by
  intro s_p0 x1 x3 x4 x5 x6 x7 x9 x11 x13 y0 hf H locs hP hD hS ls hl
  obtain ⟨hx, hb, hr, hml, hown, hts, hlocks, hA, hK, hN⟩ := id hC
  unfold f_L_cells_327 at hf
  refine lv_istore_n (lv' := [(2, .int y0), (0, .ref (a_p0.1 0)), (1, .int x1), (3, .int x3), (4, .int x4), (5, .int x5), (6, .int x6), (7, .long x7), (9, .long x9), (11, .long x11), (13, .long x13)]) hx hb dL_cells_327 rfl hl (by decide) rfl (fun ls hl => ?_)
  refine lv_lload hx hb dL_cells_328 (lv_at hl 7 rfl) ?_
  refine lv_lconst (v := (0 : Int64)) hx hb dL_cells_330 (by decide) ?_
  refine W.lcmp hx hb dL_cells_331 ?_
  refine lv_if_eq (tgt := 347) hx hb dL_cells_332 (by decide) (fun c1 => ?_) (fun c1 => ?_)
  · replace hf := brT c1 hf
    refine lv_iconst (v := (1 : Int32)) hx hb dL_cells_347 (by decide) ?_
    refine lv_goto (tgt := 352) hx hb dL_cells_348 (by decide) ?_
    exact (t_L_cells_352 hC hk128) s_p0 x1 y0 x3 x4 x5 x6 x7 x9 x11 x13 (1 : Int32) hf _ _ hP hD hS _ (lv_sub hl [1, 2, 0, 3, 4, 5, 6, 7, 8, 9, 10] rfl)
  · replace hf := brF c1 hf
    refine lv_lload hx hb dL_cells_335 (lv_at hl 7 rfl) ?_
    refine lv_ldc2 (v := (20 : Int64)) hx hb hown (hts (.constantLong RL 139 (20)) (List.mem_of_getElem? (i := 2) rfl)) dL_cells_337 ?_
    refine lv_lload hx hb dL_cells_340 (lv_at hl 8 rfl) ?_
    refine lv_lmul hx hb dL_cells_342 ?_
    refine W.lcmp hx hb dL_cells_343 ?_
    refine lv_if_ne (tgt := 351) hx hb dL_cells_344 (by decide) (fun c2 => ?_) (fun c2 => ?_)
    · replace hf := brF c2 hf
      refine lv_iconst (v := (0 : Int32)) hx hb dL_cells_351 (by decide) ?_
      exact (t_L_cells_352 hC hk128) s_p0 x1 y0 x3 x4 x5 x6 x7 x9 x11 x13 (0 : Int32) hf _ _ hP hD hS _ (lv_sub hl [1, 2, 0, 3, 4, 5, 6, 7, 8, 9, 10] rfl)
    · replace hf := brT c2 hf
      refine lv_iconst (v := (1 : Int32)) hx hb dL_cells_347 (by decide) ?_
      refine lv_goto (tgt := 352) hx hb dL_cells_348 (by decide) ?_
      exact (t_L_cells_352 hC hk128) s_p0 x1 y0 x3 x4 x5 x6 x7 x9 x11 x13 (1 : Int32) hf _ _ hP hD hS _ (lv_sub hl [1, 2, 0, 3, 4, 5, 6, 7, 8, 9, 10] rfl)
set_option maxHeartbeats 4000000 in
set_option maxRecDepth 100000 in
theorem i_L_cells_128 {p : Program} {l : Launch} {e : Env} {s : State} {m : MethodId} {args : Array Value} {below : List Frame} {meth : Method} {c : Code} {A : Nat → Prop} {D : va_G} {cI cJ cZ cQ : ClassId} {a_p0 : AB} {res : R_L_cells} {k9 : ST → Int32 → Int32 → Int32 → Option R_L_cells} {k128 : ST → Int32 → Int32 → Int32 → Int32 → Int32 → Int32 → Option R_L_cells} (hC : mcx RL cL_cells (some .boolean) 33 wsL_cells p s m args meth c A D (tys4 cI cJ cZ cQ)) (hk9 : S_L_cells_9 p l e s m args below meth c A D cI cJ cZ cQ a_p0 res k9) (hk128 : S_L_cells_128 p l e s m args below meth c A D cI cJ cZ cQ a_p0 res k128) : S_L_cells_128 p l e s m args below meth c A D cI cJ cZ cQ a_p0 res (g_L_cells_128 k9 k128) := by
  intro s_p0 x1 x2 x3 x4 x5 x6 hf H locs hP hD hS ls hl
  obtain ⟨hx, hb, hr, hml, hown, hts, hlocks, hA, hK, hN⟩ := id hC
  unfold g_L_cells_128 at hf
  refine lv_iload hx hb dL_cells_128 (lv_at hl 6 rfl) ?_
  refine lv_iload hx hb dL_cells_130 (lv_at hl 4 rfl) ?_
  refine lv_icmp_ge (tgt := 564) hx hb dL_cells_132 (by decide) (fun c1 => ?_) (fun c1 => ?_)
  · replace hf := brT c1 hf
    refine lv_iconst (v := (0 : Int32)) hx hb dL_cells_564 (by decide) ?_
    refine lv_istore (lv' := [(6, .int (0 : Int32)), (0, .ref (a_p0.1 0)), (1, .int x1), (2, .int x2), (3, .int x3), (4, .int x4), (5, .int x5)]) hx hb dL_cells_565 hl (by decide) rfl (fun ls hl => ?_)
    exact (t_L_cells_567 hC hk9 fuel) s_p0 x1 x2 x3 x5 (0 : Int32) hf _ _ hP hD hS _ (lv_sub hl [1, 2, 3, 4, 6, 0] rfl)
  · replace hf := brF c1 hf
    refine lv_iload_n hx hb dL_cells_135 rfl (lv_at hl 2 rfl) ?_
    refine lv_if_eq (tgt := 564) hx hb dL_cells_136 (by decide) (fun c2 => ?_) (fun c2 => ?_)
    · replace hf := brT c2 hf
      refine lv_iconst (v := (0 : Int32)) hx hb dL_cells_564 (by decide) ?_
      refine lv_istore (lv' := [(6, .int (0 : Int32)), (0, .ref (a_p0.1 0)), (1, .int x1), (2, .int x2), (3, .int x3), (4, .int x4), (5, .int x5)]) hx hb dL_cells_565 hl (by decide) rfl (fun ls hl => ?_)
      exact (t_L_cells_567 hC hk9 fuel) s_p0 x1 x2 x3 x5 (0 : Int32) hf _ _ hP hD hS _ (lv_sub hl [1, 2, 3, 4, 6, 0] rfl)
    · replace hf := brF c2 hf
      refine lv_aload_n hx hb dL_cells_139 rfl (lv_at hl 0 rfl) ?_
      refine lv_iload_n hx hb dL_cells_140 rfl (lv_at hl 3 rfl) ?_
      refine lv_iload hx hb dL_cells_141 (lv_at hl 6 rfl) ?_
      refine lv_iconst (v := (0 : Int32)) hx hb dL_cells_143 (by decide) ?_
      obtain ⟨r3, s4, hq5, hf⟩ := bnd2_of hf
      refine callX (As := [.int x3, .int x6, .int (0 : Int32)]) (rest := []) (ci := 5) (q0 := 0) (wr := ([])) (WB := (wB cI cJ cZ cQ a_p0 s4)) hx hb hml hown hts hK hN (b_X5_cornerNumerator l D cI cJ cZ cQ a_p0 s_p0 x3 x6 (0 : Int32) hq5) (cwV 3 hts gL_cells_X5_cornerNumerator rfl rfl rfl e_X5_cornerNumerator ⟨Nat.le_of_ble_eq_true rfl, Nat.le_of_ble_eq_true rfl⟩) hP hD hS hA pmN pmN.symm rfl rfl rfl rfl hl (Nat.le_of_ble_eq_true rfl) dL_cells_144 ⟨Nat.zero_le _, Nat.zero_le _⟩ rfl (fun H locs hP hD hS => ?_)
      refine lv_i2l (v := r3.toInt64) hx hb dL_cells_147 rfl ?_
      refine lv_topl (fun v6 ev6 => ?_)
      replace hf := nm_of ev6 hf
      refine lv_lstore (lv' := [(7, .long v6), (0, .ref (a_p0.1 0)), (1, .int x1), (2, .int x2), (3, .int x3), (4, .int x4), (5, .int x5), (6, .int x6)]) hx hb dL_cells_148 hl (by decide) rfl (fun ls hl => ?_)
      refine lv_aload_n hx hb dL_cells_150 rfl (lv_at hl 1 rfl) ?_
      refine lv_iload_n hx hb dL_cells_151 rfl (lv_at hl 4 rfl) ?_
      refine lv_iload hx hb dL_cells_152 (lv_at hl 7 rfl) ?_
      refine lv_iconst (v := (0 : Int32)) hx hb dL_cells_154 (by decide) ?_
      obtain ⟨r7, s8, hq9, hf⟩ := bnd2_of hf
      refine callX (As := [.int x3, .int x6, .int (0 : Int32)]) (rest := []) (ci := 5) (q0 := 0) (wr := ([])) (WB := (wB cI cJ cZ cQ a_p0 s8)) hx hb hml hown hts hK hN (b_X5_cornerDenominator l D cI cJ cZ cQ a_p0 s4 x3 x6 (0 : Int32) hq9) (cwV 3 hts gL_cells_X5_cornerDenominator rfl rfl rfl e_X5_cornerDenominator ⟨Nat.le_of_ble_eq_true rfl, Nat.le_of_ble_eq_true rfl⟩) hP hD hS hA pmN pmN.symm rfl rfl rfl rfl hl (Nat.le_of_ble_eq_true rfl) dL_cells_155 ⟨Nat.zero_le _, Nat.zero_le _⟩ rfl (fun H locs hP hD hS => ?_)
      refine lv_i2l (v := r7.toInt64) hx hb dL_cells_158 rfl ?_
      refine lv_topl (fun v10 ev10 => ?_)
      replace hf := nm_of ev10 hf
      refine lv_lstore (lv' := [(9, .long v10), (7, .long v6), (0, .ref (a_p0.1 0)), (1, .int x1), (2, .int x2), (3, .int x3), (4, .int x4), (5, .int x5), (6, .int x6)]) hx hb dL_cells_159 hl (by decide) rfl (fun ls hl => ?_)
      refine lv_aload_n hx hb dL_cells_161 rfl (lv_at hl 2 rfl) ?_
      refine lv_iload_n hx hb dL_cells_162 rfl (lv_at hl 5 rfl) ?_
      refine lv_iload hx hb dL_cells_163 (lv_at hl 8 rfl) ?_
      refine lv_iconst (v := (1 : Int32)) hx hb dL_cells_165 (by decide) ?_
      obtain ⟨r11, s12, hq13, hf⟩ := bnd2_of hf
      refine callX (As := [.int x3, .int x6, .int (1 : Int32)]) (rest := []) (ci := 5) (q0 := 0) (wr := ([])) (WB := (wB cI cJ cZ cQ a_p0 s12)) hx hb hml hown hts hK hN (b_X5_cornerNumerator l D cI cJ cZ cQ a_p0 s8 x3 x6 (1 : Int32) hq13) (cwV 3 hts gL_cells_X5_cornerNumerator rfl rfl rfl e_X5_cornerNumerator ⟨Nat.le_of_ble_eq_true rfl, Nat.le_of_ble_eq_true rfl⟩) hP hD hS hA pmN pmN.symm rfl rfl rfl rfl hl (Nat.le_of_ble_eq_true rfl) dL_cells_166 ⟨Nat.zero_le _, Nat.zero_le _⟩ rfl (fun H locs hP hD hS => ?_)
      refine lv_i2l (v := r11.toInt64) hx hb dL_cells_169 rfl ?_
      refine lv_topl (fun v14 ev14 => ?_)
      replace hf := nm_of ev14 hf
      refine lv_lstore (lv' := [(11, .long v14), (9, .long v10), (7, .long v6), (0, .ref (a_p0.1 0)), (1, .int x1), (2, .int x2), (3, .int x3), (4, .int x4), (5, .int x5), (6, .int x6)]) hx hb dL_cells_170 hl (by decide) rfl (fun ls hl => ?_)
      refine lv_aload_n hx hb dL_cells_172 rfl (lv_at hl 3 rfl) ?_
      refine lv_iload_n hx hb dL_cells_173 rfl (lv_at hl 6 rfl) ?_
      refine lv_iload hx hb dL_cells_174 (lv_at hl 9 rfl) ?_
      refine lv_iconst (v := (1 : Int32)) hx hb dL_cells_176 (by decide) ?_
      obtain ⟨r15, s16, hq17, hf⟩ := bnd2_of hf
      refine callX (As := [.int x3, .int x6, .int (1 : Int32)]) (rest := []) (ci := 5) (q0 := 0) (wr := ([])) (WB := (wB cI cJ cZ cQ a_p0 s16)) hx hb hml hown hts hK hN (b_X5_cornerDenominator l D cI cJ cZ cQ a_p0 s12 x3 x6 (1 : Int32) hq17) (cwV 3 hts gL_cells_X5_cornerDenominator rfl rfl rfl e_X5_cornerDenominator ⟨Nat.le_of_ble_eq_true rfl, Nat.le_of_ble_eq_true rfl⟩) hP hD hS hA pmN pmN.symm rfl rfl rfl rfl hl (Nat.le_of_ble_eq_true rfl) dL_cells_177 ⟨Nat.zero_le _, Nat.zero_le _⟩ rfl (fun H locs hP hD hS => ?_)
      refine lv_i2l (v := r15.toInt64) hx hb dL_cells_180 rfl ?_
      refine lv_topl (fun v18 ev18 => ?_)
      replace hf := nm_of ev18 hf
      refine lv_lstore (lv' := [(13, .long v18), (11, .long v14), (9, .long v10), (7, .long v6), (0, .ref (a_p0.1 0)), (1, .int x1), (2, .int x2), (3, .int x3), (4, .int x4), (5, .int x5), (6, .int x6)]) hx hb dL_cells_181 hl (by decide) rfl (fun ls hl => ?_)
      refine lv_aload_n hx hb dL_cells_183 rfl (lv_at hl 4 rfl) ?_
      refine lv_iload_n hx hb dL_cells_184 rfl (lv_at hl 7 rfl) ?_
      refine lv_iconst (v := (0 : Int32)) hx hb dL_cells_185 (by decide) ?_
      refine lv_iconst (v := (0 : Int32)) hx hb dL_cells_186 (by decide) ?_
      obtain ⟨r19, s20, hq21, hf⟩ := bnd2_of hf
      refine callX (As := [.int x3, .int (0 : Int32), .int (0 : Int32)]) (rest := []) (ci := 5) (q0 := 0) (wr := ([])) (WB := (wB cI cJ cZ cQ a_p0 s20)) hx hb hml hown hts hK hN (b_X5_cornerNumerator l D cI cJ cZ cQ a_p0 s16 x3 (0 : Int32) (0 : Int32) hq21) (cwV 3 hts gL_cells_X5_cornerNumerator rfl rfl rfl e_X5_cornerNumerator ⟨Nat.le_of_ble_eq_true rfl, Nat.le_of_ble_eq_true rfl⟩) hP hD hS hA pmN pmN.symm rfl rfl rfl rfl hl (Nat.le_of_ble_eq_true rfl) dL_cells_187 ⟨Nat.zero_le _, Nat.zero_le _⟩ rfl (fun H locs hP hD hS => ?_)
      refine lv_i2l (v := r19.toInt64) hx hb dL_cells_190 rfl ?_
      refine lv_topl (fun v22 ev22 => ?_)
      replace hf := nm_of ev22 hf
      refine lv_lstore (lv' := [(15, .long v22), (13, .long v18), (11, .long v14), (9, .long v10), (7, .long v6), (0, .ref (a_p0.1 0)), (1, .int x1), (2, .int x2), (3, .int x3), (4, .int x4), (5, .int x5), (6, .int x6)]) hx hb dL_cells_191 hl (by decide) rfl (fun ls hl => ?_)
      refine lv_aload_n hx hb dL_cells_193 rfl (lv_at hl 5 rfl) ?_
      refine lv_iload_n hx hb dL_cells_194 rfl (lv_at hl 8 rfl) ?_
      refine lv_iconst (v := (0 : Int32)) hx hb dL_cells_195 (by decide) ?_
      refine lv_iconst (v := (0 : Int32)) hx hb dL_cells_196 (by decide) ?_
      obtain ⟨r23, s24, hq25, hf⟩ := bnd2_of hf
      refine callX (As := [.int x3, .int (0 : Int32), .int (0 : Int32)]) (rest := []) (ci := 5) (q0 := 0) (wr := ([])) (WB := (wB cI cJ cZ cQ a_p0 s24)) hx hb hml hown hts hK hN (b_X5_cornerDenominator l D cI cJ cZ cQ a_p0 s20 x3 (0 : Int32) (0 : Int32) hq25) (cwV 3 hts gL_cells_X5_cornerDenominator rfl rfl rfl e_X5_cornerDenominator ⟨Nat.le_of_ble_eq_true rfl, Nat.le_of_ble_eq_true rfl⟩) hP hD hS hA pmN pmN.symm rfl rfl rfl rfl hl (Nat.le_of_ble_eq_true rfl) dL_cells_197 ⟨Nat.zero_le _, Nat.zero_le _⟩ rfl (fun H locs hP hD hS => ?_)
      refine lv_i2l (v := r23.toInt64) hx hb dL_cells_200 rfl ?_
      refine lv_topl (fun v26 ev26 => ?_)
      replace hf := nm_of ev26 hf
      refine lv_lstore (lv' := [(17, .long v26), (15, .long v22), (13, .long v18), (11, .long v14), (9, .long v10), (7, .long v6), (0, .ref (a_p0.1 0)), (1, .int x1), (2, .int x2), (3, .int x3), (4, .int x4), (5, .int x5), (6, .int x6)]) hx hb dL_cells_201 hl (by decide) rfl (fun ls hl => ?_)
      refine lv_aload_n hx hb dL_cells_203 rfl (lv_at hl 6 rfl) ?_
      refine lv_iload_n hx hb dL_cells_204 rfl (lv_at hl 9 rfl) ?_
      refine lv_iconst (v := (0 : Int32)) hx hb dL_cells_205 (by decide) ?_
      refine lv_iconst (v := (1 : Int32)) hx hb dL_cells_206 (by decide) ?_
      obtain ⟨r27, s28, hq29, hf⟩ := bnd2_of hf
      refine callX (As := [.int x3, .int (0 : Int32), .int (1 : Int32)]) (rest := []) (ci := 5) (q0 := 0) (wr := ([])) (WB := (wB cI cJ cZ cQ a_p0 s28)) hx hb hml hown hts hK hN (b_X5_cornerNumerator l D cI cJ cZ cQ a_p0 s24 x3 (0 : Int32) (1 : Int32) hq29) (cwV 3 hts gL_cells_X5_cornerNumerator rfl rfl rfl e_X5_cornerNumerator ⟨Nat.le_of_ble_eq_true rfl, Nat.le_of_ble_eq_true rfl⟩) hP hD hS hA pmN pmN.symm rfl rfl rfl rfl hl (Nat.le_of_ble_eq_true rfl) dL_cells_207 ⟨Nat.zero_le _, Nat.zero_le _⟩ rfl (fun H locs hP hD hS => ?_)
      refine lv_i2l (v := r27.toInt64) hx hb dL_cells_210 rfl ?_
      refine lv_topl (fun v30 ev30 => ?_)
      replace hf := nm_of ev30 hf
      refine lv_lstore (lv' := [(19, .long v30), (17, .long v26), (15, .long v22), (13, .long v18), (11, .long v14), (9, .long v10), (7, .long v6), (0, .ref (a_p0.1 0)), (1, .int x1), (2, .int x2), (3, .int x3), (4, .int x4), (5, .int x5), (6, .int x6)]) hx hb dL_cells_211 hl (by decide) rfl (fun ls hl => ?_)
      refine lv_aload_n hx hb dL_cells_213 rfl (lv_at hl 7 rfl) ?_
      refine lv_iload_n hx hb dL_cells_214 rfl (lv_at hl 10 rfl) ?_
      refine lv_iconst (v := (0 : Int32)) hx hb dL_cells_215 (by decide) ?_
      refine lv_iconst (v := (1 : Int32)) hx hb dL_cells_216 (by decide) ?_
      obtain ⟨r31, s32, hq33, hf⟩ := bnd2_of hf
      refine callX (As := [.int x3, .int (0 : Int32), .int (1 : Int32)]) (rest := []) (ci := 5) (q0 := 0) (wr := ([])) (WB := (wB cI cJ cZ cQ a_p0 s32)) hx hb hml hown hts hK hN (b_X5_cornerDenominator l D cI cJ cZ cQ a_p0 s28 x3 (0 : Int32) (1 : Int32) hq33) (cwV 3 hts gL_cells_X5_cornerDenominator rfl rfl rfl e_X5_cornerDenominator ⟨Nat.le_of_ble_eq_true rfl, Nat.le_of_ble_eq_true rfl⟩) hP hD hS hA pmN pmN.symm rfl rfl rfl rfl hl (Nat.le_of_ble_eq_true rfl) dL_cells_217 ⟨Nat.zero_le _, Nat.zero_le _⟩ rfl (fun H locs hP hD hS => ?_)
      refine lv_i2l (v := r31.toInt64) hx hb dL_cells_220 rfl ?_
      refine lv_topl (fun v34 ev34 => ?_)
      replace hf := nm_of ev34 hf
      refine lv_lstore (lv' := [(21, .long v34), (19, .long v30), (17, .long v26), (15, .long v22), (13, .long v18), (11, .long v14), (9, .long v10), (7, .long v6), (0, .ref (a_p0.1 0)), (1, .int x1), (2, .int x2), (3, .int x3), (4, .int x4), (5, .int x5), (6, .int x6)]) hx hb dL_cells_221 hl (by decide) rfl (fun ls hl => ?_)
      refine lv_lload hx hb dL_cells_223 (lv_at hl 7 rfl) ?_
      refine lv_lconst (v := (0 : Int64)) hx hb dL_cells_225 (by decide) ?_
      refine W.lcmp hx hb dL_cells_226 ?_
      refine lv_if_lt (tgt := 326) hx hb dL_cells_227 (by decide) (fun c35 => ?_) (fun c35 => ?_)
      · replace hf := brT c35 hf
        refine lv_iconst (v := (0 : Int32)) hx hb dL_cells_326 (by decide) ?_
        exact (t_L_cells_327 hC hk128) s32 x1 x3 x4 x5 x6 v6 v10 v14 v18 (0 : Int32) hf _ _ hP hD hS _ (lv_sub hl [8, 9, 11, 12, 13, 14, 7, 6, 5, 4] rfl)
      · replace hf := brF c35 hf
        refine lv_lload hx hb dL_cells_230 (lv_at hl 6 rfl) ?_
        refine lv_lconst (v := (0 : Int64)) hx hb dL_cells_232 (by decide) ?_
        refine W.lcmp hx hb dL_cells_233 ?_
        refine lv_if_le (tgt := 326) hx hb dL_cells_234 (by decide) (fun c36 => ?_) (fun c36 => ?_)
        · replace hf := brT c36 hf
          refine lv_iconst (v := (0 : Int32)) hx hb dL_cells_326 (by decide) ?_
          exact (t_L_cells_327 hC hk128) s32 x1 x3 x4 x5 x6 v6 v10 v14 v18 (0 : Int32) hf _ _ hP hD hS _ (lv_sub hl [8, 9, 11, 12, 13, 14, 7, 6, 5, 4] rfl)
        · replace hf := brF c36 hf
          refine lv_lload hx hb dL_cells_237 (lv_at hl 7 rfl) ?_
          refine lv_ldc2 (v := (20 : Int64)) hx hb hown (hts (.constantLong RL 139 (20)) (List.mem_of_getElem? (i := 2) rfl)) dL_cells_239 ?_
          refine lv_lload hx hb dL_cells_242 (lv_at hl 6 rfl) ?_
          refine lv_lmul hx hb dL_cells_244 ?_
          refine W.lcmp hx hb dL_cells_245 ?_
          refine lv_if_gt (tgt := 326) hx hb dL_cells_246 (by decide) (fun c37 => ?_) (fun c37 => ?_)
          · replace hf := brT c37 hf
            refine lv_iconst (v := (0 : Int32)) hx hb dL_cells_326 (by decide) ?_
            exact (t_L_cells_327 hC hk128) s32 x1 x3 x4 x5 x6 v6 v10 v14 v18 (0 : Int32) hf _ _ hP hD hS _ (lv_sub hl [8, 9, 11, 12, 13, 14, 7, 6, 5, 4] rfl)
          · replace hf := brF c37 hf
            refine lv_lload hx hb dL_cells_249 (lv_at hl 5 rfl) ?_
            refine lv_lconst (v := (0 : Int64)) hx hb dL_cells_251 (by decide) ?_
            refine W.lcmp hx hb dL_cells_252 ?_
            refine lv_if_lt (tgt := 326) hx hb dL_cells_253 (by decide) (fun c38 => ?_) (fun c38 => ?_)
            · replace hf := brT c38 hf
              refine lv_iconst (v := (0 : Int32)) hx hb dL_cells_326 (by decide) ?_
              exact (t_L_cells_327 hC hk128) s32 x1 x3 x4 x5 x6 v6 v10 v14 v18 (0 : Int32) hf _ _ hP hD hS _ (lv_sub hl [8, 9, 11, 12, 13, 14, 7, 6, 5, 4] rfl)
            · replace hf := brF c38 hf
              refine lv_lload hx hb dL_cells_256 (lv_at hl 4 rfl) ?_
              refine lv_lconst (v := (0 : Int64)) hx hb dL_cells_258 (by decide) ?_
              refine W.lcmp hx hb dL_cells_259 ?_
              refine lv_if_le (tgt := 326) hx hb dL_cells_260 (by decide) (fun c39 => ?_) (fun c39 => ?_)
              · replace hf := brT c39 hf
                refine lv_iconst (v := (0 : Int32)) hx hb dL_cells_326 (by decide) ?_
                exact (t_L_cells_327 hC hk128) s32 x1 x3 x4 x5 x6 v6 v10 v14 v18 (0 : Int32) hf _ _ hP hD hS _ (lv_sub hl [8, 9, 11, 12, 13, 14, 7, 6, 5, 4] rfl)
              · replace hf := brF c39 hf
                refine lv_lload hx hb dL_cells_263 (lv_at hl 5 rfl) ?_
                refine lv_ldc2 (v := (20 : Int64)) hx hb hown (hts (.constantLong RL 139 (20)) (List.mem_of_getElem? (i := 2) rfl)) dL_cells_265 ?_
                refine lv_lload hx hb dL_cells_268 (lv_at hl 4 rfl) ?_
                refine lv_lmul hx hb dL_cells_270 ?_
                refine W.lcmp hx hb dL_cells_271 ?_
                refine lv_if_gt (tgt := 326) hx hb dL_cells_272 (by decide) (fun c40 => ?_) (fun c40 => ?_)
                · replace hf := brT c40 hf
                  refine lv_iconst (v := (0 : Int32)) hx hb dL_cells_326 (by decide) ?_
                  exact (t_L_cells_327 hC hk128) s32 x1 x3 x4 x5 x6 v6 v10 v14 v18 (0 : Int32) hf _ _ hP hD hS _ (lv_sub hl [8, 9, 11, 12, 13, 14, 7, 6, 5, 4] rfl)
                · replace hf := brF c40 hf
                  refine lv_iload hx hb dL_cells_275 (lv_at hl 14 rfl) ?_
                  refine lv_if_eq (tgt := 322) hx hb dL_cells_277 (by decide) (fun c41 => ?_) (fun c41 => ?_)
                  · replace hf := brT c41 hf
                    refine lv_iconst (v := (1 : Int32)) hx hb dL_cells_322 (by decide) ?_
                    refine lv_goto (tgt := 327) hx hb dL_cells_323 (by decide) ?_
                    exact (t_L_cells_327 hC hk128) s32 x1 x3 x4 x5 x6 v6 v10 v14 v18 (1 : Int32) hf _ _ hP hD hS _ (lv_sub hl [8, 9, 11, 12, 13, 14, 7, 6, 5, 4] rfl)
                  · replace hf := brF c41 hf
                    refine lv_lload hx hb dL_cells_280 (lv_at hl 3 rfl) ?_
                    refine lv_lload hx hb dL_cells_282 (lv_at hl 6 rfl) ?_
                    refine lv_lmul hx hb dL_cells_284 ?_
                    refine lv_lload hx hb dL_cells_285 (lv_at hl 7 rfl) ?_
                    refine lv_lload hx hb dL_cells_287 (lv_at hl 2 rfl) ?_
                    refine lv_lmul hx hb dL_cells_289 ?_
                    refine W.lcmp hx hb dL_cells_290 ?_
                    refine lv_if_lt (tgt := 322) hx hb dL_cells_291 (by decide) (fun c42 => ?_) (fun c42 => ?_)
                    · replace hf := brT c42 hf
                      refine lv_iconst (v := (1 : Int32)) hx hb dL_cells_322 (by decide) ?_
                      refine lv_goto (tgt := 327) hx hb dL_cells_323 (by decide) ?_
                      exact (t_L_cells_327 hC hk128) s32 x1 x3 x4 x5 x6 v6 v10 v14 v18 (1 : Int32) hf _ _ hP hD hS _ (lv_sub hl [8, 9, 11, 12, 13, 14, 7, 6, 5, 4] rfl)
                    · replace hf := brF c42 hf
                      refine lv_lload hx hb dL_cells_294 (lv_at hl 3 rfl) ?_
                      refine lv_lload hx hb dL_cells_296 (lv_at hl 6 rfl) ?_
                      refine lv_lmul hx hb dL_cells_298 ?_
                      refine lv_lload hx hb dL_cells_299 (lv_at hl 7 rfl) ?_
                      refine lv_lload hx hb dL_cells_301 (lv_at hl 2 rfl) ?_
                      refine lv_lmul hx hb dL_cells_303 ?_
                      refine W.lcmp hx hb dL_cells_304 ?_
                      refine lv_if_ne (tgt := 326) hx hb dL_cells_305 (by decide) (fun c43 => ?_) (fun c43 => ?_)
                      · replace hf := brF c43 hf
                        refine lv_iconst (v := (0 : Int32)) hx hb dL_cells_326 (by decide) ?_
                        exact (t_L_cells_327 hC hk128) s32 x1 x3 x4 x5 x6 v6 v10 v14 v18 (0 : Int32) hf _ _ hP hD hS _ (lv_sub hl [8, 9, 11, 12, 13, 14, 7, 6, 5, 4] rfl)
                      · replace hf := brT c43 hf
                        refine lv_lload hx hb dL_cells_308 (lv_at hl 1 rfl) ?_
                        refine lv_lload hx hb dL_cells_310 (lv_at hl 4 rfl) ?_
                        refine lv_lmul hx hb dL_cells_312 ?_
                        refine lv_lload hx hb dL_cells_313 (lv_at hl 5 rfl) ?_
                        refine lv_lload hx hb dL_cells_315 (lv_at hl 0 rfl) ?_
                        refine lv_lmul hx hb dL_cells_317 ?_
                        refine W.lcmp hx hb dL_cells_318 ?_
                        refine lv_if_ge (tgt := 326) hx hb dL_cells_319 (by decide) (fun c44 => ?_) (fun c44 => ?_)
                        · replace hf := brT c44 hf
                          refine lv_iconst (v := (0 : Int32)) hx hb dL_cells_326 (by decide) ?_
                          exact (t_L_cells_327 hC hk128) s32 x1 x3 x4 x5 x6 v6 v10 v14 v18 (0 : Int32) hf _ _ hP hD hS _ (lv_sub hl [8, 9, 11, 12, 13, 14, 7, 6, 5, 4] rfl)
                        · replace hf := brF c44 hf
                          refine lv_iconst (v := (1 : Int32)) hx hb dL_cells_322 (by decide) ?_
                          refine lv_goto (tgt := 327) hx hb dL_cells_323 (by decide) ?_
                          exact (t_L_cells_327 hC hk128) s32 x1 x3 x4 x5 x6 v6 v10 v14 v18 (1 : Int32) hf _ _ hP hD hS _ (lv_sub hl [8, 9, 11, 12, 13, 14, 7, 6, 5, 4] rfl)
theorem t_L_cells_128 {p : Program} {l : Launch} {e : Env} {s : State} {m : MethodId} {args : Array Value} {below : List Frame} {meth : Method} {c : Code} {A : Nat → Prop} {D : va_G} {cI cJ cZ cQ : ClassId} {a_p0 : AB} {res : R_L_cells} {k9 : ST → Int32 → Int32 → Int32 → Option R_L_cells} (hC : mcx RL cL_cells (some .boolean) 33 wsL_cells p s m args meth c A D (tys4 cI cJ cZ cQ)) (hk9 : S_L_cells_9 p l e s m args below meth c A D cI cJ cZ cQ a_p0 res k9) (n : Nat) : S_L_cells_128 p l e s m args below meth c A D cI cJ cZ cQ a_p0 res (f_L_cells_128 k9 n) := by
  induction n with
  | zero =>
    intro s_p0 x1 x2 x3 x4 x5 x6 hf
    exact nomatch (show (none : Option R_L_cells) = some res from hf)
  | succ n ih => exact i_L_cells_128 hC hk9 ih
set_option maxHeartbeats 4000000 in
set_option maxRecDepth 100000 in
theorem t_L_cells_109 {p : Program} {l : Launch} {e : Env} {s : State} {m : MethodId} {args : Array Value} {below : List Frame} {meth : Method} {c : Code} {A : Nat → Prop} {D : va_G} {cI cJ cZ cQ : ClassId} {a_p0 : AB} {res : R_L_cells} {k9 : ST → Int32 → Int32 → Int32 → Option R_L_cells} (hC : mcx RL cL_cells (some .boolean) 33 wsL_cells p s m args meth c A D (tys4 cI cJ cZ cQ)) (hk9 : S_L_cells_9 p l e s m args below meth c A D cI cJ cZ cQ a_p0 res k9) : S_L_cells_109 p l e s m args below meth c A D cI cJ cZ cQ a_p0 res (f_L_cells_109 k9) := by
  intro s_p0 x1 x3 x4 x5 y0 y1 hf H locs hP hD hS ls hl
  obtain ⟨hx, hb, hr, hml, hown, hts, hlocks, hA, hK, hN⟩ := id hC
  unfold f_L_cells_109 at hf
  refine lv_icmp_ne (tgt := 123) hx hb dL_cells_109 (by decide) (fun c1 => ?_) (fun c1 => ?_)
  · replace hf := brF c1 hf
    refine lv_iconst (v := (0 : Int32)) hx hb dL_cells_123 (by decide) ?_
    refine lv_istore_n (lv' := [(2, .int (0 : Int32)), (0, .ref (a_p0.1 0)), (1, .int x1), (3, .int x3), (4, .int x4), (5, .int x5)]) hx hb dL_cells_124 rfl hl (by decide) rfl (fun ls hl => ?_)
    refine lv_iconst (v := (0 : Int32)) hx hb dL_cells_125 (by decide) ?_
    refine lv_istore (lv' := [(6, .int (0 : Int32)), (2, .int (0 : Int32)), (0, .ref (a_p0.1 0)), (1, .int x1), (3, .int x3), (4, .int x4), (5, .int x5)]) hx hb dL_cells_126 hl (by decide) rfl (fun ls hl => ?_)
    exact (t_L_cells_128 hC hk9 fuel) s_p0 x1 (0 : Int32) x3 x4 x5 (0 : Int32) hf _ _ hP hD hS _ (lv_sub hl [2, 3, 1, 4, 5, 6, 0] rfl)
  · replace hf := brT c1 hf
    refine lv_iload hx hb dL_cells_112 (lv_at hl 4 rfl) ?_
    refine lv_iload_n hx hb dL_cells_114 rfl (lv_at hl 1 rfl) ?_
    refine lv_ishr hx hb dL_cells_115 ?_
    refine lv_if_ne (tgt := 123) hx hb dL_cells_116 (by decide) (fun c2 => ?_) (fun c2 => ?_)
    · replace hf := brF c2 hf
      refine lv_iconst (v := (0 : Int32)) hx hb dL_cells_123 (by decide) ?_
      refine lv_istore_n (lv' := [(2, .int (0 : Int32)), (0, .ref (a_p0.1 0)), (1, .int x1), (3, .int x3), (4, .int x4), (5, .int x5)]) hx hb dL_cells_124 rfl hl (by decide) rfl (fun ls hl => ?_)
      refine lv_iconst (v := (0 : Int32)) hx hb dL_cells_125 (by decide) ?_
      refine lv_istore (lv' := [(6, .int (0 : Int32)), (2, .int (0 : Int32)), (0, .ref (a_p0.1 0)), (1, .int x1), (3, .int x3), (4, .int x4), (5, .int x5)]) hx hb dL_cells_126 hl (by decide) rfl (fun ls hl => ?_)
      exact (t_L_cells_128 hC hk9 fuel) s_p0 x1 (0 : Int32) x3 x4 x5 (0 : Int32) hf _ _ hP hD hS _ (lv_sub hl [2, 3, 1, 4, 5, 6, 0] rfl)
    · replace hf := brT c2 hf
      refine lv_iconst (v := (1 : Int32)) hx hb dL_cells_119 (by decide) ?_
      refine lv_goto (tgt := 124) hx hb dL_cells_120 (by decide) ?_
      refine lv_istore_n (lv' := [(2, .int (1 : Int32)), (0, .ref (a_p0.1 0)), (1, .int x1), (3, .int x3), (4, .int x4), (5, .int x5)]) hx hb dL_cells_124 rfl hl (by decide) rfl (fun ls hl => ?_)
      refine lv_iconst (v := (0 : Int32)) hx hb dL_cells_125 (by decide) ?_
      refine lv_istore (lv' := [(6, .int (0 : Int32)), (2, .int (1 : Int32)), (0, .ref (a_p0.1 0)), (1, .int x1), (3, .int x3), (4, .int x4), (5, .int x5)]) hx hb dL_cells_126 hl (by decide) rfl (fun ls hl => ?_)
      exact (t_L_cells_128 hC hk9 fuel) s_p0 x1 (1 : Int32) x3 x4 x5 (0 : Int32) hf _ _ hP hD hS _ (lv_sub hl [2, 3, 1, 4, 5, 6, 0] rfl)
set_option maxHeartbeats 4000000 in
set_option maxRecDepth 100000 in
theorem t_L_cells_83 {p : Program} {l : Launch} {e : Env} {s : State} {m : MethodId} {args : Array Value} {below : List Frame} {meth : Method} {c : Code} {A : Nat → Prop} {D : va_G} {cI cJ cZ cQ : ClassId} {a_p0 : AB} {res : R_L_cells} {k9 : ST → Int32 → Int32 → Int32 → Option R_L_cells} (hC : mcx RL cL_cells (some .boolean) 33 wsL_cells p s m args meth c A D (tys4 cI cJ cZ cQ)) (hk9 : S_L_cells_9 p l e s m args below meth c A D cI cJ cZ cQ a_p0 res k9) : S_L_cells_83 p l e s m args below meth c A D cI cJ cZ cQ a_p0 res (f_L_cells_83 k9) := by
  intro s_p0 x1 x3 x4 x5 hf H locs hP hD hS ls hl
  obtain ⟨hx, hb, hr, hml, hown, hts, hlocks, hA, hK, hN⟩ := id hC
  unfold f_L_cells_83 at hf
  refine lv_aload_n hx hb dL_cells_83 rfl (lv_at hl 0 rfl) ?_
  refine lv_iconst (v := (1 : Int32)) hx hb dL_cells_84 (by decide) ?_
  refine lv_ldc2 (v := (30000 : Int64)) hx hb hown (hts (.constantLong RL 137 (30000)) (List.mem_of_getElem? (i := 1) rfl)) dL_cells_85 ?_
  refine lv_sipush (v := (1000 : Int32)) hx hb dL_cells_88 (by decide) ?_
  refine lv_iload_n hx hb dL_cells_91 rfl (lv_at hl 2 rfl) ?_
  refine lv_imul hx hb dL_cells_92 ?_
  refine lv_i2l (v := ((1000 : Int32) * x3).toInt64) hx hb dL_cells_93 rfl ?_
  refine lv_ladd hx hb dL_cells_94 ?_
  obtain ⟨r1, s2, hq3, hf⟩ := bnd2_of hf
  refine callX (As := [.int (1 : Int32), .long ((30000 : Int64) + ((1000 : Int32) * x3).toInt64)]) (rest := []) (ci := 5) (q0 := 0) (wr := ([])) (WB := (wB cI cJ cZ cQ a_p0 s2)) hx hb hml hown hts hK hN (b_X5_runScript l D cI cJ cZ cQ a_p0 s_p0 (1 : Int32) ((30000 : Int64) + ((1000 : Int32) * x3).toInt64) hq3) (cwV 2 hts gL_cells_X5_runScript rfl rfl rfl e_X5_runScript ⟨Nat.le_of_ble_eq_true rfl, Nat.le_of_ble_eq_true rfl⟩) hP hD hS hA pmN pmN.symm rfl rfl rfl rfl hl (Nat.le_of_ble_eq_true rfl) dL_cells_95 ⟨Nat.zero_le _, Nat.zero_le _⟩ rfl (fun H locs hP hD hS => ?_)
  refine lv_iload hx hb dL_cells_98 (lv_at hl 3 rfl) ?_
  refine lv_if_ne (tgt := 108) hx hb dL_cells_100 (by decide) (fun c4 => ?_) (fun c4 => ?_)
  · replace hf := brF c4 hf
    refine lv_iconst (v := (0 : Int32)) hx hb dL_cells_108 (by decide) ?_
    exact (t_L_cells_109 hC hk9) s2 x1 x3 x4 x5 r1 (0 : Int32) hf _ _ hP hD hS _ (lv_sub hl [0, 1, 2, 3, 4] rfl)
  · replace hf := brT c4 hf
    refine lv_bipush (v := (-9 : Int32)) hx hb dL_cells_103 (by decide) ?_
    refine lv_goto (tgt := 109) hx hb dL_cells_105 (by decide) ?_
    exact (t_L_cells_109 hC hk9) s2 x1 x3 x4 x5 r1 (-9 : Int32) hf _ _ hP hD hS _ (lv_sub hl [0, 1, 2, 3, 4] rfl)
set_option maxHeartbeats 4000000 in
set_option maxRecDepth 100000 in
theorem t_L_cells_61 {p : Program} {l : Launch} {e : Env} {s : State} {m : MethodId} {args : Array Value} {below : List Frame} {meth : Method} {c : Code} {A : Nat → Prop} {D : va_G} {cI cJ cZ cQ : ClassId} {a_p0 : AB} {res : R_L_cells} {k9 : ST → Int32 → Int32 → Int32 → Option R_L_cells} (hC : mcx RL cL_cells (some .boolean) 33 wsL_cells p s m args meth c A D (tys4 cI cJ cZ cQ)) (hk9 : S_L_cells_9 p l e s m args below meth c A D cI cJ cZ cQ a_p0 res k9) : S_L_cells_61 p l e s m args below meth c A D cI cJ cZ cQ a_p0 res (f_L_cells_61 k9) := by
  intro s_p0 x1 x3 x4 x5 y0 y1 hf H locs hP hD hS ls hl
  obtain ⟨hx, hb, hr, hml, hown, hts, hlocks, hA, hK, hN⟩ := id hC
  unfold f_L_cells_61 at hf
  refine lv_icmp_ne (tgt := 123) hx hb dL_cells_61 (by decide) (fun c1 => ?_) (fun c1 => ?_)
  · replace hf := brF c1 hf
    refine lv_iconst (v := (0 : Int32)) hx hb dL_cells_123 (by decide) ?_
    refine lv_istore_n (lv' := [(2, .int (0 : Int32)), (0, .ref (a_p0.1 0)), (1, .int x1), (3, .int x3), (4, .int x4), (5, .int x5)]) hx hb dL_cells_124 rfl hl (by decide) rfl (fun ls hl => ?_)
    refine lv_iconst (v := (0 : Int32)) hx hb dL_cells_125 (by decide) ?_
    refine lv_istore (lv' := [(6, .int (0 : Int32)), (2, .int (0 : Int32)), (0, .ref (a_p0.1 0)), (1, .int x1), (3, .int x3), (4, .int x4), (5, .int x5)]) hx hb dL_cells_126 hl (by decide) rfl (fun ls hl => ?_)
    exact (t_L_cells_128 hC hk9 fuel) s_p0 x1 (0 : Int32) x3 x4 x5 (0 : Int32) hf _ _ hP hD hS _ (lv_sub hl [2, 3, 1, 4, 5, 6, 0] rfl)
  · replace hf := brT c1 hf
    refine lv_iload hx hb dL_cells_64 (lv_at hl 4 rfl) ?_
    refine lv_iload_n hx hb dL_cells_66 rfl (lv_at hl 2 rfl) ?_
    refine lv_ishr hx hb dL_cells_67 ?_
    refine lv_iconst (v := (1 : Int32)) hx hb dL_cells_68 (by decide) ?_
    refine lv_iand hx hb dL_cells_69 ?_
    refine lv_if_ne (tgt := 123) hx hb dL_cells_70 (by decide) (fun c2 => ?_) (fun c2 => ?_)
    · replace hf := brF c2 hf
      refine lv_iconst (v := (0 : Int32)) hx hb dL_cells_123 (by decide) ?_
      refine lv_istore_n (lv' := [(2, .int (0 : Int32)), (0, .ref (a_p0.1 0)), (1, .int x1), (3, .int x3), (4, .int x4), (5, .int x5)]) hx hb dL_cells_124 rfl hl (by decide) rfl (fun ls hl => ?_)
      refine lv_iconst (v := (0 : Int32)) hx hb dL_cells_125 (by decide) ?_
      refine lv_istore (lv' := [(6, .int (0 : Int32)), (2, .int (0 : Int32)), (0, .ref (a_p0.1 0)), (1, .int x1), (3, .int x3), (4, .int x4), (5, .int x5)]) hx hb dL_cells_126 hl (by decide) rfl (fun ls hl => ?_)
      exact (t_L_cells_128 hC hk9 fuel) s_p0 x1 (0 : Int32) x3 x4 x5 (0 : Int32) hf _ _ hP hD hS _ (lv_sub hl [2, 3, 1, 4, 5, 6, 0] rfl)
    · replace hf := brT c2 hf
      refine lv_iload hx hb dL_cells_73 (lv_at hl 3 rfl) ?_
      refine lv_if_gt (tgt := 83) hx hb dL_cells_75 (by decide) (fun c3 => ?_) (fun c3 => ?_)
      · replace hf := brT c3 hf
        exact (t_L_cells_83 hC hk9) s_p0 x1 x3 x4 x5 hf _ _ hP hD hS _ (lv_sub hl [0, 1, 2, 3, 4] rfl)
      · replace hf := brF c3 hf
        refine lv_iload hx hb dL_cells_78 (lv_at hl 4 rfl) ?_
        refine lv_if_ne (tgt := 123) hx hb dL_cells_80 (by decide) (fun c4 => ?_) (fun c4 => ?_)
        · replace hf := brF c4 hf
          refine lv_iconst (v := (0 : Int32)) hx hb dL_cells_123 (by decide) ?_
          refine lv_istore_n (lv' := [(2, .int (0 : Int32)), (0, .ref (a_p0.1 0)), (1, .int x1), (3, .int x3), (4, .int x4), (5, .int x5)]) hx hb dL_cells_124 rfl hl (by decide) rfl (fun ls hl => ?_)
          refine lv_iconst (v := (0 : Int32)) hx hb dL_cells_125 (by decide) ?_
          refine lv_istore (lv' := [(6, .int (0 : Int32)), (2, .int (0 : Int32)), (0, .ref (a_p0.1 0)), (1, .int x1), (3, .int x3), (4, .int x4), (5, .int x5)]) hx hb dL_cells_126 hl (by decide) rfl (fun ls hl => ?_)
          exact (t_L_cells_128 hC hk9 fuel) s_p0 x1 (0 : Int32) x3 x4 x5 (0 : Int32) hf _ _ hP hD hS _ (lv_sub hl [2, 3, 1, 4, 5, 6, 0] rfl)
        · replace hf := brT c4 hf
          exact (t_L_cells_83 hC hk9) s_p0 x1 x3 x4 x5 hf _ _ hP hD hS _ (lv_sub hl [0, 1, 2, 3, 4] rfl)
set_option maxHeartbeats 4000000 in
set_option maxRecDepth 100000 in
theorem t_L_cells_43 {p : Program} {l : Launch} {e : Env} {s : State} {m : MethodId} {args : Array Value} {below : List Frame} {meth : Method} {c : Code} {A : Nat → Prop} {D : va_G} {cI cJ cZ cQ : ClassId} {a_p0 : AB} {res : R_L_cells} {k9 : ST → Int32 → Int32 → Int32 → Option R_L_cells} (hC : mcx RL cL_cells (some .boolean) 33 wsL_cells p s m args meth c A D (tys4 cI cJ cZ cQ)) (hk9 : S_L_cells_9 p l e s m args below meth c A D cI cJ cZ cQ a_p0 res k9) : S_L_cells_43 p l e s m args below meth c A D cI cJ cZ cQ a_p0 res (f_L_cells_43 k9) := by
  intro s_p0 x1 x3 x4 x5 hf H locs hP hD hS ls hl
  obtain ⟨hx, hb, hr, hml, hown, hts, hlocks, hA, hK, hN⟩ := id hC
  unfold f_L_cells_43 at hf
  refine lv_aload_n hx hb dL_cells_43 rfl (lv_at hl 0 rfl) ?_
  obtain ⟨r1, s2, hq3, hf⟩ := bnd2_of hf
  refine callX (As := []) (rest := []) (ci := 5) (q0 := 0) (wr := ([])) (WB := (wB cI cJ cZ cQ a_p0 s2)) hx hb hml hown hts hK hN (b_X5_hiddenSites l D cI cJ cZ cQ a_p0 s_p0  hq3) (cwV 0 hts gL_cells_X5_hiddenSites rfl rfl rfl e_X5_hiddenSites ⟨Nat.le_of_ble_eq_true rfl, Nat.le_of_ble_eq_true rfl⟩) hP hD hS hA pmN pmN.symm rfl rfl rfl rfl hl (Nat.le_of_ble_eq_true rfl) dL_cells_44 ⟨Nat.zero_le _, Nat.zero_le _⟩ rfl (fun H locs hP hD hS => ?_)
  refine lv_iload_n hx hb dL_cells_47 rfl (lv_at hl 2 rfl) ?_
  refine lv_ishr hx hb dL_cells_48 ?_
  refine lv_iconst (v := (1 : Int32)) hx hb dL_cells_49 (by decide) ?_
  refine lv_iand hx hb dL_cells_50 ?_
  refine lv_iload hx hb dL_cells_51 (lv_at hl 3 rfl) ?_
  refine lv_if_ne (tgt := 60) hx hb dL_cells_53 (by decide) (fun c4 => ?_) (fun c4 => ?_)
  · replace hf := brF c4 hf
    refine lv_iconst (v := (0 : Int32)) hx hb dL_cells_60 (by decide) ?_
    exact (t_L_cells_61 hC hk9) s2 x1 x3 x4 x5 ((r1 >>> (x3 &&& 31)) &&& (1 : Int32)) (0 : Int32) hf _ _ hP hD hS _ (lv_sub hl [0, 1, 2, 3, 4] rfl)
  · replace hf := brT c4 hf
    refine lv_iconst (v := (1 : Int32)) hx hb dL_cells_56 (by decide) ?_
    refine lv_goto (tgt := 61) hx hb dL_cells_57 (by decide) ?_
    exact (t_L_cells_61 hC hk9) s2 x1 x3 x4 x5 ((r1 >>> (x3 &&& 31)) &&& (1 : Int32)) (1 : Int32) hf _ _ hP hD hS _ (lv_sub hl [0, 1, 2, 3, 4] rfl)
set_option maxHeartbeats 4000000 in
set_option maxRecDepth 100000 in
theorem i_L_cells_9 {p : Program} {l : Launch} {e : Env} {s : State} {m : MethodId} {args : Array Value} {below : List Frame} {meth : Method} {c : Code} {A : Nat → Prop} {D : va_G} {cI cJ cZ cQ : ClassId} {a_p0 : AB} {res : R_L_cells}  {k9 : ST → Int32 → Int32 → Int32 → Option R_L_cells} (hC : mcx RL cL_cells (some .boolean) 33 wsL_cells p s m args meth c A D (tys4 cI cJ cZ cQ))  (hk9 : S_L_cells_9 p l e s m args below meth c A D cI cJ cZ cQ a_p0 res k9) : S_L_cells_9 p l e s m args below meth c A D cI cJ cZ cQ a_p0 res (g_L_cells_9  k9) := by
  intro s_p0 x1 x2 x3 hf H locs hP hD hS ls hl
  obtain ⟨hx, hb, hr, hml, hown, hts, hlocks, hA, hK, hN⟩ := id hC
  unfold g_L_cells_9 at hf
  refine lv_iload_n hx hb dL_cells_9 rfl (lv_at hl 3 rfl) ?_
  refine lv_iload_n hx hb dL_cells_10 rfl (lv_at hl 1 rfl) ?_
  refine lv_icmp_ge (tgt := 615) hx hb dL_cells_11 (by decide) (fun c1 => ?_) (fun c1 => ?_)
  · replace hf := brT c1 hf
    refine lv_iload_n hx hb dL_cells_615 rfl (lv_at hl 2 rfl) ?_
    obtain ⟨hn, hf⟩ := gZ_of hf
    obtain rfl := Option.some.inj hf
    exact endI (ty := .boolean) hC hn rfl hP hD hS dL_cells_616
  · replace hf := brF c1 hf
    refine lv_iload_n hx hb dL_cells_14 rfl (lv_at hl 2 rfl) ?_
    refine lv_if_eq (tgt := 615) hx hb dL_cells_15 (by decide) (fun c2 => ?_) (fun c2 => ?_)
    · replace hf := brT c2 hf
      refine lv_iload_n hx hb dL_cells_615 rfl (lv_at hl 2 rfl) ?_
      obtain ⟨hn, hf⟩ := gZ_of hf
      obtain rfl := Option.some.inj hf
      exact endI (ty := .boolean) hC hn rfl hP hD hS dL_cells_616
    · replace hf := brF c2 hf
      refine lv_aload_n hx hb dL_cells_18 rfl (lv_at hl 0 rfl) ?_
      refine lv_iload_n hx hb dL_cells_19 rfl (lv_at hl 3 rfl) ?_
      obtain ⟨r3, s4, hq5, hf⟩ := bnd2_of hf
      refine callX (As := [.int x3]) (rest := []) (ci := 5) (q0 := 0) (wr := ([])) (WB := (wB cI cJ cZ cQ a_p0 s4)) hx hb hml hown hts hK hN (b_X5_cornerCount l D cI cJ cZ cQ a_p0 s_p0 x3 hq5) (cwV 1 hts gL_cells_X5_cornerCount rfl rfl rfl e_X5_cornerCount ⟨Nat.le_of_ble_eq_true rfl, Nat.le_of_ble_eq_true rfl⟩) hP hD hS hA pmN pmN.symm rfl rfl rfl rfl hl (Nat.le_of_ble_eq_true rfl) dL_cells_20 ⟨Nat.zero_le _, Nat.zero_le _⟩ rfl (fun H locs hP hD hS => ?_)
      refine lv_istore (lv' := [(4, .int r3), (0, .ref (a_p0.1 0)), (1, .int x1), (2, .int x2), (3, .int x3)]) hx hb dL_cells_23 hl (by decide) rfl (fun ls hl => ?_)
      refine lv_aload_n hx hb dL_cells_25 rfl (lv_at hl 1 rfl) ?_
      refine lv_iload_n hx hb dL_cells_26 rfl (lv_at hl 4 rfl) ?_
      obtain ⟨r6, s7, hq8, hf⟩ := bnd2_of hf
      refine callX (As := [.int x3]) (rest := []) (ci := 5) (q0 := 0) (wr := ([])) (WB := (wB cI cJ cZ cQ a_p0 s7)) hx hb hml hown hts hK hN (b_X5_neighbours l D cI cJ cZ cQ a_p0 s4 x3 hq8) (cwV 1 hts gL_cells_X5_neighbours rfl rfl rfl e_X5_neighbours ⟨Nat.le_of_ble_eq_true rfl, Nat.le_of_ble_eq_true rfl⟩) hP hD hS hA pmN pmN.symm rfl rfl rfl rfl hl (Nat.le_of_ble_eq_true rfl) dL_cells_27 ⟨Nat.zero_le _, Nat.zero_le _⟩ rfl (fun H locs hP hD hS => ?_)
      refine lv_istore (lv' := [(5, .int r6), (4, .int r3), (0, .ref (a_p0.1 0)), (1, .int x1), (2, .int x2), (3, .int x3)]) hx hb dL_cells_30 hl (by decide) rfl (fun ls hl => ?_)
      refine lv_iload hx hb dL_cells_32 (lv_at hl 1 rfl) ?_
      refine lv_if_eq (tgt := 43) hx hb dL_cells_34 (by decide) (fun c9 => ?_) (fun c9 => ?_)
      · replace hf := brT c9 hf
        exact (t_L_cells_43 hC hk9) s7 x1 x3 r3 r6 hf _ _ hP hD hS _ (lv_sub hl [2, 3, 5, 1, 0] rfl)
      · replace hf := brF c9 hf
        refine lv_iload hx hb dL_cells_37 (lv_at hl 1 rfl) ?_
        refine lv_iconst (v := (2 : Int32)) hx hb dL_cells_39 (by decide) ?_
        refine lv_icmp_le (tgt := 123) hx hb dL_cells_40 (by decide) (fun c10 => ?_) (fun c10 => ?_)
        · replace hf := brT c10 hf
          refine lv_iconst (v := (0 : Int32)) hx hb dL_cells_123 (by decide) ?_
          refine lv_istore_n (lv' := [(2, .int (0 : Int32)), (5, .int r6), (4, .int r3), (0, .ref (a_p0.1 0)), (1, .int x1), (3, .int x3)]) hx hb dL_cells_124 rfl hl (by decide) rfl (fun ls hl => ?_)
          refine lv_iconst (v := (0 : Int32)) hx hb dL_cells_125 (by decide) ?_
          refine lv_istore (lv' := [(6, .int (0 : Int32)), (2, .int (0 : Int32)), (5, .int r6), (4, .int r3), (0, .ref (a_p0.1 0)), (1, .int x1), (3, .int x3)]) hx hb dL_cells_126 hl (by decide) rfl (fun ls hl => ?_)
          exact (t_L_cells_128 hC hk9 fuel) s7 x1 (0 : Int32) x3 r3 r6 (0 : Int32) hf _ _ hP hD hS _ (lv_sub hl [4, 5, 1, 6, 3, 2, 0] rfl)
        · replace hf := brF c10 hf
          exact (t_L_cells_43 hC hk9) s7 x1 x3 r3 r6 hf _ _ hP hD hS _ (lv_sub hl [2, 3, 5, 1, 0] rfl)
theorem t_L_cells_9 {p : Program} {l : Launch} {e : Env} {s : State} {m : MethodId} {args : Array Value} {below : List Frame} {meth : Method} {c : Code} {A : Nat → Prop} {D : va_G} {cI cJ cZ cQ : ClassId} {a_p0 : AB} {res : R_L_cells}  (hC : mcx RL cL_cells (some .boolean) 33 wsL_cells p s m args meth c A D (tys4 cI cJ cZ cQ))  (n : Nat) : S_L_cells_9 p l e s m args below meth c A D cI cJ cZ cQ a_p0 res (f_L_cells_9  n) := by
  induction n with
  | zero =>
    intro s_p0 x1 x2 x3 hf
    exact nomatch (show (none : Option R_L_cells) = some res from hf)
  | succ n ih => exact i_L_cells_9 hC  ih
set_option maxHeartbeats 4000000 in
set_option maxRecDepth 100000 in
theorem t_L_cells_0 {p : Program} {l : Launch} {e : Env} {s : State} {m : MethodId} {args : Array Value} {below : List Frame} {meth : Method} {c : Code} {A : Nat → Prop} {D : va_G} {cI cJ cZ cQ : ClassId} {a_p0 : AB} {res : R_L_cells}  (hC : mcx RL cL_cells (some .boolean) 33 wsL_cells p s m args meth c A D (tys4 cI cJ cZ cQ))  : S_L_cells_0 p l e s m args below meth c A D cI cJ cZ cQ a_p0 res (f_L_cells_0 ) := by
  intro s_p0 hf H locs hP hD hS ls hl
  obtain ⟨hx, hb, hr, hml, hown, hts, hlocks, hA, hK, hN⟩ := id hC
  unfold f_L_cells_0 at hf
  refine lv_aload_n hx hb dL_cells_0 rfl (lv_at hl 0 rfl) ?_
  obtain ⟨r1, s2, hq3, hf⟩ := bnd2_of hf
  refine callX (As := []) (rest := []) (ci := 5) (q0 := 0) (wr := ([])) (WB := (wB cI cJ cZ cQ a_p0 s2)) hx hb hml hown hts hK hN (b_X5_siteCount l D cI cJ cZ cQ a_p0 s_p0  hq3) (cwV 0 hts gL_cells_X5_siteCount rfl rfl rfl e_X5_siteCount ⟨Nat.le_of_ble_eq_true rfl, Nat.le_of_ble_eq_true rfl⟩) hP hD hS hA pmN pmN.symm rfl rfl rfl rfl hl (Nat.le_of_ble_eq_true rfl) dL_cells_1 ⟨Nat.zero_le _, Nat.zero_le _⟩ rfl (fun H locs hP hD hS => ?_)
  refine lv_istore_n (lv' := [(1, .int r1), (0, .ref (a_p0.1 0))]) hx hb dL_cells_4 rfl hl (by decide) rfl (fun ls hl => ?_)
  refine lv_iconst (v := (1 : Int32)) hx hb dL_cells_5 (by decide) ?_
  refine lv_istore_n (lv' := [(2, .int (1 : Int32)), (1, .int r1), (0, .ref (a_p0.1 0))]) hx hb dL_cells_6 rfl hl (by decide) rfl (fun ls hl => ?_)
  refine lv_iconst (v := (0 : Int32)) hx hb dL_cells_7 (by decide) ?_
  refine lv_istore_n (lv' := [(3, .int (0 : Int32)), (2, .int (1 : Int32)), (1, .int r1), (0, .ref (a_p0.1 0))]) hx hb dL_cells_8 rfl hl (by decide) rfl (fun ls hl => ?_)
  exact (t_L_cells_9 hC  fuel) s2 r1 (1 : Int32) (0 : Int32) hf _ _ hP hD hS _ (lv_sub hl [3, 2, 1, 0] rfl)
theorem c_L_cells (l : Launch) (D : va_G) (cI cJ cZ cQ : ClassId) (a_p0 : AB) (s_p0 : ST)  {res : R_L_cells} (hf : f_L_cells_0 s_p0  = some res) : MetI l D (tys4 cI cJ cZ cQ) yL_cells wsL_cells rm_L_cells [.ref (a_p0.1 0)] (wB cI cJ cZ cQ a_p0 s_p0) (wB cI cJ cZ cQ a_p0 res.2) res.1 := by
  intro sz
  exact metW (own := RL) (cc := cL_cells) (nL := 33) (ret := (some .boolean)) (Qc := fun A => qI D (tys4 cI cJ cZ cQ) (wB cI cJ cZ cQ a_p0 res.2) A res.1) (by decide) rfl rfl (Nat.le_of_ble_eq_true rfl) (fun p e s m args below meth c A hC hP hD hS ls hl => t_L_cells_0 hC s_p0  hf _ _ hP hD hS _ (lv_sub hl [0] rfl)) sz
theorem e_L_cells : yL_cells.cls ≠ "java/lang/invoke/MethodHandle" ∧ yL_cells.cls ≠ "java/lang/invoke/VarHandle" ∧ (parseMethodDescriptor yL_cells.desc).map (fun d => d.parameters.length) = some 1 := by decide +kernel
abbrev rm_L_triangles : Room := { frames := 4, cells := 0, slots := 0, locals := 97 }
def S_L_triangles_229 (p : Program) (l : Launch) (e : Env) (s : State) (m : MethodId) (args : Array Value) (below : List Frame) (meth : Method) (c : Code) (A : Nat → Prop) (D : va_G) (cI cJ cZ cQ : ClassId) (a_p0 : AB) (res : R_L_triangles) (k : ST → Int32 → Int64 → Int32 → Int32 → Int32 → Int32 → Int32 → Int32 → Int32 → Option R_L_triangles) : Prop := ∀ (s_p0 : ST) (x2 : Int32) (x3 : Int64) (x5 : Int32) (x6 : Int32) (x10 : Int32) (x11 : Int32) (x12 : Int32) (x13 : Int32) (x14 : Int32), k s_p0 x2 x3 x5 x6 x10 x11 x12 x13 x14 = some res → ∀ (H : Heap) (locs : List Loc), va_P D vwCl (wB cI cJ cZ cQ a_p0 s_p0) H → va_D A (wB cI cJ cZ cQ a_p0 s_p0) → va_S A s.heap H locs → ∀ ls : Array Slot, lv_has ls 15 [(0, .ref (a_p0.1 0)), (2, .int x2), (3, .long x3), (5, .int x5), (6, .int x6), (10, .int x10), (11, .int x11), (12, .int x12), (13, .int x13), (14, .int x14)] → W p l e (headSpec wsL_triangles rm_L_triangles).room s m args below meth c H locs 0 0 (MQ below (qI D (tys4 cI cJ cZ cQ) (wB cI cJ cZ cQ a_p0 res.2) A res.1) args s 0 0 A) (F0 m 229 ls [])
def S_L_triangles_219 (p : Program) (l : Launch) (e : Env) (s : State) (m : MethodId) (args : Array Value) (below : List Frame) (meth : Method) (c : Code) (A : Nat → Prop) (D : va_G) (cI cJ cZ cQ : ClassId) (a_p0 : AB) (res : R_L_triangles) (k : ST → Int32 → Int64 → Int32 → Int32 → Int32 → Int32 → Int32 → Int32 → Option R_L_triangles) : Prop := ∀ (s_p0 : ST) (x2 : Int32) (x3 : Int64) (x5 : Int32) (x6 : Int32) (x10 : Int32) (x11 : Int32) (x12 : Int32) (x13 : Int32), k s_p0 x2 x3 x5 x6 x10 x11 x12 x13 = some res → ∀ (H : Heap) (locs : List Loc), va_P D vwCl (wB cI cJ cZ cQ a_p0 s_p0) H → va_D A (wB cI cJ cZ cQ a_p0 s_p0) → va_S A s.heap H locs → ∀ ls : Array Slot, lv_has ls 15 [(0, .ref (a_p0.1 0)), (2, .int x2), (3, .long x3), (5, .int x5), (6, .int x6), (10, .int x10), (11, .int x11), (12, .int x12), (13, .int x13)] → W p l e (headSpec wsL_triangles rm_L_triangles).room s m args below meth c H locs 0 0 (MQ below (qI D (tys4 cI cJ cZ cQ) (wB cI cJ cZ cQ a_p0 res.2) A res.1) args s 0 0 A) (F0 m 219 ls [])
def S_L_triangles_210 (p : Program) (l : Launch) (e : Env) (s : State) (m : MethodId) (args : Array Value) (below : List Frame) (meth : Method) (c : Code) (A : Nat → Prop) (D : va_G) (cI cJ cZ cQ : ClassId) (a_p0 : AB) (res : R_L_triangles) (k : ST → Int32 → Int64 → Int32 → Int32 → Int32 → Int32 → Int32 → Option R_L_triangles) : Prop := ∀ (s_p0 : ST) (x2 : Int32) (x3 : Int64) (x5 : Int32) (x6 : Int32) (x10 : Int32) (x11 : Int32) (x12 : Int32), k s_p0 x2 x3 x5 x6 x10 x11 x12 = some res → ∀ (H : Heap) (locs : List Loc), va_P D vwCl (wB cI cJ cZ cQ a_p0 s_p0) H → va_D A (wB cI cJ cZ cQ a_p0 s_p0) → va_S A s.heap H locs → ∀ ls : Array Slot, lv_has ls 15 [(0, .ref (a_p0.1 0)), (2, .int x2), (3, .long x3), (5, .int x5), (6, .int x6), (10, .int x10), (11, .int x11), (12, .int x12)] → W p l e (headSpec wsL_triangles rm_L_triangles).room s m args below meth c H locs 0 0 (MQ below (qI D (tys4 cI cJ cZ cQ) (wB cI cJ cZ cQ a_p0 res.2) A res.1) args s 0 0 A) (F0 m 210 ls [])
def S_L_triangles_121 (p : Program) (l : Launch) (e : Env) (s : State) (m : MethodId) (args : Array Value) (below : List Frame) (meth : Method) (c : Code) (A : Nat → Prop) (D : va_G) (cI cJ cZ cQ : ClassId) (a_p0 : AB) (res : R_L_triangles) (k : ST → Int32 → Int32 → Int64 → Int32 → Int32 → Option R_L_triangles) : Prop := ∀ (s_p0 : ST) (x1 : Int32) (x2 : Int32) (x3 : Int64) (x5 : Int32) (y0 : Int32), k s_p0 x1 x2 x3 x5 y0 = some res → ∀ (H : Heap) (locs : List Loc), va_P D vwCl (wB cI cJ cZ cQ a_p0 s_p0) H → va_D A (wB cI cJ cZ cQ a_p0 s_p0) → va_S A s.heap H locs → ∀ ls : Array Slot, lv_has ls 15 [(0, .ref (a_p0.1 0)), (1, .int x1), (2, .int x2), (3, .long x3), (5, .int x5)] → W p l e (headSpec wsL_triangles rm_L_triangles).room s m args below meth c H locs 0 0 (MQ below (qI D (tys4 cI cJ cZ cQ) (wB cI cJ cZ cQ a_p0 res.2) A res.1) args s 0 0 A) (F0 m 121 ls [.int y0])
def S_L_triangles_35 (p : Program) (l : Launch) (e : Env) (s : State) (m : MethodId) (args : Array Value) (below : List Frame) (meth : Method) (c : Code) (A : Nat → Prop) (D : va_G) (cI cJ cZ cQ : ClassId) (a_p0 : AB) (res : R_L_triangles) (k : ST → Int32 → Int32 → Int64 → Int32 → Int32 → Int32 → Int32 → Option R_L_triangles) : Prop := ∀ (s_p0 : ST) (x1 : Int32) (x2 : Int32) (x3 : Int64) (x5 : Int32) (x6 : Int32) (x7 : Int32) (x8 : Int32), k s_p0 x1 x2 x3 x5 x6 x7 x8 = some res → ∀ (H : Heap) (locs : List Loc), va_P D vwCl (wB cI cJ cZ cQ a_p0 s_p0) H → va_D A (wB cI cJ cZ cQ a_p0 s_p0) → va_S A s.heap H locs → ∀ ls : Array Slot, lv_has ls 15 [(0, .ref (a_p0.1 0)), (1, .int x1), (2, .int x2), (3, .long x3), (5, .int x5), (6, .int x6), (7, .int x7), (8, .int x8)] → W p l e (headSpec wsL_triangles rm_L_triangles).room s m args below meth c H locs 0 0 (MQ below (qI D (tys4 cI cJ cZ cQ) (wB cI cJ cZ cQ a_p0 res.2) A res.1) args s 0 0 A) (F0 m 35 ls [])
def S_L_triangles_25 (p : Program) (l : Launch) (e : Env) (s : State) (m : MethodId) (args : Array Value) (below : List Frame) (meth : Method) (c : Code) (A : Nat → Prop) (D : va_G) (cI cJ cZ cQ : ClassId) (a_p0 : AB) (res : R_L_triangles) (k : ST → Int32 → Int32 → Int64 → Int32 → Int32 → Int32 → Option R_L_triangles) : Prop := ∀ (s_p0 : ST) (x1 : Int32) (x2 : Int32) (x3 : Int64) (x5 : Int32) (x6 : Int32) (x7 : Int32), k s_p0 x1 x2 x3 x5 x6 x7 = some res → ∀ (H : Heap) (locs : List Loc), va_P D vwCl (wB cI cJ cZ cQ a_p0 s_p0) H → va_D A (wB cI cJ cZ cQ a_p0 s_p0) → va_S A s.heap H locs → ∀ ls : Array Slot, lv_has ls 15 [(0, .ref (a_p0.1 0)), (1, .int x1), (2, .int x2), (3, .long x3), (5, .int x5), (6, .int x6), (7, .int x7)] → W p l e (headSpec wsL_triangles rm_L_triangles).room s m args below meth c H locs 0 0 (MQ below (qI D (tys4 cI cJ cZ cQ) (wB cI cJ cZ cQ a_p0 res.2) A res.1) args s 0 0 A) (F0 m 25 ls [])
def S_L_triangles_16 (p : Program) (l : Launch) (e : Env) (s : State) (m : MethodId) (args : Array Value) (below : List Frame) (meth : Method) (c : Code) (A : Nat → Prop) (D : va_G) (cI cJ cZ cQ : ClassId) (a_p0 : AB) (res : R_L_triangles) (k : ST → Int32 → Int32 → Int64 → Int32 → Int32 → Option R_L_triangles) : Prop := ∀ (s_p0 : ST) (x1 : Int32) (x2 : Int32) (x3 : Int64) (x5 : Int32) (x6 : Int32), k s_p0 x1 x2 x3 x5 x6 = some res → ∀ (H : Heap) (locs : List Loc), va_P D vwCl (wB cI cJ cZ cQ a_p0 s_p0) H → va_D A (wB cI cJ cZ cQ a_p0 s_p0) → va_S A s.heap H locs → ∀ ls : Array Slot, lv_has ls 15 [(0, .ref (a_p0.1 0)), (1, .int x1), (2, .int x2), (3, .long x3), (5, .int x5), (6, .int x6)] → W p l e (headSpec wsL_triangles rm_L_triangles).room s m args below meth c H locs 0 0 (MQ below (qI D (tys4 cI cJ cZ cQ) (wB cI cJ cZ cQ a_p0 res.2) A res.1) args s 0 0 A) (F0 m 16 ls [])
def S_L_triangles_0 (p : Program) (l : Launch) (e : Env) (s : State) (m : MethodId) (args : Array Value) (below : List Frame) (meth : Method) (c : Code) (A : Nat → Prop) (D : va_G) (cI cJ cZ cQ : ClassId) (a_p0 : AB) (res : R_L_triangles) (k : ST → Int32 → Option R_L_triangles) : Prop := ∀ (s_p0 : ST) (x1 : Int32), k s_p0 x1 = some res → ∀ (H : Heap) (locs : List Loc), va_P D vwCl (wB cI cJ cZ cQ a_p0 s_p0) H → va_D A (wB cI cJ cZ cQ a_p0 s_p0) → va_S A s.heap H locs → ∀ ls : Array Slot, lv_has ls 15 [(0, .ref (a_p0.1 0)), (1, .int x1)] → W p l e (headSpec wsL_triangles rm_L_triangles).room s m args below meth c H locs 0 0 (MQ below (qI D (tys4 cI cJ cZ cQ) (wB cI cJ cZ cQ a_p0 res.2) A res.1) args s 0 0 A) (F0 m 0 ls [])
set_option maxHeartbeats 4000000 in
set_option maxRecDepth 100000 in
theorem i_L_triangles_229 {p : Program} {l : Launch} {e : Env} {s : State} {m : MethodId} {args : Array Value} {below : List Frame} {meth : Method} {c : Code} {A : Nat → Prop} {D : va_G} {cI cJ cZ cQ : ClassId} {a_p0 : AB} {res : R_L_triangles} {k219 : ST → Int32 → Int64 → Int32 → Int32 → Int32 → Int32 → Int32 → Int32 → Option R_L_triangles} {k229 : ST → Int32 → Int64 → Int32 → Int32 → Int32 → Int32 → Int32 → Int32 → Int32 → Option R_L_triangles} (hC : mcx RL cL_triangles (some .boolean) 15 wsL_triangles p s m args meth c A D (tys4 cI cJ cZ cQ)) (hk219 : S_L_triangles_219 p l e s m args below meth c A D cI cJ cZ cQ a_p0 res k219) (hk229 : S_L_triangles_229 p l e s m args below meth c A D cI cJ cZ cQ a_p0 res k229) : S_L_triangles_229 p l e s m args below meth c A D cI cJ cZ cQ a_p0 res (g_L_triangles_229 k219 k229) := by
  intro s_p0 x2 x3 x5 x6 x10 x11 x12 x13 x14 hf H locs hP hD hS ls hl
  obtain ⟨hx, hb, hr, hml, hown, hts, hlocks, hA, hK, hN⟩ := id hC
  unfold g_L_triangles_229 at hf
  refine lv_iload hx hb dL_triangles_229 (lv_at hl 9 rfl) ?_
  refine lv_iload hx hb dL_triangles_231 (lv_at hl 8 rfl) ?_
  refine lv_icmp_ge (tgt := 257) hx hb dL_triangles_233 (by decide) (fun c1 => ?_) (fun c1 => ?_)
  · replace hf := brT c1 hf
    refine lv_iinc (v := (x13 + (1 : Int32))) (lv' := [(13, .int (x13 + (1 : Int32))), (0, .ref (a_p0.1 0)), (2, .int x2), (3, .long x3), (5, .int x5), (6, .int x6), (10, .int x10), (11, .int x11), (12, .int x12), (14, .int x14)]) hx hb dL_triangles_257 hl (k := 8) rfl rfl (by decide) rfl (fun ls hl => ?_)
    refine lv_goto (tgt := 219) hx hb dL_triangles_260 (by decide) ?_
    exact (hk219) s_p0 x2 x3 x5 x6 x10 x11 x12 (x13 + (1 : Int32)) hf _ _ hP hD hS _ (lv_sub hl [1, 2, 3, 4, 5, 6, 7, 8, 0] rfl)
  · replace hf := brF c1 hf
    refine lv_iload hx hb dL_triangles_236 (lv_at hl 6 rfl) ?_
    refine lv_aload_n hx hb dL_triangles_238 rfl (lv_at hl 0 rfl) ?_
    refine lv_iload hx hb dL_triangles_239 (lv_at hl 7 rfl) ?_
    refine lv_iload hx hb dL_triangles_241 (lv_at hl 8 rfl) ?_
    refine lv_iload hx hb dL_triangles_243 (lv_at hl 9 rfl) ?_
    obtain ⟨r2, s3, hq4, hf⟩ := bnd2_of hf
    refine callX (As := [.int x12, .int x13, .int x14]) (rest := [.int x11]) (ci := 5) (q0 := 0) (wr := ([])) (WB := (wB cI cJ cZ cQ a_p0 s3)) hx hb hml hown hts hK hN (b_X5_isTriangle l D cI cJ cZ cQ a_p0 s_p0 x12 x13 x14 hq4) (cwV 3 hts gL_triangles_X5_isTriangle rfl rfl rfl e_X5_isTriangle ⟨Nat.le_of_ble_eq_true rfl, Nat.le_of_ble_eq_true rfl⟩) hP hD hS hA pmN pmN.symm rfl rfl rfl rfl hl (Nat.le_of_ble_eq_true rfl) dL_triangles_245 ⟨Nat.zero_le _, Nat.zero_le _⟩ rfl (fun H locs hP hD hS => ?_)
    refine lv_iadd hx hb dL_triangles_248 ?_
    refine lv_topi (fun v5 ev5 => ?_)
    replace hf := nm_of ev5 hf
    refine lv_istore (lv' := [(11, .int v5), (0, .ref (a_p0.1 0)), (2, .int x2), (3, .long x3), (5, .int x5), (6, .int x6), (10, .int x10), (12, .int x12), (13, .int x13), (14, .int x14)]) hx hb dL_triangles_249 hl (by decide) rfl (fun ls hl => ?_)
    refine lv_iinc (v := (x14 + (1 : Int32))) (lv' := [(14, .int (x14 + (1 : Int32))), (11, .int v5), (0, .ref (a_p0.1 0)), (2, .int x2), (3, .long x3), (5, .int x5), (6, .int x6), (10, .int x10), (12, .int x12), (13, .int x13)]) hx hb dL_triangles_251 hl (k := 9) rfl rfl (by decide) rfl (fun ls hl => ?_)
    refine lv_goto (tgt := 229) hx hb dL_triangles_254 (by decide) ?_
    exact (hk229) s3 x2 x3 x5 x6 x10 v5 x12 x13 (x14 + (1 : Int32)) hf _ _ hP hD hS _ (lv_sub hl [2, 3, 4, 5, 6, 7, 1, 8, 9, 0] rfl)
theorem t_L_triangles_229 {p : Program} {l : Launch} {e : Env} {s : State} {m : MethodId} {args : Array Value} {below : List Frame} {meth : Method} {c : Code} {A : Nat → Prop} {D : va_G} {cI cJ cZ cQ : ClassId} {a_p0 : AB} {res : R_L_triangles} {k219 : ST → Int32 → Int64 → Int32 → Int32 → Int32 → Int32 → Int32 → Int32 → Option R_L_triangles} (hC : mcx RL cL_triangles (some .boolean) 15 wsL_triangles p s m args meth c A D (tys4 cI cJ cZ cQ)) (hk219 : S_L_triangles_219 p l e s m args below meth c A D cI cJ cZ cQ a_p0 res k219) (n : Nat) : S_L_triangles_229 p l e s m args below meth c A D cI cJ cZ cQ a_p0 res (f_L_triangles_229 k219 n) := by
  induction n with
  | zero =>
    intro s_p0 x2 x3 x5 x6 x10 x11 x12 x13 x14 hf
    exact nomatch (show (none : Option R_L_triangles) = some res from hf)
  | succ n ih => exact i_L_triangles_229 hC hk219 ih
set_option maxHeartbeats 4000000 in
set_option maxRecDepth 100000 in
theorem i_L_triangles_219 {p : Program} {l : Launch} {e : Env} {s : State} {m : MethodId} {args : Array Value} {below : List Frame} {meth : Method} {c : Code} {A : Nat → Prop} {D : va_G} {cI cJ cZ cQ : ClassId} {a_p0 : AB} {res : R_L_triangles} {k210 : ST → Int32 → Int64 → Int32 → Int32 → Int32 → Int32 → Int32 → Option R_L_triangles} {k219 : ST → Int32 → Int64 → Int32 → Int32 → Int32 → Int32 → Int32 → Int32 → Option R_L_triangles} (hC : mcx RL cL_triangles (some .boolean) 15 wsL_triangles p s m args meth c A D (tys4 cI cJ cZ cQ)) (hk210 : S_L_triangles_210 p l e s m args below meth c A D cI cJ cZ cQ a_p0 res k210) (hk219 : S_L_triangles_219 p l e s m args below meth c A D cI cJ cZ cQ a_p0 res k219) : S_L_triangles_219 p l e s m args below meth c A D cI cJ cZ cQ a_p0 res (g_L_triangles_219 k210 k219) := by
  intro s_p0 x2 x3 x5 x6 x10 x11 x12 x13 hf H locs hP hD hS ls hl
  obtain ⟨hx, hb, hr, hml, hown, hts, hlocks, hA, hK, hN⟩ := id hC
  unfold g_L_triangles_219 at hf
  refine lv_iload hx hb dL_triangles_219 (lv_at hl 8 rfl) ?_
  refine lv_iload hx hb dL_triangles_221 (lv_at hl 7 rfl) ?_
  refine lv_icmp_ge (tgt := 263) hx hb dL_triangles_223 (by decide) (fun c1 => ?_) (fun c1 => ?_)
  · replace hf := brT c1 hf
    refine lv_iinc (v := (x12 + (1 : Int32))) (lv' := [(12, .int (x12 + (1 : Int32))), (0, .ref (a_p0.1 0)), (2, .int x2), (3, .long x3), (5, .int x5), (6, .int x6), (10, .int x10), (11, .int x11), (13, .int x13)]) hx hb dL_triangles_263 hl (k := 7) rfl rfl (by decide) rfl (fun ls hl => ?_)
    refine lv_goto (tgt := 210) hx hb dL_triangles_266 (by decide) ?_
    exact (hk210) s_p0 x2 x3 x5 x6 x10 x11 (x12 + (1 : Int32)) hf _ _ hP hD hS _ (lv_sub hl [1, 2, 3, 4, 5, 6, 7, 0] rfl)
  · replace hf := brF c1 hf
    refine lv_iconst (v := (0 : Int32)) hx hb dL_triangles_226 (by decide) ?_
    refine lv_istore (lv' := [(14, .int (0 : Int32)), (0, .ref (a_p0.1 0)), (2, .int x2), (3, .long x3), (5, .int x5), (6, .int x6), (10, .int x10), (11, .int x11), (12, .int x12), (13, .int x13)]) hx hb dL_triangles_227 hl (by decide) rfl (fun ls hl => ?_)
    exact (t_L_triangles_229 hC hk219 fuel) s_p0 x2 x3 x5 x6 x10 x11 x12 x13 (0 : Int32) hf _ _ hP hD hS _ (lv_sub hl [1, 2, 3, 4, 5, 6, 7, 8, 9, 0] rfl)
theorem t_L_triangles_219 {p : Program} {l : Launch} {e : Env} {s : State} {m : MethodId} {args : Array Value} {below : List Frame} {meth : Method} {c : Code} {A : Nat → Prop} {D : va_G} {cI cJ cZ cQ : ClassId} {a_p0 : AB} {res : R_L_triangles} {k210 : ST → Int32 → Int64 → Int32 → Int32 → Int32 → Int32 → Int32 → Option R_L_triangles} (hC : mcx RL cL_triangles (some .boolean) 15 wsL_triangles p s m args meth c A D (tys4 cI cJ cZ cQ)) (hk210 : S_L_triangles_210 p l e s m args below meth c A D cI cJ cZ cQ a_p0 res k210) (n : Nat) : S_L_triangles_219 p l e s m args below meth c A D cI cJ cZ cQ a_p0 res (f_L_triangles_219 k210 n) := by
  induction n with
  | zero =>
    intro s_p0 x2 x3 x5 x6 x10 x11 x12 x13 hf
    exact nomatch (show (none : Option R_L_triangles) = some res from hf)
  | succ n ih => exact i_L_triangles_219 hC hk210 ih
set_option maxHeartbeats 4000000 in
set_option maxRecDepth 100000 in
theorem i_L_triangles_210 {p : Program} {l : Launch} {e : Env} {s : State} {m : MethodId} {args : Array Value} {below : List Frame} {meth : Method} {c : Code} {A : Nat → Prop} {D : va_G} {cI cJ cZ cQ : ClassId} {a_p0 : AB} {res : R_L_triangles}  {k210 : ST → Int32 → Int64 → Int32 → Int32 → Int32 → Int32 → Int32 → Option R_L_triangles} (hC : mcx RL cL_triangles (some .boolean) 15 wsL_triangles p s m args meth c A D (tys4 cI cJ cZ cQ))  (hk210 : S_L_triangles_210 p l e s m args below meth c A D cI cJ cZ cQ a_p0 res k210) : S_L_triangles_210 p l e s m args below meth c A D cI cJ cZ cQ a_p0 res (g_L_triangles_210  k210) := by
  intro s_p0 x2 x3 x5 x6 x10 x11 x12 hf H locs hP hD hS ls hl
  obtain ⟨hx, hb, hr, hml, hown, hts, hlocks, hA, hK, hN⟩ := id hC
  unfold g_L_triangles_210 at hf
  refine lv_iload hx hb dL_triangles_210 (lv_at hl 7 rfl) ?_
  refine lv_iload_n hx hb dL_triangles_212 rfl (lv_at hl 1 rfl) ?_
  refine lv_icmp_ge (tgt := 269) hx hb dL_triangles_213 (by decide) (fun c1 => ?_) (fun c1 => ?_)
  · replace hf := brT c1 hf
    refine lv_iload hx hb dL_triangles_269 (lv_at hl 4 rfl) ?_
    refine lv_if_eq (tgt := 329) hx hb dL_triangles_271 (by decide) (fun c2 => ?_) (fun c2 => ?_)
    · replace hf := brT c2 hf
      refine lv_iconst (v := (0 : Int32)) hx hb dL_triangles_329 (by decide) ?_
      refine lv_istore (lv' := [(6, .int (0 : Int32)), (0, .ref (a_p0.1 0)), (2, .int x2), (3, .long x3), (5, .int x5), (10, .int x10), (11, .int x11), (12, .int x12)]) hx hb dL_triangles_330 hl (by decide) rfl (fun ls hl => ?_)
      refine lv_iload hx hb dL_triangles_332 (lv_at hl 0 rfl) ?_
      obtain rfl := Option.some.inj hf
      exact endI (ty := .boolean) hC rfl rfl hP hD hS dL_triangles_334
    · replace hf := brF c2 hf
      refine lv_iload hx hb dL_triangles_274 (lv_at hl 6 rfl) ?_
      refine lv_iload hx hb dL_triangles_276 (lv_at hl 3 rfl) ?_
      refine lv_iload hx hb dL_triangles_278 (lv_at hl 5 rfl) ?_
      refine lv_isub hx hb dL_triangles_280 ?_
      refine lv_icmp_ne (tgt := 329) hx hb dL_triangles_281 (by decide) (fun c3 => ?_) (fun c3 => ?_)
      · replace hf := brF c3 hf
        refine lv_iconst (v := (0 : Int32)) hx hb dL_triangles_329 (by decide) ?_
        refine lv_istore (lv' := [(6, .int (0 : Int32)), (0, .ref (a_p0.1 0)), (2, .int x2), (3, .long x3), (5, .int x5), (10, .int x10), (11, .int x11), (12, .int x12)]) hx hb dL_triangles_330 hl (by decide) rfl (fun ls hl => ?_)
        refine lv_iload hx hb dL_triangles_332 (lv_at hl 0 rfl) ?_
        obtain rfl := Option.some.inj hf
        exact endI (ty := .boolean) hC rfl rfl hP hD hS dL_triangles_334
      · replace hf := brT c3 hf
        refine lv_aload_n hx hb dL_triangles_284 rfl (lv_at hl 0 rfl) ?_
        refine lv_iload_n hx hb dL_triangles_285 rfl (lv_at hl 1 rfl) ?_
        obtain ⟨r4, s5, hq6, hf⟩ := bnd2_of hf
        refine callX (As := [.int x2]) (rest := []) (ci := 5) (q0 := 0) (wr := ([])) (WB := (wB cI cJ cZ cQ a_p0 s5)) hx hb hml hown hts hK hN (b_X5_remove l D cI cJ cZ cQ a_p0 s_p0 x2 hq6) (cwV 1 hts gL_triangles_X5_remove rfl rfl rfl e_X5_remove ⟨Nat.le_of_ble_eq_true rfl, Nat.le_of_ble_eq_true rfl⟩) hP hD hS hA pmN pmN.symm rfl rfl rfl rfl hl (Nat.le_of_ble_eq_true rfl) dL_triangles_286 ⟨Nat.zero_le _, Nat.zero_le _⟩ rfl (fun H locs hP hD hS => ?_)
        refine lv_iload_n hx hb dL_triangles_289 rfl (lv_at hl 1 rfl) ?_
        refine lv_icmp_ne (tgt := 329) hx hb dL_triangles_290 (by decide) (fun c7 => ?_) (fun c7 => ?_)
        · replace hf := brF c7 hf
          refine lv_iconst (v := (0 : Int32)) hx hb dL_triangles_329 (by decide) ?_
          refine lv_istore (lv' := [(6, .int (0 : Int32)), (0, .ref (a_p0.1 0)), (2, .int x2), (3, .long x3), (5, .int x5), (10, .int x10), (11, .int x11), (12, .int x12)]) hx hb dL_triangles_330 hl (by decide) rfl (fun ls hl => ?_)
          refine lv_iload hx hb dL_triangles_332 (lv_at hl 0 rfl) ?_
          obtain rfl := Option.some.inj hf
          exact endI (ty := .boolean) hC rfl rfl hP hD hS dL_triangles_334
        · replace hf := brT c7 hf
          refine lv_aload_n hx hb dL_triangles_293 rfl (lv_at hl 0 rfl) ?_
          obtain ⟨r8, s9, hq10, hf⟩ := bnd2_of hf
          refine callSL (As := [.ref (a_p0.1 0)]) (rest := []) (wr := ([])) (WB := (wB cI cJ cZ cQ a_p0 s9)) hx hb hml hown hts hK hN (c_L_state l D cI cJ cZ cQ a_p0 s5  hq10) (va_cwS 1 hts gL_triangles_L_state rfl rfl rfl e_L_state ⟨Nat.le_of_ble_eq_true rfl, Nat.le_of_ble_eq_true rfl⟩) hP hD hS hA pmN pmN.symm rfl hl (Nat.le_of_ble_eq_true rfl) dL_triangles_294 ⟨Nat.zero_le _, Nat.zero_le _⟩ rfl (fun H locs hP hD hS => ?_)
          refine lv_lload_n hx hb dL_triangles_297 rfl (lv_at hl 2 rfl) ?_
          refine W.lcmp hx hb dL_triangles_298 ?_
          refine lv_if_ne (tgt := 329) hx hb dL_triangles_299 (by decide) (fun c11 => ?_) (fun c11 => ?_)
          · replace hf := brF c11 hf
            refine lv_iconst (v := (0 : Int32)) hx hb dL_triangles_329 (by decide) ?_
            refine lv_istore (lv' := [(6, .int (0 : Int32)), (0, .ref (a_p0.1 0)), (2, .int x2), (3, .long x3), (5, .int x5), (10, .int x10), (11, .int x11), (12, .int x12)]) hx hb dL_triangles_330 hl (by decide) rfl (fun ls hl => ?_)
            refine lv_iload hx hb dL_triangles_332 (lv_at hl 0 rfl) ?_
            obtain rfl := Option.some.inj hf
            exact endI (ty := .boolean) hC rfl rfl hP hD hS dL_triangles_334
          · replace hf := brT c11 hf
            refine lv_aload_n hx hb dL_triangles_302 rfl (lv_at hl 0 rfl) ?_
            obtain ⟨r12, s13, hq14, hf⟩ := bnd2_of hf
            refine callX (As := []) (rest := []) (ci := 5) (q0 := 0) (wr := ([])) (WB := (wB cI cJ cZ cQ a_p0 s13)) hx hb hml hown hts hK hN (b_X5_undo l D cI cJ cZ cQ a_p0 s9  hq14) (cwV 0 hts gL_triangles_X5_undo rfl rfl rfl e_X5_undo ⟨Nat.le_of_ble_eq_true rfl, Nat.le_of_ble_eq_true rfl⟩) hP hD hS hA pmN pmN.symm rfl rfl rfl rfl hl (Nat.le_of_ble_eq_true rfl) dL_triangles_303 ⟨Nat.zero_le _, Nat.zero_le _⟩ rfl (fun H locs hP hD hS => ?_)
            refine lv_if_lt (tgt := 329) hx hb dL_triangles_306 (by decide) (fun c15 => ?_) (fun c15 => ?_)
            · replace hf := brT c15 hf
              refine lv_iconst (v := (0 : Int32)) hx hb dL_triangles_329 (by decide) ?_
              refine lv_istore (lv' := [(6, .int (0 : Int32)), (0, .ref (a_p0.1 0)), (2, .int x2), (3, .long x3), (5, .int x5), (10, .int x10), (11, .int x11), (12, .int x12)]) hx hb dL_triangles_330 hl (by decide) rfl (fun ls hl => ?_)
              refine lv_iload hx hb dL_triangles_332 (lv_at hl 0 rfl) ?_
              obtain rfl := Option.some.inj hf
              exact endI (ty := .boolean) hC rfl rfl hP hD hS dL_triangles_334
            · replace hf := brF c15 hf
              refine lv_aload_n hx hb dL_triangles_309 rfl (lv_at hl 0 rfl) ?_
              obtain ⟨r16, s17, hq18, hf⟩ := bnd2_of hf
              refine callX (As := []) (rest := []) (ci := 5) (q0 := 0) (wr := ([])) (WB := (wB cI cJ cZ cQ a_p0 s17)) hx hb hml hown hts hK hN (b_X5_undo l D cI cJ cZ cQ a_p0 s13  hq18) (cwV 0 hts gL_triangles_X5_undo rfl rfl rfl e_X5_undo ⟨Nat.le_of_ble_eq_true rfl, Nat.le_of_ble_eq_true rfl⟩) hP hD hS hA pmN pmN.symm rfl rfl rfl rfl hl (Nat.le_of_ble_eq_true rfl) dL_triangles_310 ⟨Nat.zero_le _, Nat.zero_le _⟩ rfl (fun H locs hP hD hS => ?_)
              refine lv_if_lt (tgt := 329) hx hb dL_triangles_313 (by decide) (fun c19 => ?_) (fun c19 => ?_)
              · replace hf := brT c19 hf
                refine lv_iconst (v := (0 : Int32)) hx hb dL_triangles_329 (by decide) ?_
                refine lv_istore (lv' := [(6, .int (0 : Int32)), (0, .ref (a_p0.1 0)), (2, .int x2), (3, .long x3), (5, .int x5), (10, .int x10), (11, .int x11), (12, .int x12)]) hx hb dL_triangles_330 hl (by decide) rfl (fun ls hl => ?_)
                refine lv_iload hx hb dL_triangles_332 (lv_at hl 0 rfl) ?_
                obtain rfl := Option.some.inj hf
                exact endI (ty := .boolean) hC rfl rfl hP hD hS dL_triangles_334
              · replace hf := brF c19 hf
                refine lv_aload_n hx hb dL_triangles_316 rfl (lv_at hl 0 rfl) ?_
                obtain ⟨r20, s21, hq22, hf⟩ := bnd2_of hf
                refine callSL (As := [.ref (a_p0.1 0)]) (rest := []) (wr := ([])) (WB := (wB cI cJ cZ cQ a_p0 s21)) hx hb hml hown hts hK hN (c_L_state l D cI cJ cZ cQ a_p0 s17  hq22) (va_cwS 1 hts gL_triangles_L_state rfl rfl rfl e_L_state ⟨Nat.le_of_ble_eq_true rfl, Nat.le_of_ble_eq_true rfl⟩) hP hD hS hA pmN pmN.symm rfl hl (Nat.le_of_ble_eq_true rfl) dL_triangles_317 ⟨Nat.zero_le _, Nat.zero_le _⟩ rfl (fun H locs hP hD hS => ?_)
                refine lv_lload_n hx hb dL_triangles_320 rfl (lv_at hl 2 rfl) ?_
                refine W.lcmp hx hb dL_triangles_321 ?_
                refine lv_if_ne (tgt := 329) hx hb dL_triangles_322 (by decide) (fun c23 => ?_) (fun c23 => ?_)
                · replace hf := brF c23 hf
                  refine lv_iconst (v := (0 : Int32)) hx hb dL_triangles_329 (by decide) ?_
                  refine lv_istore (lv' := [(6, .int (0 : Int32)), (0, .ref (a_p0.1 0)), (2, .int x2), (3, .long x3), (5, .int x5), (10, .int x10), (11, .int x11), (12, .int x12)]) hx hb dL_triangles_330 hl (by decide) rfl (fun ls hl => ?_)
                  refine lv_iload hx hb dL_triangles_332 (lv_at hl 0 rfl) ?_
                  obtain rfl := Option.some.inj hf
                  exact endI (ty := .boolean) hC rfl rfl hP hD hS dL_triangles_334
                · replace hf := brT c23 hf
                  refine lv_iconst (v := (1 : Int32)) hx hb dL_triangles_325 (by decide) ?_
                  refine lv_goto (tgt := 330) hx hb dL_triangles_326 (by decide) ?_
                  refine lv_istore (lv' := [(6, .int (1 : Int32)), (0, .ref (a_p0.1 0)), (2, .int x2), (3, .long x3), (5, .int x5), (10, .int x10), (11, .int x11), (12, .int x12)]) hx hb dL_triangles_330 hl (by decide) rfl (fun ls hl => ?_)
                  refine lv_iload hx hb dL_triangles_332 (lv_at hl 0 rfl) ?_
                  obtain rfl := Option.some.inj hf
                  exact endI (ty := .boolean) hC rfl rfl hP hD hS dL_triangles_334
  · replace hf := brF c1 hf
    refine lv_iconst (v := (0 : Int32)) hx hb dL_triangles_216 (by decide) ?_
    refine lv_istore (lv' := [(13, .int (0 : Int32)), (0, .ref (a_p0.1 0)), (2, .int x2), (3, .long x3), (5, .int x5), (6, .int x6), (10, .int x10), (11, .int x11), (12, .int x12)]) hx hb dL_triangles_217 hl (by decide) rfl (fun ls hl => ?_)
    exact (t_L_triangles_219 hC hk210 fuel) s_p0 x2 x3 x5 x6 x10 x11 x12 (0 : Int32) hf _ _ hP hD hS _ (lv_sub hl [1, 2, 3, 4, 5, 6, 7, 8, 0] rfl)
theorem t_L_triangles_210 {p : Program} {l : Launch} {e : Env} {s : State} {m : MethodId} {args : Array Value} {below : List Frame} {meth : Method} {c : Code} {A : Nat → Prop} {D : va_G} {cI cJ cZ cQ : ClassId} {a_p0 : AB} {res : R_L_triangles}  (hC : mcx RL cL_triangles (some .boolean) 15 wsL_triangles p s m args meth c A D (tys4 cI cJ cZ cQ))  (n : Nat) : S_L_triangles_210 p l e s m args below meth c A D cI cJ cZ cQ a_p0 res (f_L_triangles_210  n) := by
  induction n with
  | zero =>
    intro s_p0 x2 x3 x5 x6 x10 x11 x12 hf
    exact nomatch (show (none : Option R_L_triangles) = some res from hf)
  | succ n ih => exact i_L_triangles_210 hC  ih
set_option maxHeartbeats 4000000 in
set_option maxRecDepth 100000 in
theorem t_L_triangles_121 {p : Program} {l : Launch} {e : Env} {s : State} {m : MethodId} {args : Array Value} {below : List Frame} {meth : Method} {c : Code} {A : Nat → Prop} {D : va_G} {cI cJ cZ cQ : ClassId} {a_p0 : AB} {res : R_L_triangles}  (hC : mcx RL cL_triangles (some .boolean) 15 wsL_triangles p s m args meth c A D (tys4 cI cJ cZ cQ))  : S_L_triangles_121 p l e s m args below meth c A D cI cJ cZ cQ a_p0 res (f_L_triangles_121 ) := by
  intro s_p0 x1 x2 x3 x5 y0 hf H locs hP hD hS ls hl
  obtain ⟨hx, hb, hr, hml, hown, hts, hlocks, hA, hK, hN⟩ := id hC
  unfold f_L_triangles_121 at hf
  refine lv_istore (lv' := [(6, .int y0), (0, .ref (a_p0.1 0)), (1, .int x1), (2, .int x2), (3, .long x3), (5, .int x5)]) hx hb dL_triangles_121 hl (by decide) rfl (fun ls hl => ?_)
  refine lv_iload hx hb dL_triangles_123 (lv_at hl 0 rfl) ?_
  refine lv_if_eq (tgt := 332) hx hb dL_triangles_125 (by decide) (fun c1 => ?_) (fun c1 => ?_)
  · replace hf := brT c1 hf
    refine lv_iload hx hb dL_triangles_332 (lv_at hl 0 rfl) ?_
    obtain ⟨hn, hf⟩ := gZ_of hf
    obtain rfl := Option.some.inj hf
    exact endI (ty := .boolean) hC hn rfl hP hD hS dL_triangles_334
  · replace hf := brF c1 hf
    refine lv_iload_n hx hb dL_triangles_128 rfl (lv_at hl 3 rfl) ?_
    refine lv_bipush (v := (10 : Int32)) hx hb dL_triangles_129 (by decide) ?_
    refine lv_icmp_ge (tgt := 332) hx hb dL_triangles_131 (by decide) (fun c2 => ?_) (fun c2 => ?_)
    · replace hf := brT c2 hf
      refine lv_iload hx hb dL_triangles_332 (lv_at hl 0 rfl) ?_
      obtain ⟨hn, hf⟩ := gZ_of hf
      obtain rfl := Option.some.inj hf
      exact endI (ty := .boolean) hC hn rfl hP hD hS dL_triangles_334
    · replace hf := brF c2 hf
      refine lv_iload_n hx hb dL_triangles_134 rfl (lv_at hl 2 rfl) ?_
      refine lv_bipush (v := (21 : Int32)) hx hb dL_triangles_135 (by decide) ?_
      refine lv_irem hx hb dL_triangles_137 (by decide) ?_
      refine lv_topi (fun v3 ev3 => ?_)
      replace hf := nm_of ev3 hf
      refine lv_istore (lv' := [(7, .int v3), (6, .int y0), (0, .ref (a_p0.1 0)), (1, .int x1), (2, .int x2), (3, .long x3), (5, .int x5)]) hx hb dL_triangles_138 hl (by decide) rfl (fun ls hl => ?_)
      refine lv_iload_n hx hb dL_triangles_140 rfl (lv_at hl 3 rfl) ?_
      refine lv_bipush (v := (21 : Int32)) hx hb dL_triangles_141 (by decide) ?_
      refine lv_idiv hx hb dL_triangles_143 (by decide) ?_
      refine lv_bipush (v := (21 : Int32)) hx hb dL_triangles_144 (by decide) ?_
      refine lv_irem hx hb dL_triangles_146 (by decide) ?_
      refine lv_topi (fun v4 ev4 => ?_)
      replace hf := nm_of ev4 hf
      refine lv_istore (lv' := [(8, .int v4), (7, .int v3), (6, .int y0), (0, .ref (a_p0.1 0)), (1, .int x1), (2, .int x2), (3, .long x3), (5, .int x5)]) hx hb dL_triangles_147 hl (by decide) rfl (fun ls hl => ?_)
      refine lv_iload_n hx hb dL_triangles_149 rfl (lv_at hl 4 rfl) ?_
      refine lv_sipush (v := (441 : Int32)) hx hb dL_triangles_150 (by decide) ?_
      refine lv_idiv hx hb dL_triangles_153 (by decide) ?_
      refine lv_bipush (v := (60 : Int32)) hx hb dL_triangles_154 (by decide) ?_
      refine lv_irem hx hb dL_triangles_156 (by decide) ?_
      refine lv_topi (fun v5 ev5 => ?_)
      replace hf := nm_of ev5 hf
      refine lv_istore (lv' := [(9, .int v5), (8, .int v4), (7, .int v3), (6, .int y0), (0, .ref (a_p0.1 0)), (1, .int x1), (2, .int x2), (3, .long x3), (5, .int x5)]) hx hb dL_triangles_157 hl (by decide) rfl (fun ls hl => ?_)
      refine lv_aload_n hx hb dL_triangles_159 rfl (lv_at hl 4 rfl) ?_
      refine lv_iload hx hb dL_triangles_160 (lv_at hl 2 rfl) ?_
      refine lv_iload hx hb dL_triangles_162 (lv_at hl 1 rfl) ?_
      refine lv_iload hx hb dL_triangles_164 (lv_at hl 0 rfl) ?_
      obtain ⟨r6, s7, hq8, hf⟩ := bnd2_of hf
      refine callX (As := [.int v3, .int v4, .int v5]) (rest := []) (ci := 5) (q0 := 0) (wr := ([])) (WB := (wB cI cJ cZ cQ a_p0 s7)) hx hb hml hown hts hK hN (b_X5_conflicts l D cI cJ cZ cQ a_p0 s_p0 v3 v4 v5 hq8) (cwV 3 hts gL_triangles_X5_conflicts rfl rfl rfl e_X5_conflicts ⟨Nat.le_of_ble_eq_true rfl, Nat.le_of_ble_eq_true rfl⟩) hP hD hS hA pmN pmN.symm rfl rfl rfl rfl hl (Nat.le_of_ble_eq_true rfl) dL_triangles_166 ⟨Nat.zero_le _, Nat.zero_le _⟩ rfl (fun H locs hP hD hS => ?_)
      refine lv_istore (lv' := [(10, .int r6), (9, .int v5), (8, .int v4), (7, .int v3), (6, .int y0), (0, .ref (a_p0.1 0)), (1, .int x1), (2, .int x2), (3, .long x3), (5, .int x5)]) hx hb dL_triangles_169 hl (by decide) rfl (fun ls hl => ?_)
      refine lv_iload hx hb dL_triangles_171 (lv_at hl 0 rfl) ?_
      refine lv_if_lt (tgt := 201) hx hb dL_triangles_173 (by decide) (fun c9 => ?_) (fun c9 => ?_)
      · replace hf := brT c9 hf
        refine lv_iconst (v := (0 : Int32)) hx hb dL_triangles_201 (by decide) ?_
        refine lv_istore (lv' := [(6, .int (0 : Int32)), (10, .int r6), (9, .int v5), (8, .int v4), (7, .int v3), (0, .ref (a_p0.1 0)), (1, .int x1), (2, .int x2), (3, .long x3), (5, .int x5)]) hx hb dL_triangles_202 hl (by decide) rfl (fun ls hl => ?_)
        refine lv_iconst (v := (0 : Int32)) hx hb dL_triangles_204 (by decide) ?_
        refine lv_istore (lv' := [(11, .int (0 : Int32)), (6, .int (0 : Int32)), (10, .int r6), (9, .int v5), (8, .int v4), (7, .int v3), (0, .ref (a_p0.1 0)), (1, .int x1), (2, .int x2), (3, .long x3), (5, .int x5)]) hx hb dL_triangles_205 hl (by decide) rfl (fun ls hl => ?_)
        refine lv_iconst (v := (0 : Int32)) hx hb dL_triangles_207 (by decide) ?_
        refine lv_istore (lv' := [(12, .int (0 : Int32)), (11, .int (0 : Int32)), (6, .int (0 : Int32)), (10, .int r6), (9, .int v5), (8, .int v4), (7, .int v3), (0, .ref (a_p0.1 0)), (1, .int x1), (2, .int x2), (3, .long x3), (5, .int x5)]) hx hb dL_triangles_208 hl (by decide) rfl (fun ls hl => ?_)
        exact (t_L_triangles_210 hC  fuel) s7 x2 x3 x5 (0 : Int32) r6 (0 : Int32) (0 : Int32) hf _ _ hP hD hS _ (lv_sub hl [7, 9, 10, 11, 2, 3, 1, 0] rfl)
      · replace hf := brF c9 hf
        refine lv_iload hx hb dL_triangles_176 (lv_at hl 0 rfl) ?_
        refine lv_iload hx hb dL_triangles_178 (lv_at hl 9 rfl) ?_
        refine lv_icmp_gt (tgt := 201) hx hb dL_triangles_180 (by decide) (fun c10 => ?_) (fun c10 => ?_)
        · replace hf := brT c10 hf
          refine lv_iconst (v := (0 : Int32)) hx hb dL_triangles_201 (by decide) ?_
          refine lv_istore (lv' := [(6, .int (0 : Int32)), (10, .int r6), (9, .int v5), (8, .int v4), (7, .int v3), (0, .ref (a_p0.1 0)), (1, .int x1), (2, .int x2), (3, .long x3), (5, .int x5)]) hx hb dL_triangles_202 hl (by decide) rfl (fun ls hl => ?_)
          refine lv_iconst (v := (0 : Int32)) hx hb dL_triangles_204 (by decide) ?_
          refine lv_istore (lv' := [(11, .int (0 : Int32)), (6, .int (0 : Int32)), (10, .int r6), (9, .int v5), (8, .int v4), (7, .int v3), (0, .ref (a_p0.1 0)), (1, .int x1), (2, .int x2), (3, .long x3), (5, .int x5)]) hx hb dL_triangles_205 hl (by decide) rfl (fun ls hl => ?_)
          refine lv_iconst (v := (0 : Int32)) hx hb dL_triangles_207 (by decide) ?_
          refine lv_istore (lv' := [(12, .int (0 : Int32)), (11, .int (0 : Int32)), (6, .int (0 : Int32)), (10, .int r6), (9, .int v5), (8, .int v4), (7, .int v3), (0, .ref (a_p0.1 0)), (1, .int x1), (2, .int x2), (3, .long x3), (5, .int x5)]) hx hb dL_triangles_208 hl (by decide) rfl (fun ls hl => ?_)
          exact (t_L_triangles_210 hC  fuel) s7 x2 x3 x5 (0 : Int32) r6 (0 : Int32) (0 : Int32) hf _ _ hP hD hS _ (lv_sub hl [7, 9, 10, 11, 2, 3, 1, 0] rfl)
        · replace hf := brF c10 hf
          refine lv_aload_n hx hb dL_triangles_183 rfl (lv_at hl 5 rfl) ?_
          refine lv_iload hx hb dL_triangles_184 (lv_at hl 3 rfl) ?_
          refine lv_iload hx hb dL_triangles_186 (lv_at hl 2 rfl) ?_
          refine lv_iload hx hb dL_triangles_188 (lv_at hl 1 rfl) ?_
          obtain ⟨r11, s12, hq13, hf⟩ := bnd2_of hf
          refine callX (As := [.int v3, .int v4, .int v5]) (rest := []) (ci := 5) (q0 := 0) (wr := ([])) (WB := (wB cI cJ cZ cQ a_p0 s12)) hx hb hml hown hts hK hN (b_X5_add l D cI cJ cZ cQ a_p0 s7 v3 v4 v5 hq13) (cwV 3 hts gL_triangles_X5_add rfl rfl rfl e_X5_add ⟨Nat.le_of_ble_eq_true rfl, Nat.le_of_ble_eq_true rfl⟩) hP hD hS hA pmN pmN.symm rfl rfl rfl rfl hl (Nat.le_of_ble_eq_true rfl) dL_triangles_190 ⟨Nat.zero_le _, Nat.zero_le _⟩ rfl (fun H locs hP hD hS => ?_)
          refine lv_iload_n hx hb dL_triangles_193 rfl (lv_at hl 7 rfl) ?_
          refine lv_icmp_ne (tgt := 201) hx hb dL_triangles_194 (by decide) (fun c14 => ?_) (fun c14 => ?_)
          · replace hf := brF c14 hf
            refine lv_iconst (v := (0 : Int32)) hx hb dL_triangles_201 (by decide) ?_
            refine lv_istore (lv' := [(6, .int (0 : Int32)), (10, .int r6), (9, .int v5), (8, .int v4), (7, .int v3), (0, .ref (a_p0.1 0)), (1, .int x1), (2, .int x2), (3, .long x3), (5, .int x5)]) hx hb dL_triangles_202 hl (by decide) rfl (fun ls hl => ?_)
            refine lv_iconst (v := (0 : Int32)) hx hb dL_triangles_204 (by decide) ?_
            refine lv_istore (lv' := [(11, .int (0 : Int32)), (6, .int (0 : Int32)), (10, .int r6), (9, .int v5), (8, .int v4), (7, .int v3), (0, .ref (a_p0.1 0)), (1, .int x1), (2, .int x2), (3, .long x3), (5, .int x5)]) hx hb dL_triangles_205 hl (by decide) rfl (fun ls hl => ?_)
            refine lv_iconst (v := (0 : Int32)) hx hb dL_triangles_207 (by decide) ?_
            refine lv_istore (lv' := [(12, .int (0 : Int32)), (11, .int (0 : Int32)), (6, .int (0 : Int32)), (10, .int r6), (9, .int v5), (8, .int v4), (7, .int v3), (0, .ref (a_p0.1 0)), (1, .int x1), (2, .int x2), (3, .long x3), (5, .int x5)]) hx hb dL_triangles_208 hl (by decide) rfl (fun ls hl => ?_)
            exact (t_L_triangles_210 hC  fuel) s12 x2 x3 x5 (0 : Int32) r6 (0 : Int32) (0 : Int32) hf _ _ hP hD hS _ (lv_sub hl [7, 9, 10, 11, 2, 3, 1, 0] rfl)
          · replace hf := brT c14 hf
            refine lv_iconst (v := (1 : Int32)) hx hb dL_triangles_197 (by decide) ?_
            refine lv_goto (tgt := 202) hx hb dL_triangles_198 (by decide) ?_
            refine lv_istore (lv' := [(6, .int (1 : Int32)), (10, .int r6), (9, .int v5), (8, .int v4), (7, .int v3), (0, .ref (a_p0.1 0)), (1, .int x1), (2, .int x2), (3, .long x3), (5, .int x5)]) hx hb dL_triangles_202 hl (by decide) rfl (fun ls hl => ?_)
            refine lv_iconst (v := (0 : Int32)) hx hb dL_triangles_204 (by decide) ?_
            refine lv_istore (lv' := [(11, .int (0 : Int32)), (6, .int (1 : Int32)), (10, .int r6), (9, .int v5), (8, .int v4), (7, .int v3), (0, .ref (a_p0.1 0)), (1, .int x1), (2, .int x2), (3, .long x3), (5, .int x5)]) hx hb dL_triangles_205 hl (by decide) rfl (fun ls hl => ?_)
            refine lv_iconst (v := (0 : Int32)) hx hb dL_triangles_207 (by decide) ?_
            refine lv_istore (lv' := [(12, .int (0 : Int32)), (11, .int (0 : Int32)), (6, .int (1 : Int32)), (10, .int r6), (9, .int v5), (8, .int v4), (7, .int v3), (0, .ref (a_p0.1 0)), (1, .int x1), (2, .int x2), (3, .long x3), (5, .int x5)]) hx hb dL_triangles_208 hl (by decide) rfl (fun ls hl => ?_)
            exact (t_L_triangles_210 hC  fuel) s12 x2 x3 x5 (1 : Int32) r6 (0 : Int32) (0 : Int32) hf _ _ hP hD hS _ (lv_sub hl [7, 9, 10, 11, 2, 3, 1, 0] rfl)
set_option maxHeartbeats 4000000 in
set_option maxRecDepth 100000 in
theorem i_L_triangles_35 {p : Program} {l : Launch} {e : Env} {s : State} {m : MethodId} {args : Array Value} {below : List Frame} {meth : Method} {c : Code} {A : Nat → Prop} {D : va_G} {cI cJ cZ cQ : ClassId} {a_p0 : AB} {res : R_L_triangles} {k25 : ST → Int32 → Int32 → Int64 → Int32 → Int32 → Int32 → Option R_L_triangles} {k35 : ST → Int32 → Int32 → Int64 → Int32 → Int32 → Int32 → Int32 → Option R_L_triangles} (hC : mcx RL cL_triangles (some .boolean) 15 wsL_triangles p s m args meth c A D (tys4 cI cJ cZ cQ)) (hk25 : S_L_triangles_25 p l e s m args below meth c A D cI cJ cZ cQ a_p0 res k25) (hk35 : S_L_triangles_35 p l e s m args below meth c A D cI cJ cZ cQ a_p0 res k35) : S_L_triangles_35 p l e s m args below meth c A D cI cJ cZ cQ a_p0 res (g_L_triangles_35 k25 k35) := by
  intro s_p0 x1 x2 x3 x5 x6 x7 x8 hf H locs hP hD hS ls hl
  obtain ⟨hx, hb, hr, hml, hown, hts, hlocks, hA, hK, hN⟩ := id hC
  unfold g_L_triangles_35 at hf
  refine lv_iload hx hb dL_triangles_35 (lv_at hl 7 rfl) ?_
  refine lv_iload hx hb dL_triangles_37 (lv_at hl 6 rfl) ?_
  refine lv_icmp_ge (tgt := 63) hx hb dL_triangles_39 (by decide) (fun c1 => ?_) (fun c1 => ?_)
  · replace hf := brT c1 hf
    refine lv_iinc (v := (x7 + (1 : Int32))) (lv' := [(7, .int (x7 + (1 : Int32))), (0, .ref (a_p0.1 0)), (1, .int x1), (2, .int x2), (3, .long x3), (5, .int x5), (6, .int x6), (8, .int x8)]) hx hb dL_triangles_63 hl (k := 6) rfl rfl (by decide) rfl (fun ls hl => ?_)
    refine lv_goto (tgt := 25) hx hb dL_triangles_66 (by decide) ?_
    exact (hk25) s_p0 x1 x2 x3 x5 x6 (x7 + (1 : Int32)) hf _ _ hP hD hS _ (lv_sub hl [1, 2, 3, 4, 5, 6, 0] rfl)
  · replace hf := brF c1 hf
    refine lv_iload hx hb dL_triangles_42 (lv_at hl 4 rfl) ?_
    refine lv_aload_n hx hb dL_triangles_44 rfl (lv_at hl 0 rfl) ?_
    refine lv_iload hx hb dL_triangles_45 (lv_at hl 5 rfl) ?_
    refine lv_iload hx hb dL_triangles_47 (lv_at hl 6 rfl) ?_
    refine lv_iload hx hb dL_triangles_49 (lv_at hl 7 rfl) ?_
    obtain ⟨r2, s3, hq4, hf⟩ := bnd2_of hf
    refine callX (As := [.int x6, .int x7, .int x8]) (rest := [.int x5]) (ci := 5) (q0 := 0) (wr := ([])) (WB := (wB cI cJ cZ cQ a_p0 s3)) hx hb hml hown hts hK hN (b_X5_isTriangle l D cI cJ cZ cQ a_p0 s_p0 x6 x7 x8 hq4) (cwV 3 hts gL_triangles_X5_isTriangle rfl rfl rfl e_X5_isTriangle ⟨Nat.le_of_ble_eq_true rfl, Nat.le_of_ble_eq_true rfl⟩) hP hD hS hA pmN pmN.symm rfl rfl rfl rfl hl (Nat.le_of_ble_eq_true rfl) dL_triangles_51 ⟨Nat.zero_le _, Nat.zero_le _⟩ rfl (fun H locs hP hD hS => ?_)
    refine lv_iadd hx hb dL_triangles_54 ?_
    refine lv_topi (fun v5 ev5 => ?_)
    replace hf := nm_of ev5 hf
    refine lv_istore (lv' := [(5, .int v5), (0, .ref (a_p0.1 0)), (1, .int x1), (2, .int x2), (3, .long x3), (6, .int x6), (7, .int x7), (8, .int x8)]) hx hb dL_triangles_55 hl (by decide) rfl (fun ls hl => ?_)
    refine lv_iinc (v := (x8 + (1 : Int32))) (lv' := [(8, .int (x8 + (1 : Int32))), (5, .int v5), (0, .ref (a_p0.1 0)), (1, .int x1), (2, .int x2), (3, .long x3), (6, .int x6), (7, .int x7)]) hx hb dL_triangles_57 hl (k := 7) rfl rfl (by decide) rfl (fun ls hl => ?_)
    refine lv_goto (tgt := 35) hx hb dL_triangles_60 (by decide) ?_
    exact (hk35) s3 x1 x2 x3 v5 x6 x7 (x8 + (1 : Int32)) hf _ _ hP hD hS _ (lv_sub hl [2, 3, 4, 5, 1, 6, 7, 0] rfl)
theorem t_L_triangles_35 {p : Program} {l : Launch} {e : Env} {s : State} {m : MethodId} {args : Array Value} {below : List Frame} {meth : Method} {c : Code} {A : Nat → Prop} {D : va_G} {cI cJ cZ cQ : ClassId} {a_p0 : AB} {res : R_L_triangles} {k25 : ST → Int32 → Int32 → Int64 → Int32 → Int32 → Int32 → Option R_L_triangles} (hC : mcx RL cL_triangles (some .boolean) 15 wsL_triangles p s m args meth c A D (tys4 cI cJ cZ cQ)) (hk25 : S_L_triangles_25 p l e s m args below meth c A D cI cJ cZ cQ a_p0 res k25) (n : Nat) : S_L_triangles_35 p l e s m args below meth c A D cI cJ cZ cQ a_p0 res (f_L_triangles_35 k25 n) := by
  induction n with
  | zero =>
    intro s_p0 x1 x2 x3 x5 x6 x7 x8 hf
    exact nomatch (show (none : Option R_L_triangles) = some res from hf)
  | succ n ih => exact i_L_triangles_35 hC hk25 ih
set_option maxHeartbeats 4000000 in
set_option maxRecDepth 100000 in
theorem i_L_triangles_25 {p : Program} {l : Launch} {e : Env} {s : State} {m : MethodId} {args : Array Value} {below : List Frame} {meth : Method} {c : Code} {A : Nat → Prop} {D : va_G} {cI cJ cZ cQ : ClassId} {a_p0 : AB} {res : R_L_triangles} {k16 : ST → Int32 → Int32 → Int64 → Int32 → Int32 → Option R_L_triangles} {k25 : ST → Int32 → Int32 → Int64 → Int32 → Int32 → Int32 → Option R_L_triangles} (hC : mcx RL cL_triangles (some .boolean) 15 wsL_triangles p s m args meth c A D (tys4 cI cJ cZ cQ)) (hk16 : S_L_triangles_16 p l e s m args below meth c A D cI cJ cZ cQ a_p0 res k16) (hk25 : S_L_triangles_25 p l e s m args below meth c A D cI cJ cZ cQ a_p0 res k25) : S_L_triangles_25 p l e s m args below meth c A D cI cJ cZ cQ a_p0 res (g_L_triangles_25 k16 k25) := by
  intro s_p0 x1 x2 x3 x5 x6 x7 hf H locs hP hD hS ls hl
  obtain ⟨hx, hb, hr, hml, hown, hts, hlocks, hA, hK, hN⟩ := id hC
  unfold g_L_triangles_25 at hf
  refine lv_iload hx hb dL_triangles_25 (lv_at hl 6 rfl) ?_
  refine lv_iload hx hb dL_triangles_27 (lv_at hl 5 rfl) ?_
  refine lv_icmp_ge (tgt := 69) hx hb dL_triangles_29 (by decide) (fun c1 => ?_) (fun c1 => ?_)
  · replace hf := brT c1 hf
    refine lv_iinc (v := (x6 + (1 : Int32))) (lv' := [(6, .int (x6 + (1 : Int32))), (0, .ref (a_p0.1 0)), (1, .int x1), (2, .int x2), (3, .long x3), (5, .int x5), (7, .int x7)]) hx hb dL_triangles_69 hl (k := 5) rfl rfl (by decide) rfl (fun ls hl => ?_)
    refine lv_goto (tgt := 16) hx hb dL_triangles_72 (by decide) ?_
    exact (hk16) s_p0 x1 x2 x3 x5 (x6 + (1 : Int32)) hf _ _ hP hD hS _ (lv_sub hl [1, 2, 3, 4, 5, 0] rfl)
  · replace hf := brF c1 hf
    refine lv_iconst (v := (0 : Int32)) hx hb dL_triangles_32 (by decide) ?_
    refine lv_istore (lv' := [(8, .int (0 : Int32)), (0, .ref (a_p0.1 0)), (1, .int x1), (2, .int x2), (3, .long x3), (5, .int x5), (6, .int x6), (7, .int x7)]) hx hb dL_triangles_33 hl (by decide) rfl (fun ls hl => ?_)
    exact (t_L_triangles_35 hC hk25 fuel) s_p0 x1 x2 x3 x5 x6 x7 (0 : Int32) hf _ _ hP hD hS _ (lv_sub hl [1, 2, 3, 4, 5, 6, 7, 0] rfl)
theorem t_L_triangles_25 {p : Program} {l : Launch} {e : Env} {s : State} {m : MethodId} {args : Array Value} {below : List Frame} {meth : Method} {c : Code} {A : Nat → Prop} {D : va_G} {cI cJ cZ cQ : ClassId} {a_p0 : AB} {res : R_L_triangles} {k16 : ST → Int32 → Int32 → Int64 → Int32 → Int32 → Option R_L_triangles} (hC : mcx RL cL_triangles (some .boolean) 15 wsL_triangles p s m args meth c A D (tys4 cI cJ cZ cQ)) (hk16 : S_L_triangles_16 p l e s m args below meth c A D cI cJ cZ cQ a_p0 res k16) (n : Nat) : S_L_triangles_25 p l e s m args below meth c A D cI cJ cZ cQ a_p0 res (f_L_triangles_25 k16 n) := by
  induction n with
  | zero =>
    intro s_p0 x1 x2 x3 x5 x6 x7 hf
    exact nomatch (show (none : Option R_L_triangles) = some res from hf)
  | succ n ih => exact i_L_triangles_25 hC hk16 ih
set_option maxHeartbeats 4000000 in
set_option maxRecDepth 100000 in
theorem i_L_triangles_16 {p : Program} {l : Launch} {e : Env} {s : State} {m : MethodId} {args : Array Value} {below : List Frame} {meth : Method} {c : Code} {A : Nat → Prop} {D : va_G} {cI cJ cZ cQ : ClassId} {a_p0 : AB} {res : R_L_triangles}  {k16 : ST → Int32 → Int32 → Int64 → Int32 → Int32 → Option R_L_triangles} (hC : mcx RL cL_triangles (some .boolean) 15 wsL_triangles p s m args meth c A D (tys4 cI cJ cZ cQ))  (hk16 : S_L_triangles_16 p l e s m args below meth c A D cI cJ cZ cQ a_p0 res k16) : S_L_triangles_16 p l e s m args below meth c A D cI cJ cZ cQ a_p0 res (g_L_triangles_16  k16) := by
  intro s_p0 x1 x2 x3 x5 x6 hf H locs hP hD hS ls hl
  obtain ⟨hx, hb, hr, hml, hown, hts, hlocks, hA, hK, hN⟩ := id hC
  unfold g_L_triangles_16 at hf
  refine lv_iload hx hb dL_triangles_16 (lv_at hl 5 rfl) ?_
  refine lv_iload_n hx hb dL_triangles_18 rfl (lv_at hl 2 rfl) ?_
  refine lv_icmp_ge (tgt := 75) hx hb dL_triangles_19 (by decide) (fun c1 => ?_) (fun c1 => ?_)
  · replace hf := brT c1 hf
    refine lv_aload_n hx hb dL_triangles_75 rfl (lv_at hl 0 rfl) ?_
    obtain ⟨r2, s3, hq4, hf⟩ := bnd2_of hf
    refine callX (As := []) (rest := []) (ci := 5) (q0 := 0) (wr := ([])) (WB := (wB cI cJ cZ cQ a_p0 s3)) hx hb hml hown hts hK hN (b_X5_triangleCount l D cI cJ cZ cQ a_p0 s_p0  hq4) (cwV 0 hts gL_triangles_X5_triangleCount rfl rfl rfl e_X5_triangleCount ⟨Nat.le_of_ble_eq_true rfl, Nat.le_of_ble_eq_true rfl⟩) hP hD hS hA pmN pmN.symm rfl rfl rfl rfl hl (Nat.le_of_ble_eq_true rfl) dL_triangles_76 ⟨Nat.zero_le _, Nat.zero_le _⟩ rfl (fun H locs hP hD hS => ?_)
    refine lv_iload hx hb dL_triangles_79 (lv_at hl 4 rfl) ?_
    refine lv_icmp_ne (tgt := 120) hx hb dL_triangles_81 (by decide) (fun c5 => ?_) (fun c5 => ?_)
    · replace hf := brF c5 hf
      refine lv_iconst (v := (0 : Int32)) hx hb dL_triangles_120 (by decide) ?_
      exact (t_L_triangles_121 hC ) s3 x1 x2 x3 x5 (0 : Int32) hf _ _ hP hD hS _ (lv_sub hl [0, 1, 2, 3, 4] rfl)
    · replace hf := brT c5 hf
      refine lv_iload_n hx hb dL_triangles_84 rfl (lv_at hl 2 rfl) ?_
      refine lv_iconst (v := (3 : Int32)) hx hb dL_triangles_85 (by decide) ?_
      refine lv_icmp_lt (tgt := 116) hx hb dL_triangles_86 (by decide) (fun c6 => ?_) (fun c6 => ?_)
      · replace hf := brT c6 hf
        refine lv_iconst (v := (1 : Int32)) hx hb dL_triangles_116 (by decide) ?_
        refine lv_goto (tgt := 121) hx hb dL_triangles_117 (by decide) ?_
        exact (t_L_triangles_121 hC ) s3 x1 x2 x3 x5 (1 : Int32) hf _ _ hP hD hS _ (lv_sub hl [0, 1, 2, 3, 4] rfl)
      · replace hf := brF c6 hf
        refine lv_aload_n hx hb dL_triangles_89 rfl (lv_at hl 0 rfl) ?_
        refine lv_iconst (v := (0 : Int32)) hx hb dL_triangles_90 (by decide) ?_
        refine lv_iconst (v := (1 : Int32)) hx hb dL_triangles_91 (by decide) ?_
        refine lv_iconst (v := (2 : Int32)) hx hb dL_triangles_92 (by decide) ?_
        obtain ⟨r7, s8, hq9, hf⟩ := bnd2_of hf
        refine callX (As := [.int (0 : Int32), .int (1 : Int32), .int (2 : Int32)]) (rest := []) (ci := 5) (q0 := 0) (wr := ([])) (WB := (wB cI cJ cZ cQ a_p0 s8)) hx hb hml hown hts hK hN (b_X5_isTriangle l D cI cJ cZ cQ a_p0 s3 (0 : Int32) (1 : Int32) (2 : Int32) hq9) (cwV 3 hts gL_triangles_X5_isTriangle rfl rfl rfl e_X5_isTriangle ⟨Nat.le_of_ble_eq_true rfl, Nat.le_of_ble_eq_true rfl⟩) hP hD hS hA pmN pmN.symm rfl rfl rfl rfl hl (Nat.le_of_ble_eq_true rfl) dL_triangles_93 ⟨Nat.zero_le _, Nat.zero_le _⟩ rfl (fun H locs hP hD hS => ?_)
        refine lv_aload_n hx hb dL_triangles_96 rfl (lv_at hl 0 rfl) ?_
        refine lv_iconst (v := (2 : Int32)) hx hb dL_triangles_97 (by decide) ?_
        refine lv_iconst (v := (0 : Int32)) hx hb dL_triangles_98 (by decide) ?_
        refine lv_iconst (v := (1 : Int32)) hx hb dL_triangles_99 (by decide) ?_
        obtain ⟨r10, s11, hq12, hf⟩ := bnd2_of hf
        refine callX (As := [.int (2 : Int32), .int (0 : Int32), .int (1 : Int32)]) (rest := [.int r7]) (ci := 5) (q0 := 0) (wr := ([])) (WB := (wB cI cJ cZ cQ a_p0 s11)) hx hb hml hown hts hK hN (b_X5_isTriangle l D cI cJ cZ cQ a_p0 s8 (2 : Int32) (0 : Int32) (1 : Int32) hq12) (cwV 3 hts gL_triangles_X5_isTriangle rfl rfl rfl e_X5_isTriangle ⟨Nat.le_of_ble_eq_true rfl, Nat.le_of_ble_eq_true rfl⟩) hP hD hS hA pmN pmN.symm rfl rfl rfl rfl hl (Nat.le_of_ble_eq_true rfl) dL_triangles_100 ⟨Nat.zero_le _, Nat.zero_le _⟩ rfl (fun H locs hP hD hS => ?_)
        refine lv_icmp_ne (tgt := 120) hx hb dL_triangles_103 (by decide) (fun c13 => ?_) (fun c13 => ?_)
        · replace hf := brF c13 hf
          refine lv_iconst (v := (0 : Int32)) hx hb dL_triangles_120 (by decide) ?_
          exact (t_L_triangles_121 hC ) s11 x1 x2 x3 x5 (0 : Int32) hf _ _ hP hD hS _ (lv_sub hl [0, 1, 2, 3, 4] rfl)
        · replace hf := brT c13 hf
          refine lv_aload_n hx hb dL_triangles_106 rfl (lv_at hl 0 rfl) ?_
          refine lv_iconst (v := (1 : Int32)) hx hb dL_triangles_107 (by decide) ?_
          refine lv_iconst (v := (1 : Int32)) hx hb dL_triangles_108 (by decide) ?_
          refine lv_iconst (v := (2 : Int32)) hx hb dL_triangles_109 (by decide) ?_
          obtain ⟨r14, s15, hq16, hf⟩ := bnd2_of hf
          refine callX (As := [.int (1 : Int32), .int (1 : Int32), .int (2 : Int32)]) (rest := []) (ci := 5) (q0 := 0) (wr := ([])) (WB := (wB cI cJ cZ cQ a_p0 s15)) hx hb hml hown hts hK hN (b_X5_isTriangle l D cI cJ cZ cQ a_p0 s11 (1 : Int32) (1 : Int32) (2 : Int32) hq16) (cwV 3 hts gL_triangles_X5_isTriangle rfl rfl rfl e_X5_isTriangle ⟨Nat.le_of_ble_eq_true rfl, Nat.le_of_ble_eq_true rfl⟩) hP hD hS hA pmN pmN.symm rfl rfl rfl rfl hl (Nat.le_of_ble_eq_true rfl) dL_triangles_110 ⟨Nat.zero_le _, Nat.zero_le _⟩ rfl (fun H locs hP hD hS => ?_)
          refine lv_if_ne (tgt := 120) hx hb dL_triangles_113 (by decide) (fun c17 => ?_) (fun c17 => ?_)
          · replace hf := brF c17 hf
            refine lv_iconst (v := (0 : Int32)) hx hb dL_triangles_120 (by decide) ?_
            exact (t_L_triangles_121 hC ) s15 x1 x2 x3 x5 (0 : Int32) hf _ _ hP hD hS _ (lv_sub hl [0, 1, 2, 3, 4] rfl)
          · replace hf := brT c17 hf
            refine lv_iconst (v := (1 : Int32)) hx hb dL_triangles_116 (by decide) ?_
            refine lv_goto (tgt := 121) hx hb dL_triangles_117 (by decide) ?_
            exact (t_L_triangles_121 hC ) s15 x1 x2 x3 x5 (1 : Int32) hf _ _ hP hD hS _ (lv_sub hl [0, 1, 2, 3, 4] rfl)
  · replace hf := brF c1 hf
    refine lv_iconst (v := (0 : Int32)) hx hb dL_triangles_22 (by decide) ?_
    refine lv_istore (lv' := [(7, .int (0 : Int32)), (0, .ref (a_p0.1 0)), (1, .int x1), (2, .int x2), (3, .long x3), (5, .int x5), (6, .int x6)]) hx hb dL_triangles_23 hl (by decide) rfl (fun ls hl => ?_)
    exact (t_L_triangles_25 hC hk16 fuel) s_p0 x1 x2 x3 x5 x6 (0 : Int32) hf _ _ hP hD hS _ (lv_sub hl [1, 2, 3, 4, 5, 6, 0] rfl)
theorem t_L_triangles_16 {p : Program} {l : Launch} {e : Env} {s : State} {m : MethodId} {args : Array Value} {below : List Frame} {meth : Method} {c : Code} {A : Nat → Prop} {D : va_G} {cI cJ cZ cQ : ClassId} {a_p0 : AB} {res : R_L_triangles}  (hC : mcx RL cL_triangles (some .boolean) 15 wsL_triangles p s m args meth c A D (tys4 cI cJ cZ cQ))  (n : Nat) : S_L_triangles_16 p l e s m args below meth c A D cI cJ cZ cQ a_p0 res (f_L_triangles_16  n) := by
  induction n with
  | zero =>
    intro s_p0 x1 x2 x3 x5 x6 hf
    exact nomatch (show (none : Option R_L_triangles) = some res from hf)
  | succ n ih => exact i_L_triangles_16 hC  ih
set_option maxHeartbeats 4000000 in
set_option maxRecDepth 100000 in
theorem t_L_triangles_0 {p : Program} {l : Launch} {e : Env} {s : State} {m : MethodId} {args : Array Value} {below : List Frame} {meth : Method} {c : Code} {A : Nat → Prop} {D : va_G} {cI cJ cZ cQ : ClassId} {a_p0 : AB} {res : R_L_triangles}  (hC : mcx RL cL_triangles (some .boolean) 15 wsL_triangles p s m args meth c A D (tys4 cI cJ cZ cQ))  : S_L_triangles_0 p l e s m args below meth c A D cI cJ cZ cQ a_p0 res (f_L_triangles_0 ) := by
  intro s_p0 x1 hf H locs hP hD hS ls hl
  obtain ⟨hx, hb, hr, hml, hown, hts, hlocks, hA, hK, hN⟩ := id hC
  unfold f_L_triangles_0 at hf
  refine lv_aload_n hx hb dL_triangles_0 rfl (lv_at hl 0 rfl) ?_
  obtain ⟨r1, s2, hq3, hf⟩ := bnd2_of hf
  refine callX (As := []) (rest := []) (ci := 5) (q0 := 0) (wr := ([])) (WB := (wB cI cJ cZ cQ a_p0 s2)) hx hb hml hown hts hK hN (b_X5_siteCount l D cI cJ cZ cQ a_p0 s_p0  hq3) (cwV 0 hts gL_triangles_X5_siteCount rfl rfl rfl e_X5_siteCount ⟨Nat.le_of_ble_eq_true rfl, Nat.le_of_ble_eq_true rfl⟩) hP hD hS hA pmN pmN.symm rfl rfl rfl rfl hl (Nat.le_of_ble_eq_true rfl) dL_triangles_1 ⟨Nat.zero_le _, Nat.zero_le _⟩ rfl (fun H locs hP hD hS => ?_)
  refine lv_istore_n (lv' := [(2, .int r1), (0, .ref (a_p0.1 0)), (1, .int x1)]) hx hb dL_triangles_4 rfl hl (by decide) rfl (fun ls hl => ?_)
  refine lv_aload_n hx hb dL_triangles_5 rfl (lv_at hl 1 rfl) ?_
  obtain ⟨r4, s5, hq6, hf⟩ := bnd2_of hf
  refine callSL (As := [.ref (a_p0.1 0)]) (rest := []) (wr := ([])) (WB := (wB cI cJ cZ cQ a_p0 s5)) hx hb hml hown hts hK hN (c_L_state l D cI cJ cZ cQ a_p0 s2  hq6) (va_cwS 1 hts gL_triangles_L_state rfl rfl rfl e_L_state ⟨Nat.le_of_ble_eq_true rfl, Nat.le_of_ble_eq_true rfl⟩) hP hD hS hA pmN pmN.symm rfl hl (Nat.le_of_ble_eq_true rfl) dL_triangles_6 ⟨Nat.zero_le _, Nat.zero_le _⟩ rfl (fun H locs hP hD hS => ?_)
  refine lv_lstore_n (lv' := [(3, .long r4), (2, .int r1), (0, .ref (a_p0.1 0)), (1, .int x1)]) hx hb dL_triangles_9 rfl hl (by decide) rfl (fun ls hl => ?_)
  refine lv_iconst (v := (0 : Int32)) hx hb dL_triangles_10 (by decide) ?_
  refine lv_istore (lv' := [(5, .int (0 : Int32)), (3, .long r4), (2, .int r1), (0, .ref (a_p0.1 0)), (1, .int x1)]) hx hb dL_triangles_11 hl (by decide) rfl (fun ls hl => ?_)
  refine lv_iconst (v := (0 : Int32)) hx hb dL_triangles_13 (by decide) ?_
  refine lv_istore (lv' := [(6, .int (0 : Int32)), (5, .int (0 : Int32)), (3, .long r4), (2, .int r1), (0, .ref (a_p0.1 0)), (1, .int x1)]) hx hb dL_triangles_14 hl (by decide) rfl (fun ls hl => ?_)
  exact (t_L_triangles_16 hC  fuel) s5 x1 r1 r4 (0 : Int32) (0 : Int32) hf _ _ hP hD hS _ (lv_sub hl [4, 5, 3, 2, 1, 0] rfl)
theorem c_L_triangles (l : Launch) (D : va_G) (cI cJ cZ cQ : ClassId) (a_p0 : AB) (s_p0 : ST) (p1 : Int32) {res : R_L_triangles} (hf : f_L_triangles_0 s_p0 p1 = some res) : MetI l D (tys4 cI cJ cZ cQ) yL_triangles wsL_triangles rm_L_triangles [.ref (a_p0.1 0), .int p1] (wB cI cJ cZ cQ a_p0 s_p0) (wB cI cJ cZ cQ a_p0 res.2) res.1 := by
  intro sz
  exact metW (own := RL) (cc := cL_triangles) (nL := 15) (ret := (some .boolean)) (Qc := fun A => qI D (tys4 cI cJ cZ cQ) (wB cI cJ cZ cQ a_p0 res.2) A res.1) (by decide) rfl rfl (Nat.le_of_ble_eq_true rfl) (fun p e s m args below meth c A hC hP hD hS ls hl => t_L_triangles_0 hC s_p0 p1 hf _ _ hP hD hS _ (lv_sub hl [0, 1] rfl)) sz
theorem e_L_triangles : yL_triangles.cls ≠ "java/lang/invoke/MethodHandle" ∧ yL_triangles.cls ≠ "java/lang/invoke/VarHandle" ∧ (parseMethodDescriptor yL_triangles.desc).map (fun d => d.parameters.length) = some 2 := by decide +kernel
abbrev rm_L_weights : Room := { frames := 7, cells := 0, slots := 0, locals := 169 }
def S_L_weights_456 (p : Program) (l : Launch) (e : Env) (s : State) (m : MethodId) (args : Array Value) (below : List Frame) (meth : Method) (c : Code) (A : Nat → Prop) (D : va_G) (cI cJ cZ cQ : ClassId) (a_p0 : AB) (res : R_L_weights) (k : ST → Int64 → Int32 → Option R_L_weights) : Prop := ∀ (s_p0 : ST) (x3 : Int64) (y0 : Int32), k s_p0 x3 y0 = some res → ∀ (H : Heap) (locs : List Loc), va_P D vwCl (wB cI cJ cZ cQ a_p0 s_p0) H → va_D A (wB cI cJ cZ cQ a_p0 s_p0) → va_S A s.heap H locs → ∀ ls : Array Slot, lv_has ls 15 [(0, .ref (a_p0.1 0)), (3, .long x3)] → W p l e (headSpec wsL_weights rm_L_weights).room s m args below meth c H locs 0 0 (MQ below (qI D (tys4 cI cJ cZ cQ) (wB cI cJ cZ cQ a_p0 res.2) A res.1) args s 0 0 A) (F0 m 456 ls [.int y0])
def S_L_weights_403 (p : Program) (l : Launch) (e : Env) (s : State) (m : MethodId) (args : Array Value) (below : List Frame) (meth : Method) (c : Code) (A : Nat → Prop) (D : va_G) (cI cJ cZ cQ : ClassId) (a_p0 : AB) (res : R_L_weights) (k : ST → Int64 → Int32 → Int32 → Option R_L_weights) : Prop := ∀ (s_p0 : ST) (x3 : Int64) (x5 : Int32) (y0 : Int32), k s_p0 x3 x5 y0 = some res → ∀ (H : Heap) (locs : List Loc), va_P D vwCl (wB cI cJ cZ cQ a_p0 s_p0) H → va_D A (wB cI cJ cZ cQ a_p0 s_p0) → va_S A s.heap H locs → ∀ ls : Array Slot, lv_has ls 15 [(0, .ref (a_p0.1 0)), (3, .long x3), (5, .int x5)] → W p l e (headSpec wsL_weights rm_L_weights).room s m args below meth c H locs 0 0 (MQ below (qI D (tys4 cI cJ cZ cQ) (wB cI cJ cZ cQ a_p0 res.2) A res.1) args s 0 0 A) (F0 m 403 ls [.int y0])
def S_L_weights_353 (p : Program) (l : Launch) (e : Env) (s : State) (m : MethodId) (args : Array Value) (below : List Frame) (meth : Method) (c : Code) (A : Nat → Prop) (D : va_G) (cI cJ cZ cQ : ClassId) (a_p0 : AB) (res : R_L_weights) (k : ST → Int32 → Int64 → Int32 → Int32 → Option R_L_weights) : Prop := ∀ (s_p0 : ST) (x1 : Int32) (x3 : Int64) (x5 : Int32) (y0 : Int32), k s_p0 x1 x3 x5 y0 = some res → ∀ (H : Heap) (locs : List Loc), va_P D vwCl (wB cI cJ cZ cQ a_p0 s_p0) H → va_D A (wB cI cJ cZ cQ a_p0 s_p0) → va_S A s.heap H locs → ∀ ls : Array Slot, lv_has ls 15 [(0, .ref (a_p0.1 0)), (1, .int x1), (3, .long x3), (5, .int x5)] → W p l e (headSpec wsL_weights rm_L_weights).room s m args below meth c H locs 0 0 (MQ below (qI D (tys4 cI cJ cZ cQ) (wB cI cJ cZ cQ a_p0 res.2) A res.1) args s 0 0 A) (F0 m 353 ls [.int y0])
def S_L_weights_317 (p : Program) (l : Launch) (e : Env) (s : State) (m : MethodId) (args : Array Value) (below : List Frame) (meth : Method) (c : Code) (A : Nat → Prop) (D : va_G) (cI cJ cZ cQ : ClassId) (a_p0 : AB) (res : R_L_weights) (k : ST → Int32 → Int64 → Int32 → Int32 → Option R_L_weights) : Prop := ∀ (s_p0 : ST) (x1 : Int32) (x3 : Int64) (x5 : Int32) (y0 : Int32), k s_p0 x1 x3 x5 y0 = some res → ∀ (H : Heap) (locs : List Loc), va_P D vwCl (wB cI cJ cZ cQ a_p0 s_p0) H → va_D A (wB cI cJ cZ cQ a_p0 s_p0) → va_S A s.heap H locs → ∀ ls : Array Slot, lv_has ls 15 [(0, .ref (a_p0.1 0)), (1, .int x1), (3, .long x3), (5, .int x5)] → W p l e (headSpec wsL_weights rm_L_weights).room s m args below meth c H locs 0 0 (MQ below (qI D (tys4 cI cJ cZ cQ) (wB cI cJ cZ cQ a_p0 res.2) A res.1) args s 0 0 A) (F0 m 317 ls [.int y0])
def S_L_weights_213 (p : Program) (l : Launch) (e : Env) (s : State) (m : MethodId) (args : Array Value) (below : List Frame) (meth : Method) (c : Code) (A : Nat → Prop) (D : va_G) (cI cJ cZ cQ : ClassId) (a_p0 : AB) (res : R_L_weights) (k : ST → Int32 → Int64 → Int32 → Int32 → Option R_L_weights) : Prop := ∀ (s_p0 : ST) (x1 : Int32) (x3 : Int64) (x5 : Int32) (x8 : Int32), k s_p0 x1 x3 x5 x8 = some res → ∀ (H : Heap) (locs : List Loc), va_P D vwCl (wB cI cJ cZ cQ a_p0 s_p0) H → va_D A (wB cI cJ cZ cQ a_p0 s_p0) → va_S A s.heap H locs → ∀ ls : Array Slot, lv_has ls 15 [(0, .ref (a_p0.1 0)), (1, .int x1), (3, .long x3), (5, .int x5), (8, .int x8)] → W p l e (headSpec wsL_weights rm_L_weights).room s m args below meth c H locs 0 0 (MQ below (qI D (tys4 cI cJ cZ cQ) (wB cI cJ cZ cQ a_p0 res.2) A res.1) args s 0 0 A) (F0 m 213 ls [])
def S_L_weights_163 (p : Program) (l : Launch) (e : Env) (s : State) (m : MethodId) (args : Array Value) (below : List Frame) (meth : Method) (c : Code) (A : Nat → Prop) (D : va_G) (cI cJ cZ cQ : ClassId) (a_p0 : AB) (res : R_L_weights) (k : ST → Int32 → Int64 → Int32 → Int32 → Int32 → Int32 → Option R_L_weights) : Prop := ∀ (s_p0 : ST) (x1 : Int32) (x3 : Int64) (x5 : Int32) (x6 : Int32) (x7 : Int32) (y0 : Int32), k s_p0 x1 x3 x5 x6 x7 y0 = some res → ∀ (H : Heap) (locs : List Loc), va_P D vwCl (wB cI cJ cZ cQ a_p0 s_p0) H → va_D A (wB cI cJ cZ cQ a_p0 s_p0) → va_S A s.heap H locs → ∀ ls : Array Slot, lv_has ls 15 [(0, .ref (a_p0.1 0)), (1, .int x1), (3, .long x3), (5, .int x5), (6, .int x6), (7, .int x7)] → W p l e (headSpec wsL_weights rm_L_weights).room s m args below meth c H locs 0 0 (MQ below (qI D (tys4 cI cJ cZ cQ) (wB cI cJ cZ cQ a_p0 res.2) A res.1) args s 0 0 A) (F0 m 163 ls [.int y0])
def S_L_weights_0 (p : Program) (l : Launch) (e : Env) (s : State) (m : MethodId) (args : Array Value) (below : List Frame) (meth : Method) (c : Code) (A : Nat → Prop) (D : va_G) (cI cJ cZ cQ : ClassId) (a_p0 : AB) (res : R_L_weights) (k : ST → Int32 → Option R_L_weights) : Prop := ∀ (s_p0 : ST) (x1 : Int32), k s_p0 x1 = some res → ∀ (H : Heap) (locs : List Loc), va_P D vwCl (wB cI cJ cZ cQ a_p0 s_p0) H → va_D A (wB cI cJ cZ cQ a_p0 s_p0) → va_S A s.heap H locs → ∀ ls : Array Slot, lv_has ls 15 [(0, .ref (a_p0.1 0)), (1, .int x1)] → W p l e (headSpec wsL_weights rm_L_weights).room s m args below meth c H locs 0 0 (MQ below (qI D (tys4 cI cJ cZ cQ) (wB cI cJ cZ cQ a_p0 res.2) A res.1) args s 0 0 A) (F0 m 0 ls [])
set_option maxHeartbeats 4000000 in
set_option maxRecDepth 100000 in
theorem t_L_weights_456 {p : Program} {l : Launch} {e : Env} {s : State} {m : MethodId} {args : Array Value} {below : List Frame} {meth : Method} {c : Code} {A : Nat → Prop} {D : va_G} {cI cJ cZ cQ : ClassId} {a_p0 : AB} {res : R_L_weights}  (hC : mcx RL cL_weights (some .boolean) 15 wsL_weights p s m args meth c A D (tys4 cI cJ cZ cQ))  : S_L_weights_456 p l e s m args below meth c A D cI cJ cZ cQ a_p0 res (f_L_weights_456 ) := by
  intro s_p0 x3 y0 hf H locs hP hD hS ls hl
  obtain ⟨hx, hb, hr, hml, hown, hts, hlocks, hA, hK, hN⟩ := id hC
  unfold f_L_weights_456 at hf
  refine lv_istore (lv' := [(8, .int y0), (0, .ref (a_p0.1 0)), (3, .long x3)]) hx hb dL_weights_456 hl (by decide) rfl (fun ls hl => ?_)
  refine lv_iload hx hb dL_weights_458 (lv_at hl 0 rfl) ?_
  refine lv_if_eq (tgt := 476) hx hb dL_weights_460 (by decide) (fun c1 => ?_) (fun c1 => ?_)
  · replace hf := brT c1 hf
    refine lv_iconst (v := (0 : Int32)) hx hb dL_weights_476 (by decide) ?_
    obtain rfl := Option.some.inj hf
    exact endI (ty := .boolean) hC rfl rfl hP hD hS dL_weights_477
  · replace hf := brF c1 hf
    refine lv_aload_n hx hb dL_weights_463 rfl (lv_at hl 1 rfl) ?_
    obtain ⟨r2, s3, hq4, hf⟩ := bnd2_of hf
    refine callSL (As := [.ref (a_p0.1 0)]) (rest := []) (wr := ([])) (WB := (wB cI cJ cZ cQ a_p0 s3)) hx hb hml hown hts hK hN (c_L_state l D cI cJ cZ cQ a_p0 s_p0  hq4) (va_cwS 1 hts gL_weights_L_state rfl rfl rfl e_L_state ⟨Nat.le_of_ble_eq_true rfl, Nat.le_of_ble_eq_true rfl⟩) hP hD hS hA pmN pmN.symm rfl hl (Nat.le_of_ble_eq_true rfl) dL_weights_464 ⟨Nat.zero_le _, Nat.zero_le _⟩ rfl (fun H locs hP hD hS => ?_)
    refine lv_lload_n hx hb dL_weights_467 rfl (lv_at hl 2 rfl) ?_
    refine W.lcmp hx hb dL_weights_468 ?_
    refine lv_if_ne (tgt := 476) hx hb dL_weights_469 (by decide) (fun c5 => ?_) (fun c5 => ?_)
    · replace hf := brF c5 hf
      refine lv_iconst (v := (0 : Int32)) hx hb dL_weights_476 (by decide) ?_
      obtain rfl := Option.some.inj hf
      exact endI (ty := .boolean) hC rfl rfl hP hD hS dL_weights_477
    · replace hf := brT c5 hf
      refine lv_iconst (v := (1 : Int32)) hx hb dL_weights_472 (by decide) ?_
      refine lv_goto (tgt := 477) hx hb dL_weights_473 (by decide) ?_
      obtain rfl := Option.some.inj hf
      exact endI (ty := .boolean) hC rfl rfl hP hD hS dL_weights_477
set_option maxHeartbeats 4000000 in
set_option maxRecDepth 100000 in
theorem t_L_weights_403 {p : Program} {l : Launch} {e : Env} {s : State} {m : MethodId} {args : Array Value} {below : List Frame} {meth : Method} {c : Code} {A : Nat → Prop} {D : va_G} {cI cJ cZ cQ : ClassId} {a_p0 : AB} {res : R_L_weights}  (hC : mcx RL cL_weights (some .boolean) 15 wsL_weights p s m args meth c A D (tys4 cI cJ cZ cQ))  : S_L_weights_403 p l e s m args below meth c A D cI cJ cZ cQ a_p0 res (f_L_weights_403 ) := by
  intro s_p0 x3 x5 y0 hf H locs hP hD hS ls hl
  obtain ⟨hx, hb, hr, hml, hown, hts, hlocks, hA, hK, hN⟩ := id hC
  unfold f_L_weights_403 at hf
  refine lv_istore (lv' := [(8, .int y0), (0, .ref (a_p0.1 0)), (3, .long x3), (5, .int x5)]) hx hb dL_weights_403 hl (by decide) rfl (fun ls hl => ?_)
  refine lv_aload_n hx hb dL_weights_405 rfl (lv_at hl 1 rfl) ?_
  refine lv_iload hx hb dL_weights_406 (lv_at hl 3 rfl) ?_
  refine lv_iconst (v := (2 : Int32)) hx hb dL_weights_408 (by decide) ?_
  obtain ⟨r1, s2, hq3, hf⟩ := bnd2_of hf
  refine callX (As := [.int x5, .int (2 : Int32)]) (rest := []) (ci := 5) (q0 := 0) (wr := ([])) (WB := (wB cI cJ cZ cQ a_p0 s2)) hx hb hml hown hts hK hN (b_X5_site l D cI cJ cZ cQ a_p0 s_p0 x5 (2 : Int32) hq3) (cwV 2 hts gL_weights_X5_site rfl rfl rfl e_X5_site ⟨Nat.le_of_ble_eq_true rfl, Nat.le_of_ble_eq_true rfl⟩) hP hD hS hA pmN pmN.symm rfl rfl rfl rfl hl (Nat.le_of_ble_eq_true rfl) dL_weights_409 ⟨Nat.zero_le _, Nat.zero_le _⟩ rfl (fun H locs hP hD hS => ?_)
  refine lv_istore (lv' := [(14, .int r1), (8, .int y0), (0, .ref (a_p0.1 0)), (3, .long x3), (5, .int x5)]) hx hb dL_weights_412 hl (by decide) rfl (fun ls hl => ?_)
  refine lv_iload hx hb dL_weights_414 (lv_at hl 1 rfl) ?_
  refine lv_if_eq (tgt := 455) hx hb dL_weights_416 (by decide) (fun c4 => ?_) (fun c4 => ?_)
  · replace hf := brT c4 hf
    refine lv_iconst (v := (0 : Int32)) hx hb dL_weights_455 (by decide) ?_
    exact (t_L_weights_456 hC ) s2 x3 (0 : Int32) hf _ _ hP hD hS _ (lv_sub hl [2, 3] rfl)
  · replace hf := brF c4 hf
    refine lv_aload_n hx hb dL_weights_419 rfl (lv_at hl 2 rfl) ?_
    refine lv_iload hx hb dL_weights_420 (lv_at hl 4 rfl) ?_
    refine lv_iconst (v := (1 : Int32)) hx hb dL_weights_422 (by decide) ?_
    obtain ⟨r5, s6, hq7, hf⟩ := bnd2_of hf
    refine callX (As := [.int x5, .int (1 : Int32)]) (rest := []) (ci := 5) (q0 := 0) (wr := ([])) (WB := (wB cI cJ cZ cQ a_p0 s6)) hx hb hml hown hts hK hN (b_X5_possibleWeights l D cI cJ cZ cQ a_p0 s2 x5 (1 : Int32) hq7) (cwV 2 hts gL_weights_X5_possibleWeights rfl rfl rfl e_X5_possibleWeights ⟨Nat.le_of_ble_eq_true rfl, Nat.le_of_ble_eq_true rfl⟩) hP hD hS hA pmN pmN.symm rfl rfl rfl rfl hl (Nat.le_of_ble_eq_true rfl) dL_weights_423 ⟨Nat.zero_le _, Nat.zero_le _⟩ rfl (fun H locs hP hD hS => ?_)
    refine lv_iload hx hb dL_weights_426 (lv_at hl 0 rfl) ?_
    refine lv_icmp_gt (tgt := 455) hx hb dL_weights_428 (by decide) (fun c8 => ?_) (fun c8 => ?_)
    · replace hf := brT c8 hf
      refine lv_iconst (v := (0 : Int32)) hx hb dL_weights_455 (by decide) ?_
      exact (t_L_weights_456 hC ) s6 x3 (0 : Int32) hf _ _ hP hD hS _ (lv_sub hl [2, 3] rfl)
    · replace hf := brF c8 hf
      refine lv_aload_n hx hb dL_weights_431 rfl (lv_at hl 2 rfl) ?_
      refine lv_iload hx hb dL_weights_432 (lv_at hl 4 rfl) ?_
      refine lv_iconst (v := (2 : Int32)) hx hb dL_weights_434 (by decide) ?_
      obtain ⟨r9, s10, hq11, hf⟩ := bnd2_of hf
      refine callX (As := [.int x5, .int (2 : Int32)]) (rest := []) (ci := 5) (q0 := 0) (wr := ([])) (WB := (wB cI cJ cZ cQ a_p0 s10)) hx hb hml hown hts hK hN (b_X5_possibleWeights l D cI cJ cZ cQ a_p0 s6 x5 (2 : Int32) hq11) (cwV 2 hts gL_weights_X5_possibleWeights rfl rfl rfl e_X5_possibleWeights ⟨Nat.le_of_ble_eq_true rfl, Nat.le_of_ble_eq_true rfl⟩) hP hD hS hA pmN pmN.symm rfl rfl rfl rfl hl (Nat.le_of_ble_eq_true rfl) dL_weights_435 ⟨Nat.zero_le _, Nat.zero_le _⟩ rfl (fun H locs hP hD hS => ?_)
      refine lv_iload hx hb dL_weights_438 (lv_at hl 0 rfl) ?_
      refine lv_icmp_lt (tgt := 455) hx hb dL_weights_440 (by decide) (fun c12 => ?_) (fun c12 => ?_)
      · replace hf := brT c12 hf
        refine lv_iconst (v := (0 : Int32)) hx hb dL_weights_455 (by decide) ?_
        exact (t_L_weights_456 hC ) s10 x3 (0 : Int32) hf _ _ hP hD hS _ (lv_sub hl [2, 3] rfl)
      · replace hf := brF c12 hf
        refine lv_aload_n hx hb dL_weights_443 rfl (lv_at hl 2 rfl) ?_
        obtain ⟨r13, s14, hq15, hf⟩ := bnd2_of hf
        refine callX (As := []) (rest := []) (ci := 5) (q0 := 0) (wr := ([])) (WB := (wB cI cJ cZ cQ a_p0 s14)) hx hb hml hown hts hK hN (b_X5_clearObservations l D cI cJ cZ cQ a_p0 s10  hq15) (cwV 0 hts gL_weights_X5_clearObservations rfl rfl rfl e_X5_clearObservations ⟨Nat.le_of_ble_eq_true rfl, Nat.le_of_ble_eq_true rfl⟩) hP hD hS hA pmN pmN.symm rfl rfl rfl rfl hl (Nat.le_of_ble_eq_true rfl) dL_weights_444 ⟨Nat.zero_le _, Nat.zero_le _⟩ rfl (fun H locs hP hD hS => ?_)
        refine lv_iconst (v := (1 : Int32)) hx hb dL_weights_447 (by decide) ?_
        refine lv_icmp_ne (tgt := 455) hx hb dL_weights_448 (by decide) (fun c16 => ?_) (fun c16 => ?_)
        · replace hf := brF c16 hf
          refine lv_iconst (v := (0 : Int32)) hx hb dL_weights_455 (by decide) ?_
          exact (t_L_weights_456 hC ) s14 x3 (0 : Int32) hf _ _ hP hD hS _ (lv_sub hl [2, 3] rfl)
        · replace hf := brT c16 hf
          refine lv_iconst (v := (1 : Int32)) hx hb dL_weights_451 (by decide) ?_
          refine lv_goto (tgt := 456) hx hb dL_weights_452 (by decide) ?_
          exact (t_L_weights_456 hC ) s14 x3 (1 : Int32) hf _ _ hP hD hS _ (lv_sub hl [2, 3] rfl)
set_option maxHeartbeats 4000000 in
set_option maxRecDepth 100000 in
theorem t_L_weights_353 {p : Program} {l : Launch} {e : Env} {s : State} {m : MethodId} {args : Array Value} {below : List Frame} {meth : Method} {c : Code} {A : Nat → Prop} {D : va_G} {cI cJ cZ cQ : ClassId} {a_p0 : AB} {res : R_L_weights}  (hC : mcx RL cL_weights (some .boolean) 15 wsL_weights p s m args meth c A D (tys4 cI cJ cZ cQ))  : S_L_weights_353 p l e s m args below meth c A D cI cJ cZ cQ a_p0 res (f_L_weights_353 ) := by
  intro s_p0 x1 x3 x5 y0 hf H locs hP hD hS ls hl
  obtain ⟨hx, hb, hr, hml, hown, hts, hlocks, hA, hK, hN⟩ := id hC
  unfold f_L_weights_353 at hf
  refine lv_istore (lv' := [(8, .int y0), (0, .ref (a_p0.1 0)), (1, .int x1), (3, .long x3), (5, .int x5)]) hx hb dL_weights_353 hl (by decide) rfl (fun ls hl => ?_)
  refine lv_aload_n hx hb dL_weights_355 rfl (lv_at hl 1 rfl) ?_
  refine lv_iload_n hx hb dL_weights_356 rfl (lv_at hl 2 rfl) ?_
  refine lv_bipush (v := (21 : Int32)) hx hb dL_weights_357 (by decide) ?_
  refine lv_irem hx hb dL_weights_359 (by decide) ?_
  refine lv_iload_n hx hb dL_weights_360 rfl (lv_at hl 2 rfl) ?_
  refine lv_bipush (v := (21 : Int32)) hx hb dL_weights_361 (by decide) ?_
  refine lv_idiv hx hb dL_weights_363 (by decide) ?_
  refine lv_bipush (v := (21 : Int32)) hx hb dL_weights_364 (by decide) ?_
  refine lv_irem hx hb dL_weights_366 (by decide) ?_
  obtain ⟨r1, s2, hq3, hf⟩ := bnd2_of hf
  refine callX (As := [.int (x1 - x1 / (21 : Int32) * (21 : Int32)), .int ((x1 / (21 : Int32)) - (x1 / (21 : Int32)) / (21 : Int32) * (21 : Int32))]) (rest := []) (ci := 5) (q0 := 0) (wr := ([])) (WB := (wB cI cJ cZ cQ a_p0 s2)) hx hb hml hown hts hK hN (b_X5_owner l D cI cJ cZ cQ a_p0 s_p0 (x1 - x1 / (21 : Int32) * (21 : Int32)) ((x1 / (21 : Int32)) - (x1 / (21 : Int32)) / (21 : Int32) * (21 : Int32)) hq3) (cwV 2 hts gL_weights_X5_owner rfl rfl rfl e_X5_owner ⟨Nat.le_of_ble_eq_true rfl, Nat.le_of_ble_eq_true rfl⟩) hP hD hS hA pmN pmN.symm rfl rfl rfl rfl hl (Nat.le_of_ble_eq_true rfl) dL_weights_367 ⟨Nat.zero_le _, Nat.zero_le _⟩ rfl (fun H locs hP hD hS => ?_)
  refine lv_istore (lv' := [(13, .int r1), (8, .int y0), (0, .ref (a_p0.1 0)), (1, .int x1), (3, .long x3), (5, .int x5)]) hx hb dL_weights_370 hl (by decide) rfl (fun ls hl => ?_)
  refine lv_iload hx hb dL_weights_372 (lv_at hl 1 rfl) ?_
  refine lv_if_eq (tgt := 402) hx hb dL_weights_374 (by decide) (fun c4 => ?_) (fun c4 => ?_)
  · replace hf := brT c4 hf
    refine lv_iconst (v := (0 : Int32)) hx hb dL_weights_402 (by decide) ?_
    exact (t_L_weights_403 hC ) s2 x3 x5 (0 : Int32) hf _ _ hP hD hS _ (lv_sub hl [2, 4, 5] rfl)
  · replace hf := brF c4 hf
    refine lv_aload_n hx hb dL_weights_377 rfl (lv_at hl 2 rfl) ?_
    refine lv_iload_n hx hb dL_weights_378 rfl (lv_at hl 3 rfl) ?_
    refine lv_bipush (v := (21 : Int32)) hx hb dL_weights_379 (by decide) ?_
    refine lv_irem hx hb dL_weights_381 (by decide) ?_
    refine lv_iload_n hx hb dL_weights_382 rfl (lv_at hl 3 rfl) ?_
    refine lv_bipush (v := (21 : Int32)) hx hb dL_weights_383 (by decide) ?_
    refine lv_idiv hx hb dL_weights_385 (by decide) ?_
    refine lv_bipush (v := (21 : Int32)) hx hb dL_weights_386 (by decide) ?_
    refine lv_irem hx hb dL_weights_388 (by decide) ?_
    refine lv_iload hx hb dL_weights_389 (lv_at hl 0 rfl) ?_
    obtain ⟨r5, s6, hq7, hf⟩ := bnd2_of hf
    refine callX (As := [.int (x1 - x1 / (21 : Int32) * (21 : Int32)), .int ((x1 / (21 : Int32)) - (x1 / (21 : Int32)) / (21 : Int32) * (21 : Int32)), .int r1]) (rest := []) (ci := 5) (q0 := 0) (wr := ([])) (WB := (wB cI cJ cZ cQ a_p0 s6)) hx hb hml hown hts hK hN (b_X5_observe l D cI cJ cZ cQ a_p0 s2 (x1 - x1 / (21 : Int32) * (21 : Int32)) ((x1 / (21 : Int32)) - (x1 / (21 : Int32)) / (21 : Int32) * (21 : Int32)) r1 hq7) (cwV 3 hts gL_weights_X5_observe rfl rfl rfl e_X5_observe ⟨Nat.le_of_ble_eq_true rfl, Nat.le_of_ble_eq_true rfl⟩) hP hD hS hA pmN pmN.symm rfl rfl rfl rfl hl (Nat.le_of_ble_eq_true rfl) dL_weights_391 ⟨Nat.zero_le _, Nat.zero_le _⟩ rfl (fun H locs hP hD hS => ?_)
    refine lv_iconst (v := (1 : Int32)) hx hb dL_weights_394 (by decide) ?_
    refine lv_icmp_ne (tgt := 402) hx hb dL_weights_395 (by decide) (fun c8 => ?_) (fun c8 => ?_)
    · replace hf := brF c8 hf
      refine lv_iconst (v := (0 : Int32)) hx hb dL_weights_402 (by decide) ?_
      exact (t_L_weights_403 hC ) s6 x3 x5 (0 : Int32) hf _ _ hP hD hS _ (lv_sub hl [2, 4, 5] rfl)
    · replace hf := brT c8 hf
      refine lv_iconst (v := (1 : Int32)) hx hb dL_weights_398 (by decide) ?_
      refine lv_goto (tgt := 403) hx hb dL_weights_399 (by decide) ?_
      exact (t_L_weights_403 hC ) s6 x3 x5 (1 : Int32) hf _ _ hP hD hS _ (lv_sub hl [2, 4, 5] rfl)
set_option maxHeartbeats 4000000 in
set_option maxRecDepth 100000 in
theorem t_L_weights_317 {p : Program} {l : Launch} {e : Env} {s : State} {m : MethodId} {args : Array Value} {below : List Frame} {meth : Method} {c : Code} {A : Nat → Prop} {D : va_G} {cI cJ cZ cQ : ClassId} {a_p0 : AB} {res : R_L_weights}  (hC : mcx RL cL_weights (some .boolean) 15 wsL_weights p s m args meth c A D (tys4 cI cJ cZ cQ))  : S_L_weights_317 p l e s m args below meth c A D cI cJ cZ cQ a_p0 res (f_L_weights_317 ) := by
  intro s_p0 x1 x3 x5 y0 hf H locs hP hD hS ls hl
  obtain ⟨hx, hb, hr, hml, hown, hts, hlocks, hA, hK, hN⟩ := id hC
  unfold f_L_weights_317 at hf
  refine lv_istore (lv' := [(8, .int y0), (0, .ref (a_p0.1 0)), (1, .int x1), (3, .long x3), (5, .int x5)]) hx hb dL_weights_317 hl (by decide) rfl (fun ls hl => ?_)
  refine lv_aload_n hx hb dL_weights_319 rfl (lv_at hl 1 rfl) ?_
  obtain ⟨r1, s2, hq3, hf⟩ := bnd2_of hf
  refine callX (As := []) (rest := []) (ci := 5) (q0 := 0) (wr := ([])) (WB := (wB cI cJ cZ cQ a_p0 s2)) hx hb hml hown hts hK hN (b_X5_clearObservations l D cI cJ cZ cQ a_p0 s_p0  hq3) (cwV 0 hts gL_weights_X5_clearObservations rfl rfl rfl e_X5_clearObservations ⟨Nat.le_of_ble_eq_true rfl, Nat.le_of_ble_eq_true rfl⟩) hP hD hS hA pmN pmN.symm rfl rfl rfl rfl hl (Nat.le_of_ble_eq_true rfl) dL_weights_320 ⟨Nat.zero_le _, Nat.zero_le _⟩ rfl (fun H locs hP hD hS => ?_)
  refine lv_istore (lv' := [(12, .int r1), (8, .int y0), (0, .ref (a_p0.1 0)), (1, .int x1), (3, .long x3), (5, .int x5)]) hx hb dL_weights_323 hl (by decide) rfl (fun ls hl => ?_)
  refine lv_iload hx hb dL_weights_325 (lv_at hl 1 rfl) ?_
  refine lv_if_eq (tgt := 352) hx hb dL_weights_327 (by decide) (fun c4 => ?_) (fun c4 => ?_)
  · replace hf := brT c4 hf
    refine lv_iconst (v := (0 : Int32)) hx hb dL_weights_352 (by decide) ?_
    exact (t_L_weights_353 hC ) s2 x1 x3 x5 (0 : Int32) hf _ _ hP hD hS _ (lv_sub hl [2, 3, 4, 5] rfl)
  · replace hf := brF c4 hf
    refine lv_iload hx hb dL_weights_330 (lv_at hl 0 rfl) ?_
    refine lv_if_lt (tgt := 352) hx hb dL_weights_332 (by decide) (fun c5 => ?_) (fun c5 => ?_)
    · replace hf := brT c5 hf
      refine lv_iconst (v := (0 : Int32)) hx hb dL_weights_352 (by decide) ?_
      exact (t_L_weights_353 hC ) s2 x1 x3 x5 (0 : Int32) hf _ _ hP hD hS _ (lv_sub hl [2, 3, 4, 5] rfl)
    · replace hf := brF c5 hf
      refine lv_aload_n hx hb dL_weights_335 rfl (lv_at hl 2 rfl) ?_
      refine lv_iload hx hb dL_weights_336 (lv_at hl 5 rfl) ?_
      refine lv_iconst (v := (0 : Int32)) hx hb dL_weights_338 (by decide) ?_
      obtain ⟨r6, s7, hq8, hf⟩ := bnd2_of hf
      refine callX (As := [.int x5, .int (0 : Int32)]) (rest := []) (ci := 5) (q0 := 0) (wr := ([])) (WB := (wB cI cJ cZ cQ a_p0 s7)) hx hb hml hown hts hK hN (b_X5_possibleWeights l D cI cJ cZ cQ a_p0 s2 x5 (0 : Int32) hq8) (cwV 2 hts gL_weights_X5_possibleWeights rfl rfl rfl e_X5_possibleWeights ⟨Nat.le_of_ble_eq_true rfl, Nat.le_of_ble_eq_true rfl⟩) hP hD hS hA pmN pmN.symm rfl rfl rfl rfl hl (Nat.le_of_ble_eq_true rfl) dL_weights_339 ⟨Nat.zero_le _, Nat.zero_le _⟩ rfl (fun H locs hP hD hS => ?_)
      refine lv_sipush (v := (401 : Int32)) hx hb dL_weights_342 (by decide) ?_
      refine lv_icmp_ne (tgt := 352) hx hb dL_weights_345 (by decide) (fun c9 => ?_) (fun c9 => ?_)
      · replace hf := brF c9 hf
        refine lv_iconst (v := (0 : Int32)) hx hb dL_weights_352 (by decide) ?_
        exact (t_L_weights_353 hC ) s7 x1 x3 x5 (0 : Int32) hf _ _ hP hD hS _ (lv_sub hl [2, 3, 4, 5] rfl)
      · replace hf := brT c9 hf
        refine lv_iconst (v := (1 : Int32)) hx hb dL_weights_348 (by decide) ?_
        refine lv_goto (tgt := 353) hx hb dL_weights_349 (by decide) ?_
        exact (t_L_weights_353 hC ) s7 x1 x3 x5 (1 : Int32) hf _ _ hP hD hS _ (lv_sub hl [2, 3, 4, 5] rfl)
set_option maxHeartbeats 4000000 in
set_option maxRecDepth 100000 in
theorem t_L_weights_213 {p : Program} {l : Launch} {e : Env} {s : State} {m : MethodId} {args : Array Value} {below : List Frame} {meth : Method} {c : Code} {A : Nat → Prop} {D : va_G} {cI cJ cZ cQ : ClassId} {a_p0 : AB} {res : R_L_weights}  (hC : mcx RL cL_weights (some .boolean) 15 wsL_weights p s m args meth c A D (tys4 cI cJ cZ cQ))  : S_L_weights_213 p l e s m args below meth c A D cI cJ cZ cQ a_p0 res (f_L_weights_213 ) := by
  intro s_p0 x1 x3 x5 x8 hf H locs hP hD hS ls hl
  obtain ⟨hx, hb, hr, hml, hown, hts, hlocks, hA, hK, hN⟩ := id hC
  unfold f_L_weights_213 at hf
  refine lv_aload_n hx hb dL_weights_213 rfl (lv_at hl 0 rfl) ?_
  refine lv_iload hx hb dL_weights_214 (lv_at hl 3 rfl) ?_
  refine lv_iconst (v := (0 : Int32)) hx hb dL_weights_216 (by decide) ?_
  obtain ⟨r1, s2, hq3, hf⟩ := bnd2_of hf
  refine callX (As := [.int x5, .int (0 : Int32)]) (rest := []) (ci := 5) (q0 := 0) (wr := ([])) (WB := (wB cI cJ cZ cQ a_p0 s2)) hx hb hml hown hts hK hN (b_X5_possibleWeights l D cI cJ cZ cQ a_p0 s_p0 x5 (0 : Int32) hq3) (cwV 2 hts gL_weights_X5_possibleWeights rfl rfl rfl e_X5_possibleWeights ⟨Nat.le_of_ble_eq_true rfl, Nat.le_of_ble_eq_true rfl⟩) hP hD hS hA pmN pmN.symm rfl rfl rfl rfl hl (Nat.le_of_ble_eq_true rfl) dL_weights_217 ⟨Nat.zero_le _, Nat.zero_le _⟩ rfl (fun H locs hP hD hS => ?_)
  refine lv_istore (lv' := [(9, .int r1), (0, .ref (a_p0.1 0)), (1, .int x1), (3, .long x3), (5, .int x5), (8, .int x8)]) hx hb dL_weights_220 hl (by decide) rfl (fun ls hl => ?_)
  refine lv_aload_n hx hb dL_weights_222 rfl (lv_at hl 1 rfl) ?_
  refine lv_iload hx hb dL_weights_223 (lv_at hl 4 rfl) ?_
  refine lv_iconst (v := (1 : Int32)) hx hb dL_weights_225 (by decide) ?_
  obtain ⟨r4, s5, hq6, hf⟩ := bnd2_of hf
  refine callX (As := [.int x5, .int (1 : Int32)]) (rest := []) (ci := 5) (q0 := 0) (wr := ([])) (WB := (wB cI cJ cZ cQ a_p0 s5)) hx hb hml hown hts hK hN (b_X5_possibleWeights l D cI cJ cZ cQ a_p0 s2 x5 (1 : Int32) hq6) (cwV 2 hts gL_weights_X5_possibleWeights rfl rfl rfl e_X5_possibleWeights ⟨Nat.le_of_ble_eq_true rfl, Nat.le_of_ble_eq_true rfl⟩) hP hD hS hA pmN pmN.symm rfl rfl rfl rfl hl (Nat.le_of_ble_eq_true rfl) dL_weights_226 ⟨Nat.zero_le _, Nat.zero_le _⟩ rfl (fun H locs hP hD hS => ?_)
  refine lv_istore (lv' := [(10, .int r4), (9, .int r1), (0, .ref (a_p0.1 0)), (1, .int x1), (3, .long x3), (5, .int x5), (8, .int x8)]) hx hb dL_weights_229 hl (by decide) rfl (fun ls hl => ?_)
  refine lv_aload_n hx hb dL_weights_231 rfl (lv_at hl 2 rfl) ?_
  refine lv_iload hx hb dL_weights_232 (lv_at hl 5 rfl) ?_
  refine lv_iconst (v := (2 : Int32)) hx hb dL_weights_234 (by decide) ?_
  obtain ⟨r7, s8, hq9, hf⟩ := bnd2_of hf
  refine callX (As := [.int x5, .int (2 : Int32)]) (rest := []) (ci := 5) (q0 := 0) (wr := ([])) (WB := (wB cI cJ cZ cQ a_p0 s8)) hx hb hml hown hts hK hN (b_X5_possibleWeights l D cI cJ cZ cQ a_p0 s5 x5 (2 : Int32) hq9) (cwV 2 hts gL_weights_X5_possibleWeights rfl rfl rfl e_X5_possibleWeights ⟨Nat.le_of_ble_eq_true rfl, Nat.le_of_ble_eq_true rfl⟩) hP hD hS hA pmN pmN.symm rfl rfl rfl rfl hl (Nat.le_of_ble_eq_true rfl) dL_weights_235 ⟨Nat.zero_le _, Nat.zero_le _⟩ rfl (fun H locs hP hD hS => ?_)
  refine lv_istore (lv' := [(11, .int r7), (10, .int r4), (9, .int r1), (0, .ref (a_p0.1 0)), (1, .int x1), (3, .long x3), (5, .int x5), (8, .int x8)]) hx hb dL_weights_238 hl (by decide) rfl (fun ls hl => ?_)
  refine lv_iload hx hb dL_weights_240 (lv_at hl 7 rfl) ?_
  refine lv_if_eq (tgt := 316) hx hb dL_weights_242 (by decide) (fun c10 => ?_) (fun c10 => ?_)
  · replace hf := brT c10 hf
    refine lv_iconst (v := (0 : Int32)) hx hb dL_weights_316 (by decide) ?_
    exact (t_L_weights_317 hC ) s8 x1 x3 x5 (0 : Int32) hf _ _ hP hD hS _ (lv_sub hl [3, 4, 5, 6] rfl)
  · replace hf := brF c10 hf
    refine lv_iload hx hb dL_weights_245 (lv_at hl 2 rfl) ?_
    refine lv_if_lt (tgt := 316) hx hb dL_weights_247 (by decide) (fun c11 => ?_) (fun c11 => ?_)
    · replace hf := brT c11 hf
      refine lv_iconst (v := (0 : Int32)) hx hb dL_weights_316 (by decide) ?_
      exact (t_L_weights_317 hC ) s8 x1 x3 x5 (0 : Int32) hf _ _ hP hD hS _ (lv_sub hl [3, 4, 5, 6] rfl)
    · replace hf := brF c11 hf
      refine lv_iload hx hb dL_weights_250 (lv_at hl 2 rfl) ?_
      refine lv_sipush (v := (401 : Int32)) hx hb dL_weights_252 (by decide) ?_
      refine lv_icmp_gt (tgt := 316) hx hb dL_weights_255 (by decide) (fun c12 => ?_) (fun c12 => ?_)
      · replace hf := brT c12 hf
        refine lv_iconst (v := (0 : Int32)) hx hb dL_weights_316 (by decide) ?_
        exact (t_L_weights_317 hC ) s8 x1 x3 x5 (0 : Int32) hf _ _ hP hD hS _ (lv_sub hl [3, 4, 5, 6] rfl)
      · replace hf := brF c12 hf
        refine lv_iload hx hb dL_weights_258 (lv_at hl 2 rfl) ?_
        refine lv_if_ne (tgt := 280) hx hb dL_weights_260 (by decide) (fun c13 => ?_) (fun c13 => ?_)
        · replace hf := brF c13 hf
          refine lv_iload hx hb dL_weights_280 (lv_at hl 1 rfl) ?_
          refine lv_if_lt (tgt := 316) hx hb dL_weights_282 (by decide) (fun c14 => ?_) (fun c14 => ?_)
          · replace hf := brT c14 hf
            refine lv_iconst (v := (0 : Int32)) hx hb dL_weights_316 (by decide) ?_
            exact (t_L_weights_317 hC ) s8 x1 x3 x5 (0 : Int32) hf _ _ hP hD hS _ (lv_sub hl [3, 4, 5, 6] rfl)
          · replace hf := brF c14 hf
            refine lv_iload hx hb dL_weights_285 (lv_at hl 1 rfl) ?_
            refine lv_iload hx hb dL_weights_287 (lv_at hl 0 rfl) ?_
            refine lv_icmp_gt (tgt := 316) hx hb dL_weights_289 (by decide) (fun c15 => ?_) (fun c15 => ?_)
            · replace hf := brT c15 hf
              refine lv_iconst (v := (0 : Int32)) hx hb dL_weights_316 (by decide) ?_
              exact (t_L_weights_317 hC ) s8 x1 x3 x5 (0 : Int32) hf _ _ hP hD hS _ (lv_sub hl [3, 4, 5, 6] rfl)
            · replace hf := brF c15 hf
              refine lv_iload hx hb dL_weights_292 (lv_at hl 0 rfl) ?_
              refine lv_sipush (v := (400 : Int32)) hx hb dL_weights_294 (by decide) ?_
              refine lv_icmp_gt (tgt := 316) hx hb dL_weights_297 (by decide) (fun c16 => ?_) (fun c16 => ?_)
              · replace hf := brT c16 hf
                refine lv_iconst (v := (0 : Int32)) hx hb dL_weights_316 (by decide) ?_
                exact (t_L_weights_317 hC ) s8 x1 x3 x5 (0 : Int32) hf _ _ hP hD hS _ (lv_sub hl [3, 4, 5, 6] rfl)
              · replace hf := brF c16 hf
                refine lv_iload hx hb dL_weights_300 (lv_at hl 2 rfl) ?_
                refine lv_iload hx hb dL_weights_302 (lv_at hl 0 rfl) ?_
                refine lv_iload hx hb dL_weights_304 (lv_at hl 1 rfl) ?_
                refine lv_isub hx hb dL_weights_306 ?_
                refine lv_iconst (v := (1 : Int32)) hx hb dL_weights_307 (by decide) ?_
                refine lv_iadd hx hb dL_weights_308 ?_
                refine lv_icmp_gt (tgt := 316) hx hb dL_weights_309 (by decide) (fun c17 => ?_) (fun c17 => ?_)
                · replace hf := brT c17 hf
                  refine lv_iconst (v := (0 : Int32)) hx hb dL_weights_316 (by decide) ?_
                  exact (t_L_weights_317 hC ) s8 x1 x3 x5 (0 : Int32) hf _ _ hP hD hS _ (lv_sub hl [3, 4, 5, 6] rfl)
                · replace hf := brF c17 hf
                  refine lv_iconst (v := (1 : Int32)) hx hb dL_weights_312 (by decide) ?_
                  refine lv_goto (tgt := 317) hx hb dL_weights_313 (by decide) ?_
                  exact (t_L_weights_317 hC ) s8 x1 x3 x5 (1 : Int32) hf _ _ hP hD hS _ (lv_sub hl [3, 4, 5, 6] rfl)
        · replace hf := brT c13 hf
          refine lv_iload hx hb dL_weights_263 (lv_at hl 1 rfl) ?_
          refine lv_bipush (v := (-9 : Int32)) hx hb dL_weights_265 (by decide) ?_
          refine lv_icmp_ne (tgt := 316) hx hb dL_weights_267 (by decide) (fun c18 => ?_) (fun c18 => ?_)
          · replace hf := brF c18 hf
            refine lv_iconst (v := (0 : Int32)) hx hb dL_weights_316 (by decide) ?_
            exact (t_L_weights_317 hC ) s8 x1 x3 x5 (0 : Int32) hf _ _ hP hD hS _ (lv_sub hl [3, 4, 5, 6] rfl)
          · replace hf := brT c18 hf
            refine lv_iload hx hb dL_weights_270 (lv_at hl 0 rfl) ?_
            refine lv_bipush (v := (-9 : Int32)) hx hb dL_weights_272 (by decide) ?_
            refine lv_icmp_ne (tgt := 316) hx hb dL_weights_274 (by decide) (fun c19 => ?_) (fun c19 => ?_)
            · replace hf := brF c19 hf
              refine lv_iconst (v := (0 : Int32)) hx hb dL_weights_316 (by decide) ?_
              exact (t_L_weights_317 hC ) s8 x1 x3 x5 (0 : Int32) hf _ _ hP hD hS _ (lv_sub hl [3, 4, 5, 6] rfl)
            · replace hf := brT c19 hf
              refine lv_goto (tgt := 312) hx hb dL_weights_277 (by decide) ?_
              refine lv_iconst (v := (1 : Int32)) hx hb dL_weights_312 (by decide) ?_
              refine lv_goto (tgt := 317) hx hb dL_weights_313 (by decide) ?_
              exact (t_L_weights_317 hC ) s8 x1 x3 x5 (1 : Int32) hf _ _ hP hD hS _ (lv_sub hl [3, 4, 5, 6] rfl)
set_option maxHeartbeats 4000000 in
set_option maxRecDepth 100000 in
theorem t_L_weights_163 {p : Program} {l : Launch} {e : Env} {s : State} {m : MethodId} {args : Array Value} {below : List Frame} {meth : Method} {c : Code} {A : Nat → Prop} {D : va_G} {cI cJ cZ cQ : ClassId} {a_p0 : AB} {res : R_L_weights}  (hC : mcx RL cL_weights (some .boolean) 15 wsL_weights p s m args meth c A D (tys4 cI cJ cZ cQ))  : S_L_weights_163 p l e s m args below meth c A D cI cJ cZ cQ a_p0 res (f_L_weights_163 ) := by
  intro s_p0 x1 x3 x5 x6 x7 y0 hf H locs hP hD hS ls hl
  obtain ⟨hx, hb, hr, hml, hown, hts, hlocks, hA, hK, hN⟩ := id hC
  unfold f_L_weights_163 at hf
  refine lv_istore (lv' := [(8, .int y0), (0, .ref (a_p0.1 0)), (1, .int x1), (3, .long x3), (5, .int x5), (6, .int x6), (7, .int x7)]) hx hb dL_weights_163 hl (by decide) rfl (fun ls hl => ?_)
  refine lv_iload hx hb dL_weights_165 (lv_at hl 0 rfl) ?_
  refine lv_if_eq (tgt := 210) hx hb dL_weights_167 (by decide) (fun c1 => ?_) (fun c1 => ?_)
  · replace hf := brT c1 hf
    refine lv_iconst (v := (0 : Int32)) hx hb dL_weights_210 (by decide) ?_
    refine lv_istore (lv' := [(8, .int (0 : Int32)), (0, .ref (a_p0.1 0)), (1, .int x1), (3, .long x3), (5, .int x5), (6, .int x6), (7, .int x7)]) hx hb dL_weights_211 hl (by decide) rfl (fun ls hl => ?_)
    exact (t_L_weights_213 hC ) s_p0 x1 x3 x5 (0 : Int32) hf _ _ hP hD hS _ (lv_sub hl [1, 2, 3, 4, 0] rfl)
  · replace hf := brF c1 hf
    refine lv_iload hx hb dL_weights_170 (lv_at hl 6 rfl) ?_
    refine lv_if_eq (tgt := 206) hx hb dL_weights_172 (by decide) (fun c2 => ?_) (fun c2 => ?_)
    · replace hf := brT c2 hf
      refine lv_iconst (v := (1 : Int32)) hx hb dL_weights_206 (by decide) ?_
      refine lv_goto (tgt := 211) hx hb dL_weights_207 (by decide) ?_
      refine lv_istore (lv' := [(8, .int (1 : Int32)), (0, .ref (a_p0.1 0)), (1, .int x1), (3, .long x3), (5, .int x5), (6, .int x6), (7, .int x7)]) hx hb dL_weights_211 hl (by decide) rfl (fun ls hl => ?_)
      exact (t_L_weights_213 hC ) s_p0 x1 x3 x5 (1 : Int32) hf _ _ hP hD hS _ (lv_sub hl [1, 2, 3, 4, 0] rfl)
    · replace hf := brF c2 hf
      refine lv_aload_n hx hb dL_weights_175 rfl (lv_at hl 1 rfl) ?_
      refine lv_iload hx hb dL_weights_176 (lv_at hl 4 rfl) ?_
      refine lv_iload hx hb dL_weights_178 (lv_at hl 6 rfl) ?_
      refine lv_iconst (v := (1 : Int32)) hx hb dL_weights_180 (by decide) ?_
      refine lv_isub hx hb dL_weights_181 ?_
      obtain ⟨r3, s4, hq5, hf⟩ := bnd2_of hf
      refine callX (As := [.int x5, .int (x7 - (1 : Int32))]) (rest := []) (ci := 5) (q0 := 0) (wr := ([])) (WB := (wB cI cJ cZ cQ a_p0 s4)) hx hb hml hown hts hK hN (b_X5_setWeight l D cI cJ cZ cQ a_p0 s_p0 x5 (x7 - (1 : Int32)) hq5) (cwV 2 hts gL_weights_X5_setWeight rfl rfl rfl e_X5_setWeight ⟨Nat.le_of_ble_eq_true rfl, Nat.le_of_ble_eq_true rfl⟩) hP hD hS hA pmN pmN.symm rfl rfl rfl rfl hl (Nat.le_of_ble_eq_true rfl) dL_weights_182 ⟨Nat.zero_le _, Nat.zero_le _⟩ rfl (fun H locs hP hD hS => ?_)
      refine lv_if_lt (tgt := 210) hx hb dL_weights_185 (by decide) (fun c6 => ?_) (fun c6 => ?_)
      · replace hf := brT c6 hf
        refine lv_iconst (v := (0 : Int32)) hx hb dL_weights_210 (by decide) ?_
        refine lv_istore (lv' := [(8, .int (0 : Int32)), (0, .ref (a_p0.1 0)), (1, .int x1), (3, .long x3), (5, .int x5), (6, .int x6), (7, .int x7)]) hx hb dL_weights_211 hl (by decide) rfl (fun ls hl => ?_)
        exact (t_L_weights_213 hC ) s4 x1 x3 x5 (0 : Int32) hf _ _ hP hD hS _ (lv_sub hl [1, 2, 3, 4, 0] rfl)
      · replace hf := brF c6 hf
        refine lv_aload_n hx hb dL_weights_188 rfl (lv_at hl 1 rfl) ?_
        refine lv_iload hx hb dL_weights_189 (lv_at hl 4 rfl) ?_
        obtain ⟨r7, s8, hq9, hf⟩ := bnd2_of hf
        refine callX (As := [.int x5]) (rest := []) (ci := 5) (q0 := 0) (wr := ([])) (WB := (wB cI cJ cZ cQ a_p0 s8)) hx hb hml hown hts hK hN (b_X5_size l D cI cJ cZ cQ a_p0 s4 x5 hq9) (cwV 1 hts gL_weights_X5_size rfl rfl rfl e_X5_size ⟨Nat.le_of_ble_eq_true rfl, Nat.le_of_ble_eq_true rfl⟩) hP hD hS hA pmN pmN.symm rfl rfl rfl rfl hl (Nat.le_of_ble_eq_true rfl) dL_weights_191 ⟨Nat.zero_le _, Nat.zero_le _⟩ rfl (fun H locs hP hD hS => ?_)
        refine lv_iload hx hb dL_weights_194 (lv_at hl 5 rfl) ?_
        refine lv_icmp_ge (tgt := 210) hx hb dL_weights_196 (by decide) (fun c10 => ?_) (fun c10 => ?_)
        · replace hf := brT c10 hf
          refine lv_iconst (v := (0 : Int32)) hx hb dL_weights_210 (by decide) ?_
          refine lv_istore (lv' := [(8, .int (0 : Int32)), (0, .ref (a_p0.1 0)), (1, .int x1), (3, .long x3), (5, .int x5), (6, .int x6), (7, .int x7)]) hx hb dL_weights_211 hl (by decide) rfl (fun ls hl => ?_)
          exact (t_L_weights_213 hC ) s8 x1 x3 x5 (0 : Int32) hf _ _ hP hD hS _ (lv_sub hl [1, 2, 3, 4, 0] rfl)
        · replace hf := brF c10 hf
          refine lv_aload_n hx hb dL_weights_199 rfl (lv_at hl 1 rfl) ?_
          obtain ⟨r11, s12, hq13, hf⟩ := bnd2_of hf
          refine callX (As := []) (rest := []) (ci := 5) (q0 := 0) (wr := ([])) (WB := (wB cI cJ cZ cQ a_p0 s12)) hx hb hml hown hts hK hN (b_X5_undo l D cI cJ cZ cQ a_p0 s8  hq13) (cwV 0 hts gL_weights_X5_undo rfl rfl rfl e_X5_undo ⟨Nat.le_of_ble_eq_true rfl, Nat.le_of_ble_eq_true rfl⟩) hP hD hS hA pmN pmN.symm rfl rfl rfl rfl hl (Nat.le_of_ble_eq_true rfl) dL_weights_200 ⟨Nat.zero_le _, Nat.zero_le _⟩ rfl (fun H locs hP hD hS => ?_)
          refine lv_if_lt (tgt := 210) hx hb dL_weights_203 (by decide) (fun c14 => ?_) (fun c14 => ?_)
          · replace hf := brT c14 hf
            refine lv_iconst (v := (0 : Int32)) hx hb dL_weights_210 (by decide) ?_
            refine lv_istore (lv' := [(8, .int (0 : Int32)), (0, .ref (a_p0.1 0)), (1, .int x1), (3, .long x3), (5, .int x5), (6, .int x6), (7, .int x7)]) hx hb dL_weights_211 hl (by decide) rfl (fun ls hl => ?_)
            exact (t_L_weights_213 hC ) s12 x1 x3 x5 (0 : Int32) hf _ _ hP hD hS _ (lv_sub hl [1, 2, 3, 4, 0] rfl)
          · replace hf := brF c14 hf
            refine lv_iconst (v := (1 : Int32)) hx hb dL_weights_206 (by decide) ?_
            refine lv_goto (tgt := 211) hx hb dL_weights_207 (by decide) ?_
            refine lv_istore (lv' := [(8, .int (1 : Int32)), (0, .ref (a_p0.1 0)), (1, .int x1), (3, .long x3), (5, .int x5), (6, .int x6), (7, .int x7)]) hx hb dL_weights_211 hl (by decide) rfl (fun ls hl => ?_)
            exact (t_L_weights_213 hC ) s12 x1 x3 x5 (1 : Int32) hf _ _ hP hD hS _ (lv_sub hl [1, 2, 3, 4, 0] rfl)
set_option maxHeartbeats 4000000 in
set_option maxRecDepth 100000 in
theorem t_L_weights_0 {p : Program} {l : Launch} {e : Env} {s : State} {m : MethodId} {args : Array Value} {below : List Frame} {meth : Method} {c : Code} {A : Nat → Prop} {D : va_G} {cI cJ cZ cQ : ClassId} {a_p0 : AB} {res : R_L_weights}  (hC : mcx RL cL_weights (some .boolean) 15 wsL_weights p s m args meth c A D (tys4 cI cJ cZ cQ))  : S_L_weights_0 p l e s m args below meth c A D cI cJ cZ cQ a_p0 res (f_L_weights_0 ) := by
  intro s_p0 x1 hf H locs hP hD hS ls hl
  obtain ⟨hx, hb, hr, hml, hown, hts, hlocks, hA, hK, hN⟩ := id hC
  unfold f_L_weights_0 at hf
  refine lv_aload_n hx hb dL_weights_0 rfl (lv_at hl 0 rfl) ?_
  obtain ⟨r1, s2, hq3, hf⟩ := bnd2_of hf
  refine callX (As := []) (rest := []) (ci := 5) (q0 := 0) (wr := ([])) (WB := (wB cI cJ cZ cQ a_p0 s2)) hx hb hml hown hts hK hN (b_X5_siteCount l D cI cJ cZ cQ a_p0 s_p0  hq3) (cwV 0 hts gL_weights_X5_siteCount rfl rfl rfl e_X5_siteCount ⟨Nat.le_of_ble_eq_true rfl, Nat.le_of_ble_eq_true rfl⟩) hP hD hS hA pmN pmN.symm rfl rfl rfl rfl hl (Nat.le_of_ble_eq_true rfl) dL_weights_1 ⟨Nat.zero_le _, Nat.zero_le _⟩ rfl (fun H locs hP hD hS => ?_)
  refine lv_istore_n (lv' := [(2, .int r1), (0, .ref (a_p0.1 0)), (1, .int x1)]) hx hb dL_weights_4 rfl hl (by decide) rfl (fun ls hl => ?_)
  refine lv_iload_n hx hb dL_weights_5 rfl (lv_at hl 0 rfl) ?_
  refine lv_if_ne (tgt := 11) hx hb dL_weights_6 (by decide) (fun c4 => ?_) (fun c4 => ?_)
  · replace hf := brF c4 hf
    refine lv_aload_n hx hb dL_weights_11 rfl (lv_at hl 1 rfl) ?_
    obtain ⟨r5, s6, hq7, hf⟩ := bnd2_of hf
    refine callSL (As := [.ref (a_p0.1 0)]) (rest := []) (wr := ([])) (WB := (wB cI cJ cZ cQ a_p0 s6)) hx hb hml hown hts hK hN (c_L_state l D cI cJ cZ cQ a_p0 s2  hq7) (va_cwS 1 hts gL_weights_L_state rfl rfl rfl e_L_state ⟨Nat.le_of_ble_eq_true rfl, Nat.le_of_ble_eq_true rfl⟩) hP hD hS hA pmN pmN.symm rfl hl (Nat.le_of_ble_eq_true rfl) dL_weights_12 ⟨Nat.zero_le _, Nat.zero_le _⟩ rfl (fun H locs hP hD hS => ?_)
    refine lv_lstore_n (lv' := [(3, .long r5), (2, .int r1), (0, .ref (a_p0.1 0)), (1, .int x1)]) hx hb dL_weights_15 rfl hl (by decide) rfl (fun ls hl => ?_)
    refine lv_iload_n hx hb dL_weights_16 rfl (lv_at hl 3 rfl) ?_
    refine lv_iload_n hx hb dL_weights_17 rfl (lv_at hl 1 rfl) ?_
    obtain ⟨hz8, hf⟩ := gNz_of hf
    refine lv_irem hx hb dL_weights_18 hz8 ?_
    refine lv_topi (fun v9 ev9 => ?_)
    replace hf := nm_of ev9 hf
    refine lv_istore (lv' := [(5, .int v9), (3, .long r5), (2, .int r1), (0, .ref (a_p0.1 0)), (1, .int x1)]) hx hb dL_weights_19 hl (by decide) rfl (fun ls hl => ?_)
    refine lv_iload_n hx hb dL_weights_21 rfl (lv_at hl 4 rfl) ?_
    refine lv_bipush (v := (10 : Int32)) hx hb dL_weights_22 (by decide) ?_
    refine lv_idiv hx hb dL_weights_24 (by decide) ?_
    refine lv_sipush (v := (442 : Int32)) hx hb dL_weights_25 (by decide) ?_
    refine lv_irem hx hb dL_weights_28 (by decide) ?_
    refine lv_topi (fun v10 ev10 => ?_)
    replace hf := nm_of ev10 hf
    refine lv_istore (lv' := [(6, .int v10), (5, .int v9), (3, .long r5), (2, .int r1), (0, .ref (a_p0.1 0)), (1, .int x1)]) hx hb dL_weights_29 hl (by decide) rfl (fun ls hl => ?_)
    refine lv_aload_n hx hb dL_weights_31 rfl (lv_at hl 4 rfl) ?_
    refine lv_iload hx hb dL_weights_32 (lv_at hl 1 rfl) ?_
    refine lv_iload hx hb dL_weights_34 (lv_at hl 0 rfl) ?_
    obtain ⟨r11, s12, hq13, hf⟩ := bnd2_of hf
    refine callX (As := [.int v9, .int v10]) (rest := []) (ci := 5) (q0 := 0) (wr := ([])) (WB := (wB cI cJ cZ cQ a_p0 s12)) hx hb hml hown hts hK hN (b_X5_weightForSize l D cI cJ cZ cQ a_p0 s6 v9 v10 hq13) (cwV 2 hts gL_weights_X5_weightForSize rfl rfl rfl e_X5_weightForSize ⟨Nat.le_of_ble_eq_true rfl, Nat.le_of_ble_eq_true rfl⟩) hP hD hS hA pmN pmN.symm rfl rfl rfl rfl hl (Nat.le_of_ble_eq_true rfl) dL_weights_36 ⟨Nat.zero_le _, Nat.zero_le _⟩ rfl (fun H locs hP hD hS => ?_)
    refine lv_istore (lv' := [(7, .int r11), (6, .int v10), (5, .int v9), (3, .long r5), (2, .int r1), (0, .ref (a_p0.1 0)), (1, .int x1)]) hx hb dL_weights_39 hl (by decide) rfl (fun ls hl => ?_)
    refine lv_iconst (v := (1 : Int32)) hx hb dL_weights_41 (by decide) ?_
    refine lv_istore (lv' := [(8, .int (1 : Int32)), (7, .int r11), (6, .int v10), (5, .int v9), (3, .long r5), (2, .int r1), (0, .ref (a_p0.1 0)), (1, .int x1)]) hx hb dL_weights_42 hl (by decide) rfl (fun ls hl => ?_)
    refine lv_iload hx hb dL_weights_44 (lv_at hl 1 rfl) ?_
    refine lv_bipush (v := (-9 : Int32)) hx hb dL_weights_46 (by decide) ?_
    refine lv_icmp_ne (tgt := 91) hx hb dL_weights_48 (by decide) (fun c14 => ?_) (fun c14 => ?_)
    · replace hf := brF c14 hf
      refine lv_iload hx hb dL_weights_91 (lv_at hl 1 rfl) ?_
      refine lv_if_lt (tgt := 162) hx hb dL_weights_93 (by decide) (fun c15 => ?_) (fun c15 => ?_)
      · replace hf := brT c15 hf
        refine lv_iconst (v := (0 : Int32)) hx hb dL_weights_162 (by decide) ?_
        exact (t_L_weights_163 hC ) s12 x1 r5 v9 v10 r11 (0 : Int32) hf _ _ hP hD hS _ (lv_sub hl [6, 7, 4, 3, 2, 1] rfl)
      · replace hf := brF c15 hf
        refine lv_iload hx hb dL_weights_96 (lv_at hl 1 rfl) ?_
        refine lv_sipush (v := (400 : Int32)) hx hb dL_weights_98 (by decide) ?_
        refine lv_icmp_gt (tgt := 162) hx hb dL_weights_101 (by decide) (fun c16 => ?_) (fun c16 => ?_)
        · replace hf := brT c16 hf
          refine lv_iconst (v := (0 : Int32)) hx hb dL_weights_162 (by decide) ?_
          exact (t_L_weights_163 hC ) s12 x1 r5 v9 v10 r11 (0 : Int32) hf _ _ hP hD hS _ (lv_sub hl [6, 7, 4, 3, 2, 1] rfl)
        · replace hf := brF c16 hf
          refine lv_aload_n hx hb dL_weights_104 rfl (lv_at hl 6 rfl) ?_
          refine lv_iload hx hb dL_weights_105 (lv_at hl 3 rfl) ?_
          refine lv_iload hx hb dL_weights_107 (lv_at hl 1 rfl) ?_
          obtain ⟨r17, s18, hq19, hf⟩ := bnd2_of hf
          refine callX (As := [.int v9, .int r11]) (rest := []) (ci := 5) (q0 := 0) (wr := ([])) (WB := (wB cI cJ cZ cQ a_p0 s18)) hx hb hml hown hts hK hN (b_X5_setWeight l D cI cJ cZ cQ a_p0 s12 v9 r11 hq19) (cwV 2 hts gL_weights_X5_setWeight rfl rfl rfl e_X5_setWeight ⟨Nat.le_of_ble_eq_true rfl, Nat.le_of_ble_eq_true rfl⟩) hP hD hS hA pmN pmN.symm rfl rfl rfl rfl hl (Nat.le_of_ble_eq_true rfl) dL_weights_109 ⟨Nat.zero_le _, Nat.zero_le _⟩ rfl (fun H locs hP hD hS => ?_)
          refine lv_if_lt (tgt := 162) hx hb dL_weights_112 (by decide) (fun c20 => ?_) (fun c20 => ?_)
          · replace hf := brT c20 hf
            refine lv_iconst (v := (0 : Int32)) hx hb dL_weights_162 (by decide) ?_
            exact (t_L_weights_163 hC ) s18 x1 r5 v9 v10 r11 (0 : Int32) hf _ _ hP hD hS _ (lv_sub hl [6, 7, 4, 3, 2, 1] rfl)
          · replace hf := brF c20 hf
            refine lv_aload_n hx hb dL_weights_115 rfl (lv_at hl 6 rfl) ?_
            refine lv_iload hx hb dL_weights_116 (lv_at hl 3 rfl) ?_
            obtain ⟨r21, s22, hq23, hf⟩ := bnd2_of hf
            refine callX (As := [.int v9]) (rest := []) (ci := 5) (q0 := 0) (wr := ([])) (WB := (wB cI cJ cZ cQ a_p0 s22)) hx hb hml hown hts hK hN (b_X5_size l D cI cJ cZ cQ a_p0 s18 v9 hq23) (cwV 1 hts gL_weights_X5_size rfl rfl rfl e_X5_size ⟨Nat.le_of_ble_eq_true rfl, Nat.le_of_ble_eq_true rfl⟩) hP hD hS hA pmN pmN.symm rfl rfl rfl rfl hl (Nat.le_of_ble_eq_true rfl) dL_weights_118 ⟨Nat.zero_le _, Nat.zero_le _⟩ rfl (fun H locs hP hD hS => ?_)
            refine lv_iload hx hb dL_weights_121 (lv_at hl 2 rfl) ?_
            refine lv_icmp_lt (tgt := 162) hx hb dL_weights_123 (by decide) (fun c24 => ?_) (fun c24 => ?_)
            · replace hf := brT c24 hf
              refine lv_iconst (v := (0 : Int32)) hx hb dL_weights_162 (by decide) ?_
              exact (t_L_weights_163 hC ) s22 x1 r5 v9 v10 r11 (0 : Int32) hf _ _ hP hD hS _ (lv_sub hl [6, 7, 4, 3, 2, 1] rfl)
            · replace hf := brF c24 hf
              refine lv_aload_n hx hb dL_weights_126 rfl (lv_at hl 6 rfl) ?_
              refine lv_iconst (v := (1 : Int32)) hx hb dL_weights_127 (by decide) ?_
              refine lv_ldc2 (v := (60000 : Int64)) hx hb hown (hts (.constantLong RL 141 (60000)) (List.mem_of_getElem? (i := 1) rfl)) dL_weights_128 ?_
              refine lv_sipush (v := (1000 : Int32)) hx hb dL_weights_131 (by decide) ?_
              refine lv_iload hx hb dL_weights_134 (lv_at hl 3 rfl) ?_
              refine lv_imul hx hb dL_weights_136 ?_
              refine lv_i2l (v := ((1000 : Int32) * v9).toInt64) hx hb dL_weights_137 rfl ?_
              refine lv_ladd hx hb dL_weights_138 ?_
              refine lv_iload hx hb dL_weights_139 (lv_at hl 2 rfl) ?_
              refine lv_i2l (v := v10.toInt64) hx hb dL_weights_141 rfl ?_
              refine lv_ladd hx hb dL_weights_142 ?_
              obtain ⟨r25, s26, hq27, hf⟩ := bnd2_of hf
              refine callX (As := [.int (1 : Int32), .long (((60000 : Int64) + ((1000 : Int32) * v9).toInt64) + v10.toInt64)]) (rest := []) (ci := 5) (q0 := 0) (wr := ([])) (WB := (wB cI cJ cZ cQ a_p0 s26)) hx hb hml hown hts hK hN (b_X5_runScript l D cI cJ cZ cQ a_p0 s22 (1 : Int32) (((60000 : Int64) + ((1000 : Int32) * v9).toInt64) + v10.toInt64) hq27) (cwV 2 hts gL_weights_X5_runScript rfl rfl rfl e_X5_runScript ⟨Nat.le_of_ble_eq_true rfl, Nat.le_of_ble_eq_true rfl⟩) hP hD hS hA pmN pmN.symm rfl rfl rfl rfl hl (Nat.le_of_ble_eq_true rfl) dL_weights_143 ⟨Nat.zero_le _, Nat.zero_le _⟩ rfl (fun H locs hP hD hS => ?_)
              refine lv_bipush (v := (-9 : Int32)) hx hb dL_weights_146 (by decide) ?_
              refine lv_icmp_ne (tgt := 162) hx hb dL_weights_148 (by decide) (fun c28 => ?_) (fun c28 => ?_)
              · replace hf := brF c28 hf
                refine lv_iconst (v := (0 : Int32)) hx hb dL_weights_162 (by decide) ?_
                exact (t_L_weights_163 hC ) s26 x1 r5 v9 v10 r11 (0 : Int32) hf _ _ hP hD hS _ (lv_sub hl [6, 7, 4, 3, 2, 1] rfl)
              · replace hf := brT c28 hf
                refine lv_aload_n hx hb dL_weights_151 rfl (lv_at hl 6 rfl) ?_
                obtain ⟨r29, s30, hq31, hf⟩ := bnd2_of hf
                refine callX (As := []) (rest := []) (ci := 5) (q0 := 0) (wr := ([])) (WB := (wB cI cJ cZ cQ a_p0 s30)) hx hb hml hown hts hK hN (b_X5_undo l D cI cJ cZ cQ a_p0 s26  hq31) (cwV 0 hts gL_weights_X5_undo rfl rfl rfl e_X5_undo ⟨Nat.le_of_ble_eq_true rfl, Nat.le_of_ble_eq_true rfl⟩) hP hD hS hA pmN pmN.symm rfl rfl rfl rfl hl (Nat.le_of_ble_eq_true rfl) dL_weights_152 ⟨Nat.zero_le _, Nat.zero_le _⟩ rfl (fun H locs hP hD hS => ?_)
                refine lv_if_lt (tgt := 162) hx hb dL_weights_155 (by decide) (fun c32 => ?_) (fun c32 => ?_)
                · replace hf := brT c32 hf
                  refine lv_iconst (v := (0 : Int32)) hx hb dL_weights_162 (by decide) ?_
                  exact (t_L_weights_163 hC ) s30 x1 r5 v9 v10 r11 (0 : Int32) hf _ _ hP hD hS _ (lv_sub hl [6, 7, 4, 3, 2, 1] rfl)
                · replace hf := brF c32 hf
                  refine lv_iconst (v := (1 : Int32)) hx hb dL_weights_158 (by decide) ?_
                  refine lv_goto (tgt := 163) hx hb dL_weights_159 (by decide) ?_
                  exact (t_L_weights_163 hC ) s30 x1 r5 v9 v10 r11 (1 : Int32) hf _ _ hP hD hS _ (lv_sub hl [6, 7, 4, 3, 2, 1] rfl)
    · replace hf := brT c14 hf
      refine lv_aload_n hx hb dL_weights_51 rfl (lv_at hl 6 rfl) ?_
      refine lv_iload hx hb dL_weights_52 (lv_at hl 3 rfl) ?_
      refine lv_sipush (v := (400 : Int32)) hx hb dL_weights_54 (by decide) ?_
      obtain ⟨r33, s34, hq35, hf⟩ := bnd2_of hf
      refine callX (As := [.int v9, .int (400 : Int32)]) (rest := []) (ci := 5) (q0 := 0) (wr := ([])) (WB := (wB cI cJ cZ cQ a_p0 s34)) hx hb hml hown hts hK hN (b_X5_setWeight l D cI cJ cZ cQ a_p0 s12 v9 (400 : Int32) hq35) (cwV 2 hts gL_weights_X5_setWeight rfl rfl rfl e_X5_setWeight ⟨Nat.le_of_ble_eq_true rfl, Nat.le_of_ble_eq_true rfl⟩) hP hD hS hA pmN pmN.symm rfl rfl rfl rfl hl (Nat.le_of_ble_eq_true rfl) dL_weights_57 ⟨Nat.zero_le _, Nat.zero_le _⟩ rfl (fun H locs hP hD hS => ?_)
      refine lv_if_lt (tgt := 85) hx hb dL_weights_60 (by decide) (fun c36 => ?_) (fun c36 => ?_)
      · replace hf := brT c36 hf
        refine lv_iconst (v := (0 : Int32)) hx hb dL_weights_85 (by decide) ?_
        refine lv_istore (lv' := [(8, .int (0 : Int32)), (7, .int r11), (6, .int v10), (5, .int v9), (3, .long r5), (2, .int r1), (0, .ref (a_p0.1 0)), (1, .int x1)]) hx hb dL_weights_86 hl (by decide) rfl (fun ls hl => ?_)
        refine lv_goto (tgt := 213) hx hb dL_weights_88 (by decide) ?_
        exact (t_L_weights_213 hC ) s34 x1 r5 v9 (0 : Int32) hf _ _ hP hD hS _ (lv_sub hl [6, 7, 4, 3, 0] rfl)
      · replace hf := brF c36 hf
        refine lv_aload_n hx hb dL_weights_63 rfl (lv_at hl 6 rfl) ?_
        refine lv_iload hx hb dL_weights_64 (lv_at hl 3 rfl) ?_
        obtain ⟨r37, s38, hq39, hf⟩ := bnd2_of hf
        refine callX (As := [.int v9]) (rest := []) (ci := 5) (q0 := 0) (wr := ([])) (WB := (wB cI cJ cZ cQ a_p0 s38)) hx hb hml hown hts hK hN (b_X5_size l D cI cJ cZ cQ a_p0 s34 v9 hq39) (cwV 1 hts gL_weights_X5_size rfl rfl rfl e_X5_size ⟨Nat.le_of_ble_eq_true rfl, Nat.le_of_ble_eq_true rfl⟩) hP hD hS hA pmN pmN.symm rfl rfl rfl rfl hl (Nat.le_of_ble_eq_true rfl) dL_weights_66 ⟨Nat.zero_le _, Nat.zero_le _⟩ rfl (fun H locs hP hD hS => ?_)
        refine lv_iload hx hb dL_weights_69 (lv_at hl 2 rfl) ?_
        refine lv_icmp_ge (tgt := 85) hx hb dL_weights_71 (by decide) (fun c40 => ?_) (fun c40 => ?_)
        · replace hf := brT c40 hf
          refine lv_iconst (v := (0 : Int32)) hx hb dL_weights_85 (by decide) ?_
          refine lv_istore (lv' := [(8, .int (0 : Int32)), (7, .int r11), (6, .int v10), (5, .int v9), (3, .long r5), (2, .int r1), (0, .ref (a_p0.1 0)), (1, .int x1)]) hx hb dL_weights_86 hl (by decide) rfl (fun ls hl => ?_)
          refine lv_goto (tgt := 213) hx hb dL_weights_88 (by decide) ?_
          exact (t_L_weights_213 hC ) s38 x1 r5 v9 (0 : Int32) hf _ _ hP hD hS _ (lv_sub hl [6, 7, 4, 3, 0] rfl)
        · replace hf := brF c40 hf
          refine lv_aload_n hx hb dL_weights_74 rfl (lv_at hl 6 rfl) ?_
          obtain ⟨r41, s42, hq43, hf⟩ := bnd2_of hf
          refine callX (As := []) (rest := []) (ci := 5) (q0 := 0) (wr := ([])) (WB := (wB cI cJ cZ cQ a_p0 s42)) hx hb hml hown hts hK hN (b_X5_undo l D cI cJ cZ cQ a_p0 s38  hq43) (cwV 0 hts gL_weights_X5_undo rfl rfl rfl e_X5_undo ⟨Nat.le_of_ble_eq_true rfl, Nat.le_of_ble_eq_true rfl⟩) hP hD hS hA pmN pmN.symm rfl rfl rfl rfl hl (Nat.le_of_ble_eq_true rfl) dL_weights_75 ⟨Nat.zero_le _, Nat.zero_le _⟩ rfl (fun H locs hP hD hS => ?_)
          refine lv_if_lt (tgt := 85) hx hb dL_weights_78 (by decide) (fun c44 => ?_) (fun c44 => ?_)
          · replace hf := brT c44 hf
            refine lv_iconst (v := (0 : Int32)) hx hb dL_weights_85 (by decide) ?_
            refine lv_istore (lv' := [(8, .int (0 : Int32)), (7, .int r11), (6, .int v10), (5, .int v9), (3, .long r5), (2, .int r1), (0, .ref (a_p0.1 0)), (1, .int x1)]) hx hb dL_weights_86 hl (by decide) rfl (fun ls hl => ?_)
            refine lv_goto (tgt := 213) hx hb dL_weights_88 (by decide) ?_
            exact (t_L_weights_213 hC ) s42 x1 r5 v9 (0 : Int32) hf _ _ hP hD hS _ (lv_sub hl [6, 7, 4, 3, 0] rfl)
          · replace hf := brF c44 hf
            refine lv_iconst (v := (1 : Int32)) hx hb dL_weights_81 (by decide) ?_
            refine lv_goto (tgt := 86) hx hb dL_weights_82 (by decide) ?_
            refine lv_istore (lv' := [(8, .int (1 : Int32)), (7, .int r11), (6, .int v10), (5, .int v9), (3, .long r5), (2, .int r1), (0, .ref (a_p0.1 0)), (1, .int x1)]) hx hb dL_weights_86 hl (by decide) rfl (fun ls hl => ?_)
            refine lv_goto (tgt := 213) hx hb dL_weights_88 (by decide) ?_
            exact (t_L_weights_213 hC ) s42 x1 r5 v9 (1 : Int32) hf _ _ hP hD hS _ (lv_sub hl [6, 7, 4, 3, 0] rfl)
  · replace hf := brT c4 hf
    refine lv_iconst (v := (1 : Int32)) hx hb dL_weights_9 (by decide) ?_
    obtain rfl := Option.some.inj hf
    exact endI (ty := .boolean) hC rfl rfl hP hD hS dL_weights_10
theorem c_L_weights (l : Launch) (D : va_G) (cI cJ cZ cQ : ClassId) (a_p0 : AB) (s_p0 : ST) (p1 : Int32) {res : R_L_weights} (hf : f_L_weights_0 s_p0 p1 = some res) : MetI l D (tys4 cI cJ cZ cQ) yL_weights wsL_weights rm_L_weights [.ref (a_p0.1 0), .int p1] (wB cI cJ cZ cQ a_p0 s_p0) (wB cI cJ cZ cQ a_p0 res.2) res.1 := by
  intro sz
  exact metW (own := RL) (cc := cL_weights) (nL := 15) (ret := (some .boolean)) (Qc := fun A => qI D (tys4 cI cJ cZ cQ) (wB cI cJ cZ cQ a_p0 res.2) A res.1) (by decide) rfl rfl (Nat.le_of_ble_eq_true rfl) (fun p e s m args below meth c A hC hP hD hS ls hl => t_L_weights_0 hC s_p0 p1 hf _ _ hP hD hS _ (lv_sub hl [0, 1] rfl)) sz
theorem e_L_weights : yL_weights.cls ≠ "java/lang/invoke/MethodHandle" ∧ yL_weights.cls ≠ "java/lang/invoke/VarHandle" ∧ (parseMethodDescriptor yL_weights.desc).map (fun d => d.parameters.length) = some 2 := by decide +kernel
