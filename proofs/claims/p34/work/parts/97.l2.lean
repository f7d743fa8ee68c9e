abbrev rm_L_rejects : Room := { frames := 7, cells := 0, slots := 0, locals := 169 }
def S_L_rejects_365 (p : Program) (l : Launch) (e : Env) (s : State) (m : MethodId) (args : Array Value) (below : List Frame) (meth : Method) (c : Code) (A : Nat → Prop) (D : va_G) (cI cJ cZ cQ : ClassId) (a_p0 : AB) (res : R_L_rejects) (k : ST → Int32 → Int32 → Option R_L_rejects) : Prop := ∀ (s_p0 : ST) (x1 : Int32) (y0 : Int32), k s_p0 x1 y0 = some res → ∀ (H : Heap) (locs : List Loc), va_P D vwCl (wB cI cJ cZ cQ a_p0 s_p0) H → va_D A (wB cI cJ cZ cQ a_p0 s_p0) → va_S A s.heap H locs → ∀ ls : Array Slot, lv_has ls 3 [(0, .ref (a_p0.1 0)), (1, .int x1)] → W p l e (headSpec wsL_rejects rm_L_rejects).room s m args below meth c H locs 0 0 (MQ below (qI D (tys4 cI cJ cZ cQ) (wB cI cJ cZ cQ a_p0 res.2) A res.1) args s 0 0 A) (F0 m 365 ls [.int y0])
def S_L_rejects_0 (p : Program) (l : Launch) (e : Env) (s : State) (m : MethodId) (args : Array Value) (below : List Frame) (meth : Method) (c : Code) (A : Nat → Prop) (D : va_G) (cI cJ cZ cQ : ClassId) (a_p0 : AB) (res : R_L_rejects) (k : ST → Option R_L_rejects) : Prop := ∀ (s_p0 : ST), k s_p0 = some res → ∀ (H : Heap) (locs : List Loc), va_P D vwCl (wB cI cJ cZ cQ a_p0 s_p0) H → va_D A (wB cI cJ cZ cQ a_p0 s_p0) → va_S A s.heap H locs → ∀ ls : Array Slot, lv_has ls 3 [(0, .ref (a_p0.1 0))] → W p l e (headSpec wsL_rejects rm_L_rejects).room s m args below meth c H locs 0 0 (MQ below (qI D (tys4 cI cJ cZ cQ) (wB cI cJ cZ cQ a_p0 res.2) A res.1) args s 0 0 A) (F0 m 0 ls [])
set_option maxHeartbeats 4000000 in
set_option maxRecDepth 100000 in
theorem t_L_rejects_365 {p : Program} {l : Launch} {e : Env} {s : State} {m : MethodId} {args : Array Value} {below : List Frame} {meth : Method} {c : Code} {A : Nat → Prop} {D : va_G} {cI cJ cZ cQ : ClassId} {a_p0 : AB} {res : R_L_rejects}  (hC : mcx RL cL_rejects (some .boolean) 3 wsL_rejects p s m args meth c A D (tys4 cI cJ cZ cQ))  : S_L_rejects_365 p l e s m args below meth c A D cI cJ cZ cQ a_p0 res (f_L_rejects_365 ) := by
  intro s_p0 x1 y0 hf H locs hP hD hS ls hl
  obtain ⟨hx, hb, hr, hml, hown, hts, hlocks, hA, hK, hN⟩ := id hC
  unfold f_L_rejects_365 at hf
  refine lv_istore_n (lv' := [(2, .int y0), (0, .ref (a_p0.1 0)), (1, .int x1)]) hx hb dL_rejects_365 rfl hl (by decide) rfl (fun ls hl => ?_)
  refine lv_iload_n hx hb dL_rejects_366 rfl (lv_at hl 0 rfl) ?_
  refine lv_if_eq (tgt := 498) hx hb dL_rejects_367 (by decide) (fun c1 => ?_) (fun c1 => ?_)
  · replace hf := brT c1 hf
    refine lv_iconst (v := (0 : Int32)) hx hb dL_rejects_498 (by decide) ?_
    obtain rfl := Option.some.inj hf
    exact endI (ty := .boolean) hC rfl rfl hP hD hS dL_rejects_499
  · replace hf := brF c1 hf
    refine lv_iload_n hx hb dL_rejects_370 rfl (lv_at hl 2 rfl) ?_
    refine lv_if_eq (tgt := 494) hx hb dL_rejects_371 (by decide) (fun c2 => ?_) (fun c2 => ?_)
    · replace hf := brT c2 hf
      refine lv_iconst (v := (1 : Int32)) hx hb dL_rejects_494 (by decide) ?_
      refine lv_goto (tgt := 499) hx hb dL_rejects_495 (by decide) ?_
      obtain rfl := Option.some.inj hf
      exact endI (ty := .boolean) hC rfl rfl hP hD hS dL_rejects_499
    · replace hf := brF c2 hf
      refine lv_aload_n hx hb dL_rejects_374 rfl (lv_at hl 1 rfl) ?_
      refine lv_iconst (v := (0 : Int32)) hx hb dL_rejects_375 (by decide) ?_
      refine lv_iconst (v := (3 : Int32)) hx hb dL_rejects_376 (by decide) ?_
      obtain ⟨r3, s4, hq5, hf⟩ := bnd2_of hf
      refine callX (As := [.int (0 : Int32), .int (3 : Int32)]) (rest := []) (ci := 5) (q0 := 0) (wr := ([])) (WB := (wB cI cJ cZ cQ a_p0 s4)) hx hb hml hown hts hK hN (b_X5_site l D cI cJ cZ cQ a_p0 s_p0 (0 : Int32) (3 : Int32) hq5) (cwV 2 hts gL_rejects_X5_site rfl rfl rfl e_X5_site ⟨Nat.le_of_ble_eq_true rfl, Nat.le_of_ble_eq_true rfl⟩) hP hD hS hA pmN pmN.symm rfl rfl rfl rfl hl (Nat.le_of_ble_eq_true rfl) dL_rejects_377 ⟨Nat.zero_le _, Nat.zero_le _⟩ rfl (fun H locs hP hD hS => ?_)
      refine lv_bipush (v := (-2 : Int32)) hx hb dL_rejects_380 (by decide) ?_
      refine lv_icmp_ne (tgt := 498) hx hb dL_rejects_382 (by decide) (fun c6 => ?_) (fun c6 => ?_)
      · replace hf := brF c6 hf
        refine lv_iconst (v := (0 : Int32)) hx hb dL_rejects_498 (by decide) ?_
        obtain rfl := Option.some.inj hf
        exact endI (ty := .boolean) hC rfl rfl hP hD hS dL_rejects_499
      · replace hf := brT c6 hf
        refine lv_aload_n hx hb dL_rejects_385 rfl (lv_at hl 1 rfl) ?_
        refine lv_iconst (v := (0 : Int32)) hx hb dL_rejects_386 (by decide) ?_
        refine lv_iconst (v := (0 : Int32)) hx hb dL_rejects_387 (by decide) ?_
        refine lv_bipush (v := (21 : Int32)) hx hb dL_rejects_388 (by decide) ?_
        obtain ⟨r7, s8, hq9, hf⟩ := bnd2_of hf
        refine callX (As := [.int (0 : Int32), .int (0 : Int32), .int (21 : Int32)]) (rest := []) (ci := 5) (q0 := 0) (wr := ([])) (WB := (wB cI cJ cZ cQ a_p0 s8)) hx hb hml hown hts hK hN (b_X5_powerDistance l D cI cJ cZ cQ a_p0 s4 (0 : Int32) (0 : Int32) (21 : Int32) hq9) (cwV 3 hts gL_rejects_X5_powerDistance rfl rfl rfl e_X5_powerDistance ⟨Nat.le_of_ble_eq_true rfl, Nat.le_of_ble_eq_true rfl⟩) hP hD hS hA pmN pmN.symm rfl rfl rfl rfl hl (Nat.le_of_ble_eq_true rfl) dL_rejects_390 ⟨Nat.zero_le _, Nat.zero_le _⟩ rfl (fun H locs hP hD hS => ?_)
        refine lv_bipush (v := (-2 : Int32)) hx hb dL_rejects_393 (by decide) ?_
        refine lv_icmp_ne (tgt := 498) hx hb dL_rejects_395 (by decide) (fun c10 => ?_) (fun c10 => ?_)
        · replace hf := brF c10 hf
          refine lv_iconst (v := (0 : Int32)) hx hb dL_rejects_498 (by decide) ?_
          obtain rfl := Option.some.inj hf
          exact endI (ty := .boolean) hC rfl rfl hP hD hS dL_rejects_499
        · replace hf := brT c10 hf
          refine lv_aload_n hx hb dL_rejects_398 rfl (lv_at hl 1 rfl) ?_
          refine lv_iconst (v := (0 : Int32)) hx hb dL_rejects_399 (by decide) ?_
          refine lv_iconst (v := (-1 : Int32)) hx hb dL_rejects_400 (by decide) ?_
          refine lv_iconst (v := (0 : Int32)) hx hb dL_rejects_401 (by decide) ?_
          obtain ⟨r11, s12, hq13, hf⟩ := bnd2_of hf
          refine callX (As := [.int (0 : Int32), .int (-1 : Int32), .int (0 : Int32)]) (rest := []) (ci := 5) (q0 := 0) (wr := ([])) (WB := (wB cI cJ cZ cQ a_p0 s12)) hx hb hml hown hts hK hN (b_X5_move l D cI cJ cZ cQ a_p0 s8 (0 : Int32) (-1 : Int32) (0 : Int32) hq13) (cwV 3 hts gL_rejects_X5_move rfl rfl rfl e_X5_move ⟨Nat.le_of_ble_eq_true rfl, Nat.le_of_ble_eq_true rfl⟩) hP hD hS hA pmN pmN.symm rfl rfl rfl rfl hl (Nat.le_of_ble_eq_true rfl) dL_rejects_402 ⟨Nat.zero_le _, Nat.zero_le _⟩ rfl (fun H locs hP hD hS => ?_)
          refine lv_bipush (v := (-2 : Int32)) hx hb dL_rejects_405 (by decide) ?_
          refine lv_icmp_ne (tgt := 498) hx hb dL_rejects_407 (by decide) (fun c14 => ?_) (fun c14 => ?_)
          · replace hf := brF c14 hf
            refine lv_iconst (v := (0 : Int32)) hx hb dL_rejects_498 (by decide) ?_
            obtain rfl := Option.some.inj hf
            exact endI (ty := .boolean) hC rfl rfl hP hD hS dL_rejects_499
          · replace hf := brT c14 hf
            refine lv_aload_n hx hb dL_rejects_410 rfl (lv_at hl 1 rfl) ?_
            refine lv_iconst (v := (0 : Int32)) hx hb dL_rejects_411 (by decide) ?_
            refine lv_iconst (v := (-1 : Int32)) hx hb dL_rejects_412 (by decide) ?_
            obtain ⟨r15, s16, hq17, hf⟩ := bnd2_of hf
            refine callX (As := [.int (0 : Int32), .int (-1 : Int32)]) (rest := []) (ci := 5) (q0 := 0) (wr := ([])) (WB := (wB cI cJ cZ cQ a_p0 s16)) hx hb hml hown hts hK hN (b_X5_setWeight l D cI cJ cZ cQ a_p0 s12 (0 : Int32) (-1 : Int32) hq17) (cwV 2 hts gL_rejects_X5_setWeight rfl rfl rfl e_X5_setWeight ⟨Nat.le_of_ble_eq_true rfl, Nat.le_of_ble_eq_true rfl⟩) hP hD hS hA pmN pmN.symm rfl rfl rfl rfl hl (Nat.le_of_ble_eq_true rfl) dL_rejects_413 ⟨Nat.zero_le _, Nat.zero_le _⟩ rfl (fun H locs hP hD hS => ?_)
            refine lv_bipush (v := (-2 : Int32)) hx hb dL_rejects_416 (by decide) ?_
            refine lv_icmp_ne (tgt := 498) hx hb dL_rejects_418 (by decide) (fun c18 => ?_) (fun c18 => ?_)
            · replace hf := brF c18 hf
              refine lv_iconst (v := (0 : Int32)) hx hb dL_rejects_498 (by decide) ?_
              obtain rfl := Option.some.inj hf
              exact endI (ty := .boolean) hC rfl rfl hP hD hS dL_rejects_499
            · replace hf := brT c18 hf
              refine lv_aload_n hx hb dL_rejects_421 rfl (lv_at hl 1 rfl) ?_
              refine lv_iconst (v := (0 : Int32)) hx hb dL_rejects_422 (by decide) ?_
              refine lv_sipush (v := (442 : Int32)) hx hb dL_rejects_423 (by decide) ?_
              obtain ⟨r19, s20, hq21, hf⟩ := bnd2_of hf
              refine callX (As := [.int (0 : Int32), .int (442 : Int32)]) (rest := []) (ci := 5) (q0 := 0) (wr := ([])) (WB := (wB cI cJ cZ cQ a_p0 s20)) hx hb hml hown hts hK hN (b_X5_weightForSize l D cI cJ cZ cQ a_p0 s16 (0 : Int32) (442 : Int32) hq21) (cwV 2 hts gL_rejects_X5_weightForSize rfl rfl rfl e_X5_weightForSize ⟨Nat.le_of_ble_eq_true rfl, Nat.le_of_ble_eq_true rfl⟩) hP hD hS hA pmN pmN.symm rfl rfl rfl rfl hl (Nat.le_of_ble_eq_true rfl) dL_rejects_426 ⟨Nat.zero_le _, Nat.zero_le _⟩ rfl (fun H locs hP hD hS => ?_)
              refine lv_bipush (v := (-2 : Int32)) hx hb dL_rejects_429 (by decide) ?_
              refine lv_icmp_ne (tgt := 498) hx hb dL_rejects_431 (by decide) (fun c22 => ?_) (fun c22 => ?_)
              · replace hf := brF c22 hf
                refine lv_iconst (v := (0 : Int32)) hx hb dL_rejects_498 (by decide) ?_
                obtain rfl := Option.some.inj hf
                exact endI (ty := .boolean) hC rfl rfl hP hD hS dL_rejects_499
              · replace hf := brT c22 hf
                refine lv_aload_n hx hb dL_rejects_434 rfl (lv_at hl 1 rfl) ?_
                refine lv_iconst (v := (0 : Int32)) hx hb dL_rejects_435 (by decide) ?_
                refine lv_iconst (v := (3 : Int32)) hx hb dL_rejects_436 (by decide) ?_
                obtain ⟨r23, s24, hq25, hf⟩ := bnd2_of hf
                refine callX (As := [.int (0 : Int32), .int (3 : Int32)]) (rest := []) (ci := 5) (q0 := 0) (wr := ([])) (WB := (wB cI cJ cZ cQ a_p0 s24)) hx hb hml hown hts hK hN (b_X5_possibleWeights l D cI cJ cZ cQ a_p0 s20 (0 : Int32) (3 : Int32) hq25) (cwV 2 hts gL_rejects_X5_possibleWeights rfl rfl rfl e_X5_possibleWeights ⟨Nat.le_of_ble_eq_true rfl, Nat.le_of_ble_eq_true rfl⟩) hP hD hS hA pmN pmN.symm rfl rfl rfl rfl hl (Nat.le_of_ble_eq_true rfl) dL_rejects_437 ⟨Nat.zero_le _, Nat.zero_le _⟩ rfl (fun H locs hP hD hS => ?_)
                refine lv_bipush (v := (-2 : Int32)) hx hb dL_rejects_440 (by decide) ?_
                refine lv_icmp_ne (tgt := 498) hx hb dL_rejects_442 (by decide) (fun c26 => ?_) (fun c26 => ?_)
                · replace hf := brF c26 hf
                  refine lv_iconst (v := (0 : Int32)) hx hb dL_rejects_498 (by decide) ?_
                  obtain rfl := Option.some.inj hf
                  exact endI (ty := .boolean) hC rfl rfl hP hD hS dL_rejects_499
                · replace hf := brT c26 hf
                  refine lv_aload_n hx hb dL_rejects_445 rfl (lv_at hl 1 rfl) ?_
                  refine lv_lconst (v := (1 : Int64)) hx hb dL_rejects_446 (by decide) ?_
                  refine lv_iconst (v := (0 : Int32)) hx hb dL_rejects_447 (by decide) ?_
                  refine lv_sipush (v := (201 : Int32)) hx hb dL_rejects_448 (by decide) ?_
                  obtain ⟨r27, s28, hq29, hf⟩ := bnd2_of hf
                  refine callX (As := [.long (1 : Int64), .int (0 : Int32), .int (201 : Int32)]) (rest := []) (ci := 5) (q0 := 0) (wr := ([])) (WB := (wB cI cJ cZ cQ a_p0 s28)) hx hb hml hown hts hK hN (b_X5_sample l D cI cJ cZ cQ a_p0 s24 (1 : Int64) (0 : Int32) (201 : Int32) hq29) (cwV 3 hts gL_rejects_X5_sample rfl rfl rfl e_X5_sample ⟨Nat.le_of_ble_eq_true rfl, Nat.le_of_ble_eq_true rfl⟩) hP hD hS hA pmN pmN.symm rfl rfl rfl rfl hl (Nat.le_of_ble_eq_true rfl) dL_rejects_451 ⟨Nat.zero_le _, Nat.zero_le _⟩ rfl (fun H locs hP hD hS => ?_)
                  refine lv_bipush (v := (-2 : Int32)) hx hb dL_rejects_454 (by decide) ?_
                  refine lv_icmp_ne (tgt := 498) hx hb dL_rejects_456 (by decide) (fun c30 => ?_) (fun c30 => ?_)
                  · replace hf := brF c30 hf
                    refine lv_iconst (v := (0 : Int32)) hx hb dL_rejects_498 (by decide) ?_
                    obtain rfl := Option.some.inj hf
                    exact endI (ty := .boolean) hC rfl rfl hP hD hS dL_rejects_499
                  · replace hf := brT c30 hf
                    refine lv_aload_n hx hb dL_rejects_459 rfl (lv_at hl 1 rfl) ?_
                    refine lv_iconst (v := (0 : Int32)) hx hb dL_rejects_460 (by decide) ?_
                    refine lv_aload_n hx hb dL_rejects_461 rfl (lv_at hl 1 rfl) ?_
                    refine lv_iconst (v := (0 : Int32)) hx hb dL_rejects_462 (by decide) ?_
                    obtain ⟨r31, s32, hq33, hf⟩ := bnd2_of hf
                    refine callX (As := [.int (0 : Int32)]) (rest := [.int (0 : Int32), .ref (a_p0.1 0)]) (ci := 5) (q0 := 0) (wr := ([])) (WB := (wB cI cJ cZ cQ a_p0 s32)) hx hb hml hown hts hK hN (b_X5_cornerCount l D cI cJ cZ cQ a_p0 s28 (0 : Int32) hq33) (cwV 1 hts gL_rejects_X5_cornerCount rfl rfl rfl e_X5_cornerCount ⟨Nat.le_of_ble_eq_true rfl, Nat.le_of_ble_eq_true rfl⟩) hP hD hS hA pmN pmN.symm rfl rfl rfl rfl hl (Nat.le_of_ble_eq_true rfl) dL_rejects_463 ⟨Nat.zero_le _, Nat.zero_le _⟩ rfl (fun H locs hP hD hS => ?_)
                    refine lv_iconst (v := (0 : Int32)) hx hb dL_rejects_466 (by decide) ?_
                    obtain ⟨r34, s35, hq36, hf⟩ := bnd2_of hf
                    refine callX (As := [.int (0 : Int32), .int r31, .int (0 : Int32)]) (rest := []) (ci := 5) (q0 := 0) (wr := ([])) (WB := (wB cI cJ cZ cQ a_p0 s35)) hx hb hml hown hts hK hN (b_X5_cornerNumerator l D cI cJ cZ cQ a_p0 s32 (0 : Int32) r31 (0 : Int32) hq36) (cwV 3 hts gL_rejects_X5_cornerNumerator rfl rfl rfl e_X5_cornerNumerator ⟨Nat.le_of_ble_eq_true rfl, Nat.le_of_ble_eq_true rfl⟩) hP hD hS hA pmN pmN.symm rfl rfl rfl rfl hl (Nat.le_of_ble_eq_true rfl) dL_rejects_467 ⟨Nat.zero_le _, Nat.zero_le _⟩ rfl (fun H locs hP hD hS => ?_)
                    refine lv_iconst (v := (-1 : Int32)) hx hb dL_rejects_470 (by decide) ?_
                    refine lv_icmp_ne (tgt := 498) hx hb dL_rejects_471 (by decide) (fun c37 => ?_) (fun c37 => ?_)
                    · replace hf := brF c37 hf
                      refine lv_iconst (v := (0 : Int32)) hx hb dL_rejects_498 (by decide) ?_
                      obtain rfl := Option.some.inj hf
                      exact endI (ty := .boolean) hC rfl rfl hP hD hS dL_rejects_499
                    · replace hf := brT c37 hf
                      refine lv_aload_n hx hb dL_rejects_474 rfl (lv_at hl 1 rfl) ?_
                      refine lv_iconst (v := (0 : Int32)) hx hb dL_rejects_475 (by decide) ?_
                      obtain ⟨r38, s39, hq40, hf⟩ := bnd2_of hf
                      refine callX (As := [.int (0 : Int32)]) (rest := []) (ci := 5) (q0 := 0) (wr := ([])) (WB := (wB cI cJ cZ cQ a_p0 s39)) hx hb hml hown hts hK hN (b_X5_cornerCount l D cI cJ cZ cQ a_p0 s35 (0 : Int32) hq40) (cwV 1 hts gL_rejects_X5_cornerCount rfl rfl rfl e_X5_cornerCount ⟨Nat.le_of_ble_eq_true rfl, Nat.le_of_ble_eq_true rfl⟩) hP hD hS hA pmN pmN.symm rfl rfl rfl rfl hl (Nat.le_of_ble_eq_true rfl) dL_rejects_476 ⟨Nat.zero_le _, Nat.zero_le _⟩ rfl (fun H locs hP hD hS => ?_)
                      refine lv_if_eq (tgt := 494) hx hb dL_rejects_479 (by decide) (fun c41 => ?_) (fun c41 => ?_)
                      · replace hf := brT c41 hf
                        refine lv_iconst (v := (1 : Int32)) hx hb dL_rejects_494 (by decide) ?_
                        refine lv_goto (tgt := 499) hx hb dL_rejects_495 (by decide) ?_
                        obtain rfl := Option.some.inj hf
                        exact endI (ty := .boolean) hC rfl rfl hP hD hS dL_rejects_499
                      · replace hf := brF c41 hf
                        refine lv_aload_n hx hb dL_rejects_482 rfl (lv_at hl 1 rfl) ?_
                        refine lv_iconst (v := (0 : Int32)) hx hb dL_rejects_483 (by decide) ?_
                        refine lv_iconst (v := (0 : Int32)) hx hb dL_rejects_484 (by decide) ?_
                        refine lv_iconst (v := (2 : Int32)) hx hb dL_rejects_485 (by decide) ?_
                        obtain ⟨r42, s43, hq44, hf⟩ := bnd2_of hf
                        refine callX (As := [.int (0 : Int32), .int (0 : Int32), .int (2 : Int32)]) (rest := []) (ci := 5) (q0 := 0) (wr := ([])) (WB := (wB cI cJ cZ cQ a_p0 s43)) hx hb hml hown hts hK hN (b_X5_cornerDenominator l D cI cJ cZ cQ a_p0 s39 (0 : Int32) (0 : Int32) (2 : Int32) hq44) (cwV 3 hts gL_rejects_X5_cornerDenominator rfl rfl rfl e_X5_cornerDenominator ⟨Nat.le_of_ble_eq_true rfl, Nat.le_of_ble_eq_true rfl⟩) hP hD hS hA pmN pmN.symm rfl rfl rfl rfl hl (Nat.le_of_ble_eq_true rfl) dL_rejects_486 ⟨Nat.zero_le _, Nat.zero_le _⟩ rfl (fun H locs hP hD hS => ?_)
                        refine lv_bipush (v := (-2 : Int32)) hx hb dL_rejects_489 (by decide) ?_
                        refine lv_icmp_ne (tgt := 498) hx hb dL_rejects_491 (by decide) (fun c45 => ?_) (fun c45 => ?_)
                        · replace hf := brF c45 hf
                          refine lv_iconst (v := (0 : Int32)) hx hb dL_rejects_498 (by decide) ?_
                          obtain rfl := Option.some.inj hf
                          exact endI (ty := .boolean) hC rfl rfl hP hD hS dL_rejects_499
                        · replace hf := brT c45 hf
                          refine lv_iconst (v := (1 : Int32)) hx hb dL_rejects_494 (by decide) ?_
                          refine lv_goto (tgt := 499) hx hb dL_rejects_495 (by decide) ?_
                          obtain rfl := Option.some.inj hf
                          exact endI (ty := .boolean) hC rfl rfl hP hD hS dL_rejects_499
set_option maxHeartbeats 4000000 in
set_option maxRecDepth 100000 in
theorem t_L_rejects_0 {p : Program} {l : Launch} {e : Env} {s : State} {m : MethodId} {args : Array Value} {below : List Frame} {meth : Method} {c : Code} {A : Nat → Prop} {D : va_G} {cI cJ cZ cQ : ClassId} {a_p0 : AB} {res : R_L_rejects}  (hC : mcx RL cL_rejects (some .boolean) 3 wsL_rejects p s m args meth c A D (tys4 cI cJ cZ cQ))  : S_L_rejects_0 p l e s m args below meth c A D cI cJ cZ cQ a_p0 res (f_L_rejects_0 ) := by
  intro s_p0 hf H locs hP hD hS ls hl
  obtain ⟨hx, hb, hr, hml, hown, hts, hlocks, hA, hK, hN⟩ := id hC
  unfold f_L_rejects_0 at hf
  refine lv_aload_n hx hb dL_rejects_0 rfl (lv_at hl 0 rfl) ?_
  obtain ⟨r1, s2, hq3, hf⟩ := bnd2_of hf
  refine callX (As := []) (rest := []) (ci := 5) (q0 := 0) (wr := ([])) (WB := (wB cI cJ cZ cQ a_p0 s2)) hx hb hml hown hts hK hN (b_X5_siteCount l D cI cJ cZ cQ a_p0 s_p0  hq3) (cwV 0 hts gL_rejects_X5_siteCount rfl rfl rfl e_X5_siteCount ⟨Nat.le_of_ble_eq_true rfl, Nat.le_of_ble_eq_true rfl⟩) hP hD hS hA pmN pmN.symm rfl rfl rfl rfl hl (Nat.le_of_ble_eq_true rfl) dL_rejects_1 ⟨Nat.zero_le _, Nat.zero_le _⟩ rfl (fun H locs hP hD hS => ?_)
  refine lv_istore_n (lv' := [(1, .int r1), (0, .ref (a_p0.1 0))]) hx hb dL_rejects_4 rfl hl (by decide) rfl (fun ls hl => ?_)
  refine lv_aload_n hx hb dL_rejects_5 rfl (lv_at hl 1 rfl) ?_
  refine lv_sipush (v := (256 : Int32)) hx hb dL_rejects_6 (by decide) ?_
  obtain ⟨r4, s5, hq6, hf⟩ := bnd2_of hf
  refine callX (As := [.int (256 : Int32)]) (rest := []) (ci := 5) (q0 := 0) (wr := ([])) (WB := (wB cI cJ cZ cQ a_p0 s5)) hx hb hml hown hts hK hN (b_X5_append l D cI cJ cZ cQ a_p0 s2 (256 : Int32) hq6) (cwV 1 hts gL_rejects_X5_append rfl rfl rfl e_X5_append ⟨Nat.le_of_ble_eq_true rfl, Nat.le_of_ble_eq_true rfl⟩) hP hD hS hA pmN pmN.symm rfl rfl rfl rfl hl (Nat.le_of_ble_eq_true rfl) dL_rejects_9 ⟨Nat.zero_le _, Nat.zero_le _⟩ rfl (fun H locs hP hD hS => ?_)
  refine lv_bipush (v := (-2 : Int32)) hx hb dL_rejects_12 (by decide) ?_
  refine lv_icmp_ne (tgt := 364) hx hb dL_rejects_14 (by decide) (fun c7 => ?_) (fun c7 => ?_)
  · replace hf := brF c7 hf
    refine lv_iconst (v := (0 : Int32)) hx hb dL_rejects_364 (by decide) ?_
    exact (t_L_rejects_365 hC ) s5 r1 (0 : Int32) hf _ _ hP hD hS _ (lv_sub hl [1, 0] rfl)
  · replace hf := brT c7 hf
    refine lv_aload_n hx hb dL_rejects_17 rfl (lv_at hl 1 rfl) ?_
    refine lv_iconst (v := (-1 : Int32)) hx hb dL_rejects_18 (by decide) ?_
    obtain ⟨r8, s9, hq10, hf⟩ := bnd2_of hf
    refine callX (As := [.int (-1 : Int32)]) (rest := []) (ci := 5) (q0 := 0) (wr := ([])) (WB := (wB cI cJ cZ cQ a_p0 s9)) hx hb hml hown hts hK hN (b_X5_append l D cI cJ cZ cQ a_p0 s5 (-1 : Int32) hq10) (cwV 1 hts gL_rejects_X5_append rfl rfl rfl e_X5_append ⟨Nat.le_of_ble_eq_true rfl, Nat.le_of_ble_eq_true rfl⟩) hP hD hS hA pmN pmN.symm rfl rfl rfl rfl hl (Nat.le_of_ble_eq_true rfl) dL_rejects_19 ⟨Nat.zero_le _, Nat.zero_le _⟩ rfl (fun H locs hP hD hS => ?_)
    refine lv_bipush (v := (-2 : Int32)) hx hb dL_rejects_22 (by decide) ?_
    refine lv_icmp_ne (tgt := 364) hx hb dL_rejects_24 (by decide) (fun c11 => ?_) (fun c11 => ?_)
    · replace hf := brF c11 hf
      refine lv_iconst (v := (0 : Int32)) hx hb dL_rejects_364 (by decide) ?_
      exact (t_L_rejects_365 hC ) s9 r1 (0 : Int32) hf _ _ hP hD hS _ (lv_sub hl [1, 0] rfl)
    · replace hf := brT c11 hf
      refine lv_aload_n hx hb dL_rejects_27 rfl (lv_at hl 1 rfl) ?_
      refine lv_iload_n hx hb dL_rejects_28 rfl (lv_at hl 0 rfl) ?_
      refine lv_iconst (v := (3 : Int32)) hx hb dL_rejects_29 (by decide) ?_
      obtain ⟨r12, s13, hq14, hf⟩ := bnd2_of hf
      refine callX (As := [.int r1, .int (3 : Int32)]) (rest := []) (ci := 5) (q0 := 0) (wr := ([])) (WB := (wB cI cJ cZ cQ a_p0 s13)) hx hb hml hown hts hK hN (b_X5_site l D cI cJ cZ cQ a_p0 s9 r1 (3 : Int32) hq14) (cwV 2 hts gL_rejects_X5_site rfl rfl rfl e_X5_site ⟨Nat.le_of_ble_eq_true rfl, Nat.le_of_ble_eq_true rfl⟩) hP hD hS hA pmN pmN.symm rfl rfl rfl rfl hl (Nat.le_of_ble_eq_true rfl) dL_rejects_30 ⟨Nat.zero_le _, Nat.zero_le _⟩ rfl (fun H locs hP hD hS => ?_)
      refine lv_iconst (v := (-1 : Int32)) hx hb dL_rejects_33 (by decide) ?_
      refine lv_icmp_ne (tgt := 364) hx hb dL_rejects_34 (by decide) (fun c15 => ?_) (fun c15 => ?_)
      · replace hf := brF c15 hf
        refine lv_iconst (v := (0 : Int32)) hx hb dL_rejects_364 (by decide) ?_
        exact (t_L_rejects_365 hC ) s13 r1 (0 : Int32) hf _ _ hP hD hS _ (lv_sub hl [1, 0] rfl)
      · replace hf := brT c15 hf
        refine lv_aload_n hx hb dL_rejects_37 rfl (lv_at hl 1 rfl) ?_
        refine lv_iconst (v := (-1 : Int32)) hx hb dL_rejects_38 (by decide) ?_
        refine lv_iconst (v := (0 : Int32)) hx hb dL_rejects_39 (by decide) ?_
        obtain ⟨r16, s17, hq18, hf⟩ := bnd2_of hf
        refine callX (As := [.int (-1 : Int32), .int (0 : Int32)]) (rest := []) (ci := 5) (q0 := 0) (wr := ([])) (WB := (wB cI cJ cZ cQ a_p0 s17)) hx hb hml hown hts hK hN (b_X5_site l D cI cJ cZ cQ a_p0 s13 (-1 : Int32) (0 : Int32) hq18) (cwV 2 hts gL_rejects_X5_site rfl rfl rfl e_X5_site ⟨Nat.le_of_ble_eq_true rfl, Nat.le_of_ble_eq_true rfl⟩) hP hD hS hA pmN pmN.symm rfl rfl rfl rfl hl (Nat.le_of_ble_eq_true rfl) dL_rejects_40 ⟨Nat.zero_le _, Nat.zero_le _⟩ rfl (fun H locs hP hD hS => ?_)
        refine lv_iconst (v := (-1 : Int32)) hx hb dL_rejects_43 (by decide) ?_
        refine lv_icmp_ne (tgt := 364) hx hb dL_rejects_44 (by decide) (fun c19 => ?_) (fun c19 => ?_)
        · replace hf := brF c19 hf
          refine lv_iconst (v := (0 : Int32)) hx hb dL_rejects_364 (by decide) ?_
          exact (t_L_rejects_365 hC ) s17 r1 (0 : Int32) hf _ _ hP hD hS _ (lv_sub hl [1, 0] rfl)
        · replace hf := brT c19 hf
          refine lv_aload_n hx hb dL_rejects_47 rfl (lv_at hl 1 rfl) ?_
          refine lv_iload_n hx hb dL_rejects_48 rfl (lv_at hl 0 rfl) ?_
          refine lv_bipush (v := (21 : Int32)) hx hb dL_rejects_49 (by decide) ?_
          refine lv_iconst (v := (0 : Int32)) hx hb dL_rejects_51 (by decide) ?_
          obtain ⟨r20, s21, hq22, hf⟩ := bnd2_of hf
          refine callX (As := [.int r1, .int (21 : Int32), .int (0 : Int32)]) (rest := []) (ci := 5) (q0 := 0) (wr := ([])) (WB := (wB cI cJ cZ cQ a_p0 s21)) hx hb hml hown hts hK hN (b_X5_powerDistance l D cI cJ cZ cQ a_p0 s17 r1 (21 : Int32) (0 : Int32) hq22) (cwV 3 hts gL_rejects_X5_powerDistance rfl rfl rfl e_X5_powerDistance ⟨Nat.le_of_ble_eq_true rfl, Nat.le_of_ble_eq_true rfl⟩) hP hD hS hA pmN pmN.symm rfl rfl rfl rfl hl (Nat.le_of_ble_eq_true rfl) dL_rejects_52 ⟨Nat.zero_le _, Nat.zero_le _⟩ rfl (fun H locs hP hD hS => ?_)
          refine lv_iconst (v := (-1 : Int32)) hx hb dL_rejects_55 (by decide) ?_
          refine lv_icmp_ne (tgt := 364) hx hb dL_rejects_56 (by decide) (fun c23 => ?_) (fun c23 => ?_)
          · replace hf := brF c23 hf
            refine lv_iconst (v := (0 : Int32)) hx hb dL_rejects_364 (by decide) ?_
            exact (t_L_rejects_365 hC ) s21 r1 (0 : Int32) hf _ _ hP hD hS _ (lv_sub hl [1, 0] rfl)
          · replace hf := brT c23 hf
            refine lv_aload_n hx hb dL_rejects_59 rfl (lv_at hl 1 rfl) ?_
            refine lv_bipush (v := (21 : Int32)) hx hb dL_rejects_60 (by decide) ?_
            refine lv_iconst (v := (0 : Int32)) hx hb dL_rejects_62 (by decide) ?_
            obtain ⟨r24, s25, hq26, hf⟩ := bnd2_of hf
            refine callX (As := [.int (21 : Int32), .int (0 : Int32)]) (rest := []) (ci := 5) (q0 := 0) (wr := ([])) (WB := (wB cI cJ cZ cQ a_p0 s25)) hx hb hml hown hts hK hN (b_X5_owner l D cI cJ cZ cQ a_p0 s21 (21 : Int32) (0 : Int32) hq26) (cwV 2 hts gL_rejects_X5_owner rfl rfl rfl e_X5_owner ⟨Nat.le_of_ble_eq_true rfl, Nat.le_of_ble_eq_true rfl⟩) hP hD hS hA pmN pmN.symm rfl rfl rfl rfl hl (Nat.le_of_ble_eq_true rfl) dL_rejects_63 ⟨Nat.zero_le _, Nat.zero_le _⟩ rfl (fun H locs hP hD hS => ?_)
            refine lv_bipush (v := (-2 : Int32)) hx hb dL_rejects_66 (by decide) ?_
            refine lv_icmp_ne (tgt := 364) hx hb dL_rejects_68 (by decide) (fun c27 => ?_) (fun c27 => ?_)
            · replace hf := brF c27 hf
              refine lv_iconst (v := (0 : Int32)) hx hb dL_rejects_364 (by decide) ?_
              exact (t_L_rejects_365 hC ) s25 r1 (0 : Int32) hf _ _ hP hD hS _ (lv_sub hl [1, 0] rfl)
            · replace hf := brT c27 hf
              refine lv_aload_n hx hb dL_rejects_71 rfl (lv_at hl 1 rfl) ?_
              refine lv_iconst (v := (0 : Int32)) hx hb dL_rejects_72 (by decide) ?_
              refine lv_iconst (v := (-1 : Int32)) hx hb dL_rejects_73 (by decide) ?_
              obtain ⟨r28, s29, hq30, hf⟩ := bnd2_of hf
              refine callX (As := [.int (0 : Int32), .int (-1 : Int32)]) (rest := []) (ci := 5) (q0 := 0) (wr := ([])) (WB := (wB cI cJ cZ cQ a_p0 s29)) hx hb hml hown hts hK hN (b_X5_owner l D cI cJ cZ cQ a_p0 s25 (0 : Int32) (-1 : Int32) hq30) (cwV 2 hts gL_rejects_X5_owner rfl rfl rfl e_X5_owner ⟨Nat.le_of_ble_eq_true rfl, Nat.le_of_ble_eq_true rfl⟩) hP hD hS hA pmN pmN.symm rfl rfl rfl rfl hl (Nat.le_of_ble_eq_true rfl) dL_rejects_74 ⟨Nat.zero_le _, Nat.zero_le _⟩ rfl (fun H locs hP hD hS => ?_)
              refine lv_bipush (v := (-2 : Int32)) hx hb dL_rejects_77 (by decide) ?_
              refine lv_icmp_ne (tgt := 364) hx hb dL_rejects_79 (by decide) (fun c31 => ?_) (fun c31 => ?_)
              · replace hf := brF c31 hf
                refine lv_iconst (v := (0 : Int32)) hx hb dL_rejects_364 (by decide) ?_
                exact (t_L_rejects_365 hC ) s29 r1 (0 : Int32) hf _ _ hP hD hS _ (lv_sub hl [1, 0] rfl)
              · replace hf := brT c31 hf
                refine lv_aload_n hx hb dL_rejects_82 rfl (lv_at hl 1 rfl) ?_
                refine lv_iload_n hx hb dL_rejects_83 rfl (lv_at hl 0 rfl) ?_
                obtain ⟨r32, s33, hq34, hf⟩ := bnd2_of hf
                refine callX (As := [.int r1]) (rest := []) (ci := 5) (q0 := 0) (wr := ([])) (WB := (wB cI cJ cZ cQ a_p0 s33)) hx hb hml hown hts hK hN (b_X5_size l D cI cJ cZ cQ a_p0 s29 r1 hq34) (cwV 1 hts gL_rejects_X5_size rfl rfl rfl e_X5_size ⟨Nat.le_of_ble_eq_true rfl, Nat.le_of_ble_eq_true rfl⟩) hP hD hS hA pmN pmN.symm rfl rfl rfl rfl hl (Nat.le_of_ble_eq_true rfl) dL_rejects_84 ⟨Nat.zero_le _, Nat.zero_le _⟩ rfl (fun H locs hP hD hS => ?_)
                refine lv_iconst (v := (-1 : Int32)) hx hb dL_rejects_87 (by decide) ?_
                refine lv_icmp_ne (tgt := 364) hx hb dL_rejects_88 (by decide) (fun c35 => ?_) (fun c35 => ?_)
                · replace hf := brF c35 hf
                  refine lv_iconst (v := (0 : Int32)) hx hb dL_rejects_364 (by decide) ?_
                  exact (t_L_rejects_365 hC ) s33 r1 (0 : Int32) hf _ _ hP hD hS _ (lv_sub hl [1, 0] rfl)
                · replace hf := brT c35 hf
                  refine lv_aload_n hx hb dL_rejects_91 rfl (lv_at hl 1 rfl) ?_
                  refine lv_bipush (v := (21 : Int32)) hx hb dL_rejects_92 (by decide) ?_
                  refine lv_iconst (v := (0 : Int32)) hx hb dL_rejects_94 (by decide) ?_
                  refine lv_iconst (v := (0 : Int32)) hx hb dL_rejects_95 (by decide) ?_
                  obtain ⟨r36, s37, hq38, hf⟩ := bnd2_of hf
                  refine callX (As := [.int (21 : Int32), .int (0 : Int32), .int (0 : Int32)]) (rest := []) (ci := 5) (q0 := 0) (wr := ([])) (WB := (wB cI cJ cZ cQ a_p0 s37)) hx hb hml hown hts hK hN (b_X5_add l D cI cJ cZ cQ a_p0 s33 (21 : Int32) (0 : Int32) (0 : Int32) hq38) (cwV 3 hts gL_rejects_X5_add rfl rfl rfl e_X5_add ⟨Nat.le_of_ble_eq_true rfl, Nat.le_of_ble_eq_true rfl⟩) hP hD hS hA pmN pmN.symm rfl rfl rfl rfl hl (Nat.le_of_ble_eq_true rfl) dL_rejects_96 ⟨Nat.zero_le _, Nat.zero_le _⟩ rfl (fun H locs hP hD hS => ?_)
                  refine lv_bipush (v := (-2 : Int32)) hx hb dL_rejects_99 (by decide) ?_
                  refine lv_icmp_ne (tgt := 364) hx hb dL_rejects_101 (by decide) (fun c39 => ?_) (fun c39 => ?_)
                  · replace hf := brF c39 hf
                    refine lv_iconst (v := (0 : Int32)) hx hb dL_rejects_364 (by decide) ?_
                    exact (t_L_rejects_365 hC ) s37 r1 (0 : Int32) hf _ _ hP hD hS _ (lv_sub hl [1, 0] rfl)
                  · replace hf := brT c39 hf
                    refine lv_aload_n hx hb dL_rejects_104 rfl (lv_at hl 1 rfl) ?_
                    refine lv_iconst (v := (0 : Int32)) hx hb dL_rejects_105 (by decide) ?_
                    refine lv_iconst (v := (0 : Int32)) hx hb dL_rejects_106 (by decide) ?_
                    refine lv_sipush (v := (401 : Int32)) hx hb dL_rejects_107 (by decide) ?_
                    obtain ⟨r40, s41, hq42, hf⟩ := bnd2_of hf
                    refine callX (As := [.int (0 : Int32), .int (0 : Int32), .int (401 : Int32)]) (rest := []) (ci := 5) (q0 := 0) (wr := ([])) (WB := (wB cI cJ cZ cQ a_p0 s41)) hx hb hml hown hts hK hN (b_X5_add l D cI cJ cZ cQ a_p0 s37 (0 : Int32) (0 : Int32) (401 : Int32) hq42) (cwV 3 hts gL_rejects_X5_add rfl rfl rfl e_X5_add ⟨Nat.le_of_ble_eq_true rfl, Nat.le_of_ble_eq_true rfl⟩) hP hD hS hA pmN pmN.symm rfl rfl rfl rfl hl (Nat.le_of_ble_eq_true rfl) dL_rejects_110 ⟨Nat.zero_le _, Nat.zero_le _⟩ rfl (fun H locs hP hD hS => ?_)
                    refine lv_bipush (v := (-2 : Int32)) hx hb dL_rejects_113 (by decide) ?_
                    refine lv_icmp_ne (tgt := 364) hx hb dL_rejects_115 (by decide) (fun c43 => ?_) (fun c43 => ?_)
                    · replace hf := brF c43 hf
                      refine lv_iconst (v := (0 : Int32)) hx hb dL_rejects_364 (by decide) ?_
                      exact (t_L_rejects_365 hC ) s41 r1 (0 : Int32) hf _ _ hP hD hS _ (lv_sub hl [1, 0] rfl)
                    · replace hf := brT c43 hf
                      refine lv_aload_n hx hb dL_rejects_118 rfl (lv_at hl 1 rfl) ?_
                      refine lv_iload_n hx hb dL_rejects_119 rfl (lv_at hl 0 rfl) ?_
                      obtain ⟨r44, s45, hq46, hf⟩ := bnd2_of hf
                      refine callX (As := [.int r1]) (rest := []) (ci := 5) (q0 := 0) (wr := ([])) (WB := (wB cI cJ cZ cQ a_p0 s45)) hx hb hml hown hts hK hN (b_X5_remove l D cI cJ cZ cQ a_p0 s41 r1 hq46) (cwV 1 hts gL_rejects_X5_remove rfl rfl rfl e_X5_remove ⟨Nat.le_of_ble_eq_true rfl, Nat.le_of_ble_eq_true rfl⟩) hP hD hS hA pmN pmN.symm rfl rfl rfl rfl hl (Nat.le_of_ble_eq_true rfl) dL_rejects_120 ⟨Nat.zero_le _, Nat.zero_le _⟩ rfl (fun H locs hP hD hS => ?_)
                      refine lv_iconst (v := (-1 : Int32)) hx hb dL_rejects_123 (by decide) ?_
                      refine lv_icmp_ne (tgt := 364) hx hb dL_rejects_124 (by decide) (fun c47 => ?_) (fun c47 => ?_)
                      · replace hf := brF c47 hf
                        refine lv_iconst (v := (0 : Int32)) hx hb dL_rejects_364 (by decide) ?_
                        exact (t_L_rejects_365 hC ) s45 r1 (0 : Int32) hf _ _ hP hD hS _ (lv_sub hl [1, 0] rfl)
                      · replace hf := brT c47 hf
                        refine lv_aload_n hx hb dL_rejects_127 rfl (lv_at hl 1 rfl) ?_
                        refine lv_iload_n hx hb dL_rejects_128 rfl (lv_at hl 0 rfl) ?_
                        refine lv_bipush (v := (21 : Int32)) hx hb dL_rejects_129 (by decide) ?_
                        refine lv_iconst (v := (0 : Int32)) hx hb dL_rejects_131 (by decide) ?_
                        obtain ⟨r48, s49, hq50, hf⟩ := bnd2_of hf
                        refine callX (As := [.int r1, .int (21 : Int32), .int (0 : Int32)]) (rest := []) (ci := 5) (q0 := 0) (wr := ([])) (WB := (wB cI cJ cZ cQ a_p0 s49)) hx hb hml hown hts hK hN (b_X5_move l D cI cJ cZ cQ a_p0 s45 r1 (21 : Int32) (0 : Int32) hq50) (cwV 3 hts gL_rejects_X5_move rfl rfl rfl e_X5_move ⟨Nat.le_of_ble_eq_true rfl, Nat.le_of_ble_eq_true rfl⟩) hP hD hS hA pmN pmN.symm rfl rfl rfl rfl hl (Nat.le_of_ble_eq_true rfl) dL_rejects_132 ⟨Nat.zero_le _, Nat.zero_le _⟩ rfl (fun H locs hP hD hS => ?_)
                        refine lv_iconst (v := (-1 : Int32)) hx hb dL_rejects_135 (by decide) ?_
                        refine lv_icmp_ne (tgt := 364) hx hb dL_rejects_136 (by decide) (fun c51 => ?_) (fun c51 => ?_)
                        · replace hf := brF c51 hf
                          refine lv_iconst (v := (0 : Int32)) hx hb dL_rejects_364 (by decide) ?_
                          exact (t_L_rejects_365 hC ) s49 r1 (0 : Int32) hf _ _ hP hD hS _ (lv_sub hl [1, 0] rfl)
                        · replace hf := brT c51 hf
                          refine lv_aload_n hx hb dL_rejects_139 rfl (lv_at hl 1 rfl) ?_
                          refine lv_iconst (v := (-1 : Int32)) hx hb dL_rejects_140 (by decide) ?_
                          refine lv_sipush (v := (401 : Int32)) hx hb dL_rejects_141 (by decide) ?_
                          obtain ⟨r52, s53, hq54, hf⟩ := bnd2_of hf
                          refine callX (As := [.int (-1 : Int32), .int (401 : Int32)]) (rest := []) (ci := 5) (q0 := 0) (wr := ([])) (WB := (wB cI cJ cZ cQ a_p0 s53)) hx hb hml hown hts hK hN (b_X5_setWeight l D cI cJ cZ cQ a_p0 s49 (-1 : Int32) (401 : Int32) hq54) (cwV 2 hts gL_rejects_X5_setWeight rfl rfl rfl e_X5_setWeight ⟨Nat.le_of_ble_eq_true rfl, Nat.le_of_ble_eq_true rfl⟩) hP hD hS hA pmN pmN.symm rfl rfl rfl rfl hl (Nat.le_of_ble_eq_true rfl) dL_rejects_144 ⟨Nat.zero_le _, Nat.zero_le _⟩ rfl (fun H locs hP hD hS => ?_)
                          refine lv_iconst (v := (-1 : Int32)) hx hb dL_rejects_147 (by decide) ?_
                          refine lv_icmp_ne (tgt := 364) hx hb dL_rejects_148 (by decide) (fun c55 => ?_) (fun c55 => ?_)
                          · replace hf := brF c55 hf
                            refine lv_iconst (v := (0 : Int32)) hx hb dL_rejects_364 (by decide) ?_
                            exact (t_L_rejects_365 hC ) s53 r1 (0 : Int32) hf _ _ hP hD hS _ (lv_sub hl [1, 0] rfl)
                          · replace hf := brT c55 hf
                            refine lv_aload_n hx hb dL_rejects_151 rfl (lv_at hl 1 rfl) ?_
                            refine lv_iload_n hx hb dL_rejects_152 rfl (lv_at hl 0 rfl) ?_
                            obtain ⟨r56, s57, hq58, hf⟩ := bnd2_of hf
                            refine callX (As := [.int r1]) (rest := []) (ci := 5) (q0 := 0) (wr := ([])) (WB := (wB cI cJ cZ cQ a_p0 s57)) hx hb hml hown hts hK hN (b_X5_cornerCount l D cI cJ cZ cQ a_p0 s53 r1 hq58) (cwV 1 hts gL_rejects_X5_cornerCount rfl rfl rfl e_X5_cornerCount ⟨Nat.le_of_ble_eq_true rfl, Nat.le_of_ble_eq_true rfl⟩) hP hD hS hA pmN pmN.symm rfl rfl rfl rfl hl (Nat.le_of_ble_eq_true rfl) dL_rejects_153 ⟨Nat.zero_le _, Nat.zero_le _⟩ rfl (fun H locs hP hD hS => ?_)
                            refine lv_iconst (v := (-1 : Int32)) hx hb dL_rejects_156 (by decide) ?_
                            refine lv_icmp_ne (tgt := 364) hx hb dL_rejects_157 (by decide) (fun c59 => ?_) (fun c59 => ?_)
                            · replace hf := brF c59 hf
                              refine lv_iconst (v := (0 : Int32)) hx hb dL_rejects_364 (by decide) ?_
                              exact (t_L_rejects_365 hC ) s57 r1 (0 : Int32) hf _ _ hP hD hS _ (lv_sub hl [1, 0] rfl)
                            · replace hf := brT c59 hf
                              refine lv_aload_n hx hb dL_rejects_160 rfl (lv_at hl 1 rfl) ?_
                              refine lv_iload_n hx hb dL_rejects_161 rfl (lv_at hl 0 rfl) ?_
                              refine lv_iconst (v := (0 : Int32)) hx hb dL_rejects_162 (by decide) ?_
                              refine lv_iconst (v := (2 : Int32)) hx hb dL_rejects_163 (by decide) ?_
                              obtain ⟨r60, s61, hq62, hf⟩ := bnd2_of hf
                              refine callX (As := [.int r1, .int (0 : Int32), .int (2 : Int32)]) (rest := []) (ci := 5) (q0 := 0) (wr := ([])) (WB := (wB cI cJ cZ cQ a_p0 s61)) hx hb hml hown hts hK hN (b_X5_cornerNumerator l D cI cJ cZ cQ a_p0 s57 r1 (0 : Int32) (2 : Int32) hq62) (cwV 3 hts gL_rejects_X5_cornerNumerator rfl rfl rfl e_X5_cornerNumerator ⟨Nat.le_of_ble_eq_true rfl, Nat.le_of_ble_eq_true rfl⟩) hP hD hS hA pmN pmN.symm rfl rfl rfl rfl hl (Nat.le_of_ble_eq_true rfl) dL_rejects_164 ⟨Nat.zero_le _, Nat.zero_le _⟩ rfl (fun H locs hP hD hS => ?_)
                              refine lv_iconst (v := (-1 : Int32)) hx hb dL_rejects_167 (by decide) ?_
                              refine lv_icmp_ne (tgt := 364) hx hb dL_rejects_168 (by decide) (fun c63 => ?_) (fun c63 => ?_)
                              · replace hf := brF c63 hf
                                refine lv_iconst (v := (0 : Int32)) hx hb dL_rejects_364 (by decide) ?_
                                exact (t_L_rejects_365 hC ) s61 r1 (0 : Int32) hf _ _ hP hD hS _ (lv_sub hl [1, 0] rfl)
                              · replace hf := brT c63 hf
                                refine lv_aload_n hx hb dL_rejects_171 rfl (lv_at hl 1 rfl) ?_
                                refine lv_iload_n hx hb dL_rejects_172 rfl (lv_at hl 0 rfl) ?_
                                obtain ⟨r64, s65, hq66, hf⟩ := bnd2_of hf
                                refine callX (As := [.int r1]) (rest := []) (ci := 5) (q0 := 0) (wr := ([])) (WB := (wB cI cJ cZ cQ a_p0 s65)) hx hb hml hown hts hK hN (b_X5_neighbours l D cI cJ cZ cQ a_p0 s61 r1 hq66) (cwV 1 hts gL_rejects_X5_neighbours rfl rfl rfl e_X5_neighbours ⟨Nat.le_of_ble_eq_true rfl, Nat.le_of_ble_eq_true rfl⟩) hP hD hS hA pmN pmN.symm rfl rfl rfl rfl hl (Nat.le_of_ble_eq_true rfl) dL_rejects_173 ⟨Nat.zero_le _, Nat.zero_le _⟩ rfl (fun H locs hP hD hS => ?_)
                                refine lv_iconst (v := (-1 : Int32)) hx hb dL_rejects_176 (by decide) ?_
                                refine lv_icmp_ne (tgt := 364) hx hb dL_rejects_177 (by decide) (fun c67 => ?_) (fun c67 => ?_)
                                · replace hf := brF c67 hf
                                  refine lv_iconst (v := (0 : Int32)) hx hb dL_rejects_364 (by decide) ?_
                                  exact (t_L_rejects_365 hC ) s65 r1 (0 : Int32) hf _ _ hP hD hS _ (lv_sub hl [1, 0] rfl)
                                · replace hf := brT c67 hf
                                  refine lv_aload_n hx hb dL_rejects_180 rfl (lv_at hl 1 rfl) ?_
                                  refine lv_iload_n hx hb dL_rejects_181 rfl (lv_at hl 0 rfl) ?_
                                  refine lv_iconst (v := (0 : Int32)) hx hb dL_rejects_182 (by decide) ?_
                                  refine lv_iconst (v := (0 : Int32)) hx hb dL_rejects_183 (by decide) ?_
                                  obtain ⟨r68, s69, hq70, hf⟩ := bnd2_of hf
                                  refine callX (As := [.int r1, .int (0 : Int32), .int (0 : Int32)]) (rest := []) (ci := 5) (q0 := 0) (wr := ([])) (WB := (wB cI cJ cZ cQ a_p0 s69)) hx hb hml hown hts hK hN (b_X5_isTriangle l D cI cJ cZ cQ a_p0 s65 r1 (0 : Int32) (0 : Int32) hq70) (cwV 3 hts gL_rejects_X5_isTriangle rfl rfl rfl e_X5_isTriangle ⟨Nat.le_of_ble_eq_true rfl, Nat.le_of_ble_eq_true rfl⟩) hP hD hS hA pmN pmN.symm rfl rfl rfl rfl hl (Nat.le_of_ble_eq_true rfl) dL_rejects_184 ⟨Nat.zero_le _, Nat.zero_le _⟩ rfl (fun H locs hP hD hS => ?_)
                                  refine lv_iconst (v := (-1 : Int32)) hx hb dL_rejects_187 (by decide) ?_
                                  refine lv_icmp_ne (tgt := 364) hx hb dL_rejects_188 (by decide) (fun c71 => ?_) (fun c71 => ?_)
                                  · replace hf := brF c71 hf
                                    refine lv_iconst (v := (0 : Int32)) hx hb dL_rejects_364 (by decide) ?_
                                    exact (t_L_rejects_365 hC ) s69 r1 (0 : Int32) hf _ _ hP hD hS _ (lv_sub hl [1, 0] rfl)
                                  · replace hf := brT c71 hf
                                    refine lv_aload_n hx hb dL_rejects_191 rfl (lv_at hl 1 rfl) ?_
                                    refine lv_iconst (v := (0 : Int32)) hx hb dL_rejects_192 (by decide) ?_
                                    refine lv_bipush (v := (21 : Int32)) hx hb dL_rejects_193 (by decide) ?_
                                    refine lv_iconst (v := (0 : Int32)) hx hb dL_rejects_195 (by decide) ?_
                                    obtain ⟨r72, s73, hq74, hf⟩ := bnd2_of hf
                                    refine callX (As := [.int (0 : Int32), .int (21 : Int32), .int (0 : Int32)]) (rest := []) (ci := 5) (q0 := 0) (wr := ([])) (WB := (wB cI cJ cZ cQ a_p0 s73)) hx hb hml hown hts hK hN (b_X5_conflicts l D cI cJ cZ cQ a_p0 s69 (0 : Int32) (21 : Int32) (0 : Int32) hq74) (cwV 3 hts gL_rejects_X5_conflicts rfl rfl rfl e_X5_conflicts ⟨Nat.le_of_ble_eq_true rfl, Nat.le_of_ble_eq_true rfl⟩) hP hD hS hA pmN pmN.symm rfl rfl rfl rfl hl (Nat.le_of_ble_eq_true rfl) dL_rejects_196 ⟨Nat.zero_le _, Nat.zero_le _⟩ rfl (fun H locs hP hD hS => ?_)
                                    refine lv_bipush (v := (-2 : Int32)) hx hb dL_rejects_199 (by decide) ?_
                                    refine lv_icmp_ne (tgt := 364) hx hb dL_rejects_201 (by decide) (fun c75 => ?_) (fun c75 => ?_)
                                    · replace hf := brF c75 hf
                                      refine lv_iconst (v := (0 : Int32)) hx hb dL_rejects_364 (by decide) ?_
                                      exact (t_L_rejects_365 hC ) s73 r1 (0 : Int32) hf _ _ hP hD hS _ (lv_sub hl [1, 0] rfl)
                                    · replace hf := brT c75 hf
                                      refine lv_aload_n hx hb dL_rejects_204 rfl (lv_at hl 1 rfl) ?_
                                      refine lv_iconst (v := (0 : Int32)) hx hb dL_rejects_205 (by decide) ?_
                                      refine lv_iconst (v := (0 : Int32)) hx hb dL_rejects_206 (by decide) ?_
                                      refine lv_iconst (v := (0 : Int32)) hx hb dL_rejects_207 (by decide) ?_
                                      refine lv_bipush (v := (21 : Int32)) hx hb dL_rejects_208 (by decide) ?_
                                      obtain ⟨r76, s77, hq78, hf⟩ := bnd2_of hf
                                      refine callX (As := [.int (0 : Int32), .int (0 : Int32), .int (0 : Int32), .int (21 : Int32)]) (rest := []) (ci := 5) (q0 := 0) (wr := ([])) (WB := (wB cI cJ cZ cQ a_p0 s77)) hx hb hml hown hts hK hN (b_X5_alongSegment l D cI cJ cZ cQ a_p0 s73 (0 : Int32) (0 : Int32) (0 : Int32) (21 : Int32) hq78) (cwV 4 hts gL_rejects_X5_alongSegment rfl rfl rfl e_X5_alongSegment ⟨Nat.le_of_ble_eq_true rfl, Nat.le_of_ble_eq_true rfl⟩) hP hD hS hA pmN pmN.symm rfl rfl rfl rfl hl (Nat.le_of_ble_eq_true rfl) dL_rejects_210 ⟨Nat.zero_le _, Nat.zero_le _⟩ rfl (fun H locs hP hD hS => ?_)
                                      refine lv_bipush (v := (-2 : Int32)) hx hb dL_rejects_213 (by decide) ?_
                                      refine lv_icmp_ne (tgt := 364) hx hb dL_rejects_215 (by decide) (fun c79 => ?_) (fun c79 => ?_)
                                      · replace hf := brF c79 hf
                                        refine lv_iconst (v := (0 : Int32)) hx hb dL_rejects_364 (by decide) ?_
                                        exact (t_L_rejects_365 hC ) s77 r1 (0 : Int32) hf _ _ hP hD hS _ (lv_sub hl [1, 0] rfl)
                                      · replace hf := brT c79 hf
                                        refine lv_aload_n hx hb dL_rejects_218 rfl (lv_at hl 1 rfl) ?_
                                        refine lv_iload_n hx hb dL_rejects_219 rfl (lv_at hl 0 rfl) ?_
                                        refine lv_sipush (v := (442 : Int32)) hx hb dL_rejects_220 (by decide) ?_
                                        obtain ⟨r80, s81, hq82, hf⟩ := bnd2_of hf
                                        refine callX (As := [.int r1, .int (442 : Int32)]) (rest := []) (ci := 5) (q0 := 0) (wr := ([])) (WB := (wB cI cJ cZ cQ a_p0 s81)) hx hb hml hown hts hK hN (b_X5_weightForSize l D cI cJ cZ cQ a_p0 s77 r1 (442 : Int32) hq82) (cwV 2 hts gL_rejects_X5_weightForSize rfl rfl rfl e_X5_weightForSize ⟨Nat.le_of_ble_eq_true rfl, Nat.le_of_ble_eq_true rfl⟩) hP hD hS hA pmN pmN.symm rfl rfl rfl rfl hl (Nat.le_of_ble_eq_true rfl) dL_rejects_223 ⟨Nat.zero_le _, Nat.zero_le _⟩ rfl (fun H locs hP hD hS => ?_)
                                        refine lv_iconst (v := (-1 : Int32)) hx hb dL_rejects_226 (by decide) ?_
                                        refine lv_icmp_ne (tgt := 364) hx hb dL_rejects_227 (by decide) (fun c83 => ?_) (fun c83 => ?_)
                                        · replace hf := brF c83 hf
                                          refine lv_iconst (v := (0 : Int32)) hx hb dL_rejects_364 (by decide) ?_
                                          exact (t_L_rejects_365 hC ) s81 r1 (0 : Int32) hf _ _ hP hD hS _ (lv_sub hl [1, 0] rfl)
                                        · replace hf := brT c83 hf
                                          refine lv_aload_n hx hb dL_rejects_230 rfl (lv_at hl 1 rfl) ?_
                                          refine lv_iconst (v := (0 : Int32)) hx hb dL_rejects_231 (by decide) ?_
                                          refine lv_iconst (v := (0 : Int32)) hx hb dL_rejects_232 (by decide) ?_
                                          refine lv_bipush (v := (10 : Int32)) hx hb dL_rejects_233 (by decide) ?_
                                          obtain ⟨r84, s85, hq86, hf⟩ := bnd2_of hf
                                          refine callX (As := [.int (0 : Int32), .int (0 : Int32), .int (10 : Int32)]) (rest := []) (ci := 5) (q0 := 0) (wr := ([])) (WB := (wB cI cJ cZ cQ a_p0 s85)) hx hb hml hown hts hK hN (b_X5_observe l D cI cJ cZ cQ a_p0 s81 (0 : Int32) (0 : Int32) (10 : Int32) hq86) (cwV 3 hts gL_rejects_X5_observe rfl rfl rfl e_X5_observe ⟨Nat.le_of_ble_eq_true rfl, Nat.le_of_ble_eq_true rfl⟩) hP hD hS hA pmN pmN.symm rfl rfl rfl rfl hl (Nat.le_of_ble_eq_true rfl) dL_rejects_235 ⟨Nat.zero_le _, Nat.zero_le _⟩ rfl (fun H locs hP hD hS => ?_)
                                          refine lv_bipush (v := (-2 : Int32)) hx hb dL_rejects_238 (by decide) ?_
                                          refine lv_icmp_ne (tgt := 364) hx hb dL_rejects_240 (by decide) (fun c87 => ?_) (fun c87 => ?_)
                                          · replace hf := brF c87 hf
                                            refine lv_iconst (v := (0 : Int32)) hx hb dL_rejects_364 (by decide) ?_
                                            exact (t_L_rejects_365 hC ) s85 r1 (0 : Int32) hf _ _ hP hD hS _ (lv_sub hl [1, 0] rfl)
                                          · replace hf := brT c87 hf
                                            refine lv_aload_n hx hb dL_rejects_243 rfl (lv_at hl 1 rfl) ?_
                                            refine lv_iconst (v := (-1 : Int32)) hx hb dL_rejects_244 (by decide) ?_
                                            refine lv_iconst (v := (0 : Int32)) hx hb dL_rejects_245 (by decide) ?_
                                            refine lv_iconst (v := (0 : Int32)) hx hb dL_rejects_246 (by decide) ?_
                                            obtain ⟨r88, s89, hq90, hf⟩ := bnd2_of hf
                                            refine callX (As := [.int (-1 : Int32), .int (0 : Int32), .int (0 : Int32)]) (rest := []) (ci := 5) (q0 := 0) (wr := ([])) (WB := (wB cI cJ cZ cQ a_p0 s89)) hx hb hml hown hts hK hN (b_X5_observe l D cI cJ cZ cQ a_p0 s85 (-1 : Int32) (0 : Int32) (0 : Int32) hq90) (cwV 3 hts gL_rejects_X5_observe rfl rfl rfl e_X5_observe ⟨Nat.le_of_ble_eq_true rfl, Nat.le_of_ble_eq_true rfl⟩) hP hD hS hA pmN pmN.symm rfl rfl rfl rfl hl (Nat.le_of_ble_eq_true rfl) dL_rejects_247 ⟨Nat.zero_le _, Nat.zero_le _⟩ rfl (fun H locs hP hD hS => ?_)
                                            refine lv_bipush (v := (-2 : Int32)) hx hb dL_rejects_250 (by decide) ?_
                                            refine lv_icmp_ne (tgt := 364) hx hb dL_rejects_252 (by decide) (fun c91 => ?_) (fun c91 => ?_)
                                            · replace hf := brF c91 hf
                                              refine lv_iconst (v := (0 : Int32)) hx hb dL_rejects_364 (by decide) ?_
                                              exact (t_L_rejects_365 hC ) s89 r1 (0 : Int32) hf _ _ hP hD hS _ (lv_sub hl [1, 0] rfl)
                                            · replace hf := brT c91 hf
                                              refine lv_aload_n hx hb dL_rejects_255 rfl (lv_at hl 1 rfl) ?_
                                              refine lv_iload_n hx hb dL_rejects_256 rfl (lv_at hl 0 rfl) ?_
                                              refine lv_iconst (v := (3 : Int32)) hx hb dL_rejects_257 (by decide) ?_
                                              obtain ⟨r92, s93, hq94, hf⟩ := bnd2_of hf
                                              refine callX (As := [.int r1, .int (3 : Int32)]) (rest := []) (ci := 5) (q0 := 0) (wr := ([])) (WB := (wB cI cJ cZ cQ a_p0 s93)) hx hb hml hown hts hK hN (b_X5_possibleWeights l D cI cJ cZ cQ a_p0 s89 r1 (3 : Int32) hq94) (cwV 2 hts gL_rejects_X5_possibleWeights rfl rfl rfl e_X5_possibleWeights ⟨Nat.le_of_ble_eq_true rfl, Nat.le_of_ble_eq_true rfl⟩) hP hD hS hA pmN pmN.symm rfl rfl rfl rfl hl (Nat.le_of_ble_eq_true rfl) dL_rejects_258 ⟨Nat.zero_le _, Nat.zero_le _⟩ rfl (fun H locs hP hD hS => ?_)
                                              refine lv_iconst (v := (-1 : Int32)) hx hb dL_rejects_261 (by decide) ?_
                                              refine lv_icmp_ne (tgt := 364) hx hb dL_rejects_262 (by decide) (fun c95 => ?_) (fun c95 => ?_)
                                              · replace hf := brF c95 hf
                                                refine lv_iconst (v := (0 : Int32)) hx hb dL_rejects_364 (by decide) ?_
                                                exact (t_L_rejects_365 hC ) s93 r1 (0 : Int32) hf _ _ hP hD hS _ (lv_sub hl [1, 0] rfl)
                                              · replace hf := brT c95 hf
                                                refine lv_aload_n hx hb dL_rejects_265 rfl (lv_at hl 1 rfl) ?_
                                                refine lv_iconst (v := (0 : Int32)) hx hb dL_rejects_266 (by decide) ?_
                                                refine lv_lconst (v := (0 : Int64)) hx hb dL_rejects_267 (by decide) ?_
                                                obtain ⟨r96, s97, hq98, hf⟩ := bnd2_of hf
                                                refine callX (As := [.int (0 : Int32), .long (0 : Int64)]) (rest := []) (ci := 5) (q0 := 0) (wr := ([])) (WB := (wB cI cJ cZ cQ a_p0 s97)) hx hb hml hown hts hK hN (b_X5_runScript l D cI cJ cZ cQ a_p0 s93 (0 : Int32) (0 : Int64) hq98) (cwV 2 hts gL_rejects_X5_runScript rfl rfl rfl e_X5_runScript ⟨Nat.le_of_ble_eq_true rfl, Nat.le_of_ble_eq_true rfl⟩) hP hD hS hA pmN pmN.symm rfl rfl rfl rfl hl (Nat.le_of_ble_eq_true rfl) dL_rejects_268 ⟨Nat.zero_le _, Nat.zero_le _⟩ rfl (fun H locs hP hD hS => ?_)
                                                refine lv_bipush (v := (-2 : Int32)) hx hb dL_rejects_271 (by decide) ?_
                                                refine lv_icmp_ne (tgt := 364) hx hb dL_rejects_273 (by decide) (fun c99 => ?_) (fun c99 => ?_)
                                                · replace hf := brF c99 hf
                                                  refine lv_iconst (v := (0 : Int32)) hx hb dL_rejects_364 (by decide) ?_
                                                  exact (t_L_rejects_365 hC ) s97 r1 (0 : Int32) hf _ _ hP hD hS _ (lv_sub hl [1, 0] rfl)
                                                · replace hf := brT c99 hf
                                                  refine lv_aload_n hx hb dL_rejects_276 rfl (lv_at hl 1 rfl) ?_
                                                  refine lv_iconst (v := (4 : Int32)) hx hb dL_rejects_277 (by decide) ?_
                                                  refine lv_lconst (v := (0 : Int64)) hx hb dL_rejects_278 (by decide) ?_
                                                  obtain ⟨r100, s101, hq102, hf⟩ := bnd2_of hf
                                                  refine callX (As := [.int (4 : Int32), .long (0 : Int64)]) (rest := []) (ci := 5) (q0 := 0) (wr := ([])) (WB := (wB cI cJ cZ cQ a_p0 s101)) hx hb hml hown hts hK hN (b_X5_runScript l D cI cJ cZ cQ a_p0 s97 (4 : Int32) (0 : Int64) hq102) (cwV 2 hts gL_rejects_X5_runScript rfl rfl rfl e_X5_runScript ⟨Nat.le_of_ble_eq_true rfl, Nat.le_of_ble_eq_true rfl⟩) hP hD hS hA pmN pmN.symm rfl rfl rfl rfl hl (Nat.le_of_ble_eq_true rfl) dL_rejects_279 ⟨Nat.zero_le _, Nat.zero_le _⟩ rfl (fun H locs hP hD hS => ?_)
                                                  refine lv_bipush (v := (-2 : Int32)) hx hb dL_rejects_282 (by decide) ?_
                                                  refine lv_icmp_ne (tgt := 364) hx hb dL_rejects_284 (by decide) (fun c103 => ?_) (fun c103 => ?_)
                                                  · replace hf := brF c103 hf
                                                    refine lv_iconst (v := (0 : Int32)) hx hb dL_rejects_364 (by decide) ?_
                                                    exact (t_L_rejects_365 hC ) s101 r1 (0 : Int32) hf _ _ hP hD hS _ (lv_sub hl [1, 0] rfl)
                                                  · replace hf := brT c103 hf
                                                    refine lv_aload_n hx hb dL_rejects_287 rfl (lv_at hl 1 rfl) ?_
                                                    refine lv_iconst (v := (1 : Int32)) hx hb dL_rejects_288 (by decide) ?_
                                                    refine lv_ldc2 (v := (100000 : Int64)) hx hb hown (hts (.constantLong RL 79 (100000)) (List.mem_of_getElem? (i := 1) rfl)) dL_rejects_289 ?_
                                                    obtain ⟨r104, s105, hq106, hf⟩ := bnd2_of hf
                                                    refine callX (As := [.int (1 : Int32), .long (100000 : Int64)]) (rest := []) (ci := 5) (q0 := 0) (wr := ([])) (WB := (wB cI cJ cZ cQ a_p0 s105)) hx hb hml hown hts hK hN (b_X5_runScript l D cI cJ cZ cQ a_p0 s101 (1 : Int32) (100000 : Int64) hq106) (cwV 2 hts gL_rejects_X5_runScript rfl rfl rfl e_X5_runScript ⟨Nat.le_of_ble_eq_true rfl, Nat.le_of_ble_eq_true rfl⟩) hP hD hS hA pmN pmN.symm rfl rfl rfl rfl hl (Nat.le_of_ble_eq_true rfl) dL_rejects_292 ⟨Nat.zero_le _, Nat.zero_le _⟩ rfl (fun H locs hP hD hS => ?_)
                                                    refine lv_bipush (v := (-2 : Int32)) hx hb dL_rejects_295 (by decide) ?_
                                                    refine lv_icmp_ne (tgt := 364) hx hb dL_rejects_297 (by decide) (fun c107 => ?_) (fun c107 => ?_)
                                                    · replace hf := brF c107 hf
                                                      refine lv_iconst (v := (0 : Int32)) hx hb dL_rejects_364 (by decide) ?_
                                                      exact (t_L_rejects_365 hC ) s105 r1 (0 : Int32) hf _ _ hP hD hS _ (lv_sub hl [1, 0] rfl)
                                                    · replace hf := brT c107 hf
                                                      refine lv_aload_n hx hb dL_rejects_300 rfl (lv_at hl 1 rfl) ?_
                                                      refine lv_iconst (v := (1 : Int32)) hx hb dL_rejects_301 (by decide) ?_
                                                      refine lv_ldc2 (v := (-1 : Int64)) hx hb hown (hts (.constantLong RL 81 (-1)) (List.mem_of_getElem? (i := 2) rfl)) dL_rejects_302 ?_
                                                      obtain ⟨r108, s109, hq110, hf⟩ := bnd2_of hf
                                                      refine callX (As := [.int (1 : Int32), .long (-1 : Int64)]) (rest := []) (ci := 5) (q0 := 0) (wr := ([])) (WB := (wB cI cJ cZ cQ a_p0 s109)) hx hb hml hown hts hK hN (b_X5_runScript l D cI cJ cZ cQ a_p0 s105 (1 : Int32) (-1 : Int64) hq110) (cwV 2 hts gL_rejects_X5_runScript rfl rfl rfl e_X5_runScript ⟨Nat.le_of_ble_eq_true rfl, Nat.le_of_ble_eq_true rfl⟩) hP hD hS hA pmN pmN.symm rfl rfl rfl rfl hl (Nat.le_of_ble_eq_true rfl) dL_rejects_305 ⟨Nat.zero_le _, Nat.zero_le _⟩ rfl (fun H locs hP hD hS => ?_)
                                                      refine lv_bipush (v := (-2 : Int32)) hx hb dL_rejects_308 (by decide) ?_
                                                      refine lv_icmp_ne (tgt := 364) hx hb dL_rejects_310 (by decide) (fun c111 => ?_) (fun c111 => ?_)
                                                      · replace hf := brF c111 hf
                                                        refine lv_iconst (v := (0 : Int32)) hx hb dL_rejects_364 (by decide) ?_
                                                        exact (t_L_rejects_365 hC ) s109 r1 (0 : Int32) hf _ _ hP hD hS _ (lv_sub hl [1, 0] rfl)
                                                      · replace hf := brT c111 hf
                                                        refine lv_aload_n hx hb dL_rejects_313 rfl (lv_at hl 1 rfl) ?_
                                                        refine lv_lconst (v := (1 : Int64)) hx hb dL_rejects_314 (by decide) ?_
                                                        refine lv_iload_n hx hb dL_rejects_315 rfl (lv_at hl 0 rfl) ?_
                                                        refine lv_iconst (v := (0 : Int32)) hx hb dL_rejects_316 (by decide) ?_
                                                        obtain ⟨r112, s113, hq114, hf⟩ := bnd2_of hf
                                                        refine callX (As := [.long (1 : Int64), .int r1, .int (0 : Int32)]) (rest := []) (ci := 5) (q0 := 0) (wr := ([])) (WB := (wB cI cJ cZ cQ a_p0 s113)) hx hb hml hown hts hK hN (b_X5_sample l D cI cJ cZ cQ a_p0 s109 (1 : Int64) r1 (0 : Int32) hq114) (cwV 3 hts gL_rejects_X5_sample rfl rfl rfl e_X5_sample ⟨Nat.le_of_ble_eq_true rfl, Nat.le_of_ble_eq_true rfl⟩) hP hD hS hA pmN pmN.symm rfl rfl rfl rfl hl (Nat.le_of_ble_eq_true rfl) dL_rejects_317 ⟨Nat.zero_le _, Nat.zero_le _⟩ rfl (fun H locs hP hD hS => ?_)
                                                        refine lv_iconst (v := (-1 : Int32)) hx hb dL_rejects_320 (by decide) ?_
                                                        refine lv_icmp_ne (tgt := 364) hx hb dL_rejects_321 (by decide) (fun c115 => ?_) (fun c115 => ?_)
                                                        · replace hf := brF c115 hf
                                                          refine lv_iconst (v := (0 : Int32)) hx hb dL_rejects_364 (by decide) ?_
                                                          exact (t_L_rejects_365 hC ) s113 r1 (0 : Int32) hf _ _ hP hD hS _ (lv_sub hl [1, 0] rfl)
                                                        · replace hf := brT c115 hf
                                                          refine lv_aload_n hx hb dL_rejects_324 rfl (lv_at hl 1 rfl) ?_
                                                          refine lv_iconst (v := (2 : Int32)) hx hb dL_rejects_325 (by decide) ?_
                                                          obtain ⟨r116, s117, hq118, hf⟩ := bnd2_of hf
                                                          refine callX (As := [.int (2 : Int32)]) (rest := []) (ci := 5) (q0 := 0) (wr := ([])) (WB := (wB cI cJ cZ cQ a_p0 s117)) hx hb hml hown hts hK hN (b_X5_save l D cI cJ cZ cQ a_p0 s113 (2 : Int32) hq118) (cwV 1 hts gL_rejects_X5_save rfl rfl rfl e_X5_save ⟨Nat.le_of_ble_eq_true rfl, Nat.le_of_ble_eq_true rfl⟩) hP hD hS hA pmN pmN.symm rfl rfl rfl rfl hl (Nat.le_of_ble_eq_true rfl) dL_rejects_326 ⟨Nat.zero_le _, Nat.zero_le _⟩ rfl (fun H locs hP hD hS => ?_)
                                                          refine lv_iconst (v := (-1 : Int32)) hx hb dL_rejects_329 (by decide) ?_
                                                          refine lv_icmp_ne (tgt := 364) hx hb dL_rejects_330 (by decide) (fun c119 => ?_) (fun c119 => ?_)
                                                          · replace hf := brF c119 hf
                                                            refine lv_iconst (v := (0 : Int32)) hx hb dL_rejects_364 (by decide) ?_
                                                            exact (t_L_rejects_365 hC ) s117 r1 (0 : Int32) hf _ _ hP hD hS _ (lv_sub hl [1, 0] rfl)
                                                          · replace hf := brT c119 hf
                                                            refine lv_aload_n hx hb dL_rejects_333 rfl (lv_at hl 1 rfl) ?_
                                                            refine lv_iconst (v := (-1 : Int32)) hx hb dL_rejects_334 (by decide) ?_
                                                            obtain ⟨r120, s121, hq122, hf⟩ := bnd2_of hf
                                                            refine callX (As := [.int (-1 : Int32)]) (rest := []) (ci := 5) (q0 := 0) (wr := ([])) (WB := (wB cI cJ cZ cQ a_p0 s121)) hx hb hml hown hts hK hN (b_X5_restore l D cI cJ cZ cQ a_p0 s117 (-1 : Int32) hq122) (cwV 1 hts gL_rejects_X5_restore rfl rfl rfl e_X5_restore ⟨Nat.le_of_ble_eq_true rfl, Nat.le_of_ble_eq_true rfl⟩) hP hD hS hA pmN pmN.symm rfl rfl rfl rfl hl (Nat.le_of_ble_eq_true rfl) dL_rejects_335 ⟨Nat.zero_le _, Nat.zero_le _⟩ rfl (fun H locs hP hD hS => ?_)
                                                            refine lv_iconst (v := (-1 : Int32)) hx hb dL_rejects_338 (by decide) ?_
                                                            refine lv_icmp_ne (tgt := 364) hx hb dL_rejects_339 (by decide) (fun c123 => ?_) (fun c123 => ?_)
                                                            · replace hf := brF c123 hf
                                                              refine lv_iconst (v := (0 : Int32)) hx hb dL_rejects_364 (by decide) ?_
                                                              exact (t_L_rejects_365 hC ) s121 r1 (0 : Int32) hf _ _ hP hD hS _ (lv_sub hl [1, 0] rfl)
                                                            · replace hf := brT c123 hf
                                                              refine lv_iload_n hx hb dL_rejects_342 rfl (lv_at hl 0 rfl) ?_
                                                              refine lv_bipush (v := (10 : Int32)) hx hb dL_rejects_343 (by decide) ?_
                                                              refine lv_icmp_lt (tgt := 360) hx hb dL_rejects_345 (by decide) (fun c124 => ?_) (fun c124 => ?_)
                                                              · replace hf := brT c124 hf
                                                                refine lv_iconst (v := (1 : Int32)) hx hb dL_rejects_360 (by decide) ?_
                                                                refine lv_goto (tgt := 365) hx hb dL_rejects_361 (by decide) ?_
                                                                exact (t_L_rejects_365 hC ) s121 r1 (1 : Int32) hf _ _ hP hD hS _ (lv_sub hl [1, 0] rfl)
                                                              · replace hf := brF c124 hf
                                                                refine lv_aload_n hx hb dL_rejects_348 rfl (lv_at hl 1 rfl) ?_
                                                                refine lv_iconst (v := (0 : Int32)) hx hb dL_rejects_349 (by decide) ?_
                                                                refine lv_iconst (v := (0 : Int32)) hx hb dL_rejects_350 (by decide) ?_
                                                                refine lv_iconst (v := (0 : Int32)) hx hb dL_rejects_351 (by decide) ?_
                                                                obtain ⟨r125, s126, hq127, hf⟩ := bnd2_of hf
                                                                refine callX (As := [.int (0 : Int32), .int (0 : Int32), .int (0 : Int32)]) (rest := []) (ci := 5) (q0 := 0) (wr := ([])) (WB := (wB cI cJ cZ cQ a_p0 s126)) hx hb hml hown hts hK hN (b_X5_add l D cI cJ cZ cQ a_p0 s121 (0 : Int32) (0 : Int32) (0 : Int32) hq127) (cwV 3 hts gL_rejects_X5_add rfl rfl rfl e_X5_add ⟨Nat.le_of_ble_eq_true rfl, Nat.le_of_ble_eq_true rfl⟩) hP hD hS hA pmN pmN.symm rfl rfl rfl rfl hl (Nat.le_of_ble_eq_true rfl) dL_rejects_352 ⟨Nat.zero_le _, Nat.zero_le _⟩ rfl (fun H locs hP hD hS => ?_)
                                                                refine lv_bipush (v := (-4 : Int32)) hx hb dL_rejects_355 (by decide) ?_
                                                                refine lv_icmp_ne (tgt := 364) hx hb dL_rejects_357 (by decide) (fun c128 => ?_) (fun c128 => ?_)
                                                                · replace hf := brF c128 hf
                                                                  refine lv_iconst (v := (0 : Int32)) hx hb dL_rejects_364 (by decide) ?_
                                                                  exact (t_L_rejects_365 hC ) s126 r1 (0 : Int32) hf _ _ hP hD hS _ (lv_sub hl [1, 0] rfl)
                                                                · replace hf := brT c128 hf
                                                                  refine lv_iconst (v := (1 : Int32)) hx hb dL_rejects_360 (by decide) ?_
                                                                  refine lv_goto (tgt := 365) hx hb dL_rejects_361 (by decide) ?_
                                                                  exact (t_L_rejects_365 hC ) s126 r1 (1 : Int32) hf _ _ hP hD hS _ (lv_sub hl [1, 0] rfl)
theorem c_L_rejects (l : Launch) (D : va_G) (cI cJ cZ cQ : ClassId) (a_p0 : AB) (s_p0 : ST)  {res : R_L_rejects} (hf : f_L_rejects_0 s_p0  = some res) : MetI l D (tys4 cI cJ cZ cQ) yL_rejects wsL_rejects rm_L_rejects [.ref (a_p0.1 0)] (wB cI cJ cZ cQ a_p0 s_p0) (wB cI cJ cZ cQ a_p0 res.2) res.1 := by
  intro sz
  exact metW (own := RL) (cc := cL_rejects) (nL := 3) (ret := (some .boolean)) (Qc := fun A => qI D (tys4 cI cJ cZ cQ) (wB cI cJ cZ cQ a_p0 res.2) A res.1) (by decide) rfl rfl (Nat.le_of_ble_eq_true rfl) (fun p e s m args below meth c A hC hP hD hS ls hl => t_L_rejects_0 hC s_p0  hf _ _ hP hD hS _ (lv_sub hl [0] rfl)) sz
theorem e_L_rejects : yL_rejects.cls ≠ "java/lang/invoke/MethodHandle" ∧ yL_rejects.cls ≠ "java/lang/invoke/VarHandle" ∧ (parseMethodDescriptor yL_rejects.desc).map (fun d => d.parameters.length) = some 1 := by decide +kernel
