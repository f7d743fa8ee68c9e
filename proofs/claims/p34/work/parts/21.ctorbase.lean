/-! ===== worlds up to order; calls that make cells ===== -/
theorem va_P_perm {D : va_G} {cl : List vw_C} {ws ws' : va_W} {H : Heap} (h : ws.Perm ws') (hP : va_P D cl ws H) : va_P D cl ws' H := fun k q hk => by
  have hm : q ∈ ws := h.mem_iff.mpr (List.mem_of_getElem? hk)
  obtain ⟨i, hi⟩ := List.getElem?_of_mem hm
  exact hP i q hi
theorem va_D_nodup {A : Nat → Prop} {ws : va_W} : va_D A ws ↔ (ws.map (fun q => q.1)).Nodup ∧ ∀ q ∈ ws, A q.1 := by
  constructor
  · intro h
    refine ⟨List.pairwise_iff_getElem.mpr fun i j hi hj hij he => ?_, fun q hq => ?_⟩
    · rw [List.length_map] at hi hj
      rw [List.getElem_map, List.getElem_map] at he
      have := h.1 i j _ _ (List.getElem?_eq_getElem hi) (List.getElem?_eq_getElem hj) he
      omega
    · obtain ⟨i, hi⟩ := List.getElem?_of_mem hq
      exact h.2 i q hi
  · intro h
    refine ⟨fun i j p q hi hj he => ?_, fun k q hk => h.2 q (List.mem_of_getElem? hk)⟩
    have hn := List.pairwise_iff_getElem.mp h.1
    obtain ⟨li, ei⟩ := List.getElem?_eq_some_iff.mp hi
    obtain ⟨lj, ej⟩ := List.getElem?_eq_some_iff.mp hj
    rcases Nat.lt_trichotomy i j with h1 | h1 | h1
    · exact absurd (by rw [List.getElem_map, List.getElem_map, ei, ej]; exact he) (hn i j (by rw [List.length_map]; exact li) (by rw [List.length_map]; exact lj) h1)
    · exact h1
    · exact absurd (by rw [List.getElem_map, List.getElem_map, ei, ej]; exact he.symm) (hn j i (by rw [List.length_map]; exact lj) (by rw [List.length_map]; exact li) h1)
theorem va_D_perm {A : Nat → Prop} {ws ws' : va_W} (h : ws.Perm ws') (hD : va_D A ws) : va_D A ws' := by
  rw [va_D_nodup] at hD ⊢
  exact ⟨(h.map _).nodup hD.1, fun q hq => hD.2 q (h.mem_iff.mpr hq)⟩
theorem va_P_left {D : va_G} {cl : List vw_C} {w1 w2 : va_W} {H : Heap} (hP : va_P D cl (w1 ++ w2) H) : va_P D cl w1 H := fun k q hk => hP k q (by rw [List.getElem?_append_left (List.getElem?_eq_some_iff.mp hk).1]; exact hk)
theorem va_P_right {D : va_G} {cl : List vw_C} {w1 w2 : va_W} {H : Heap} (hP : va_P D cl (w1 ++ w2) H) : va_P D cl w2 H := va_P_left (va_P_perm List.perm_append_comm hP)
theorem va_D_left {A : Nat → Prop} {w1 w2 : va_W} (hD : va_D A (w1 ++ w2)) : va_D A w1 := by
  rw [va_D_nodup] at hD ⊢
  rw [List.map_append, List.nodup_append] at hD
  exact ⟨hD.1.1, fun q hq => hD.2 q (List.mem_append_left _ hq)⟩
theorem range_map_left {w1 w2 : va_W} : (List.range w1.length).map (fun i => (w1 ++ w2)[i]?) = w1.map some := by
  apply List.ext_getElem?
  intro i
  rw [List.getElem?_map, List.getElem?_map]
  by_cases h : i < w1.length
  · rw [List.getElem?_range h, List.getElem?_eq_getElem h]
    show some ((w1 ++ w2)[i]?) = _
    rw [List.getElem?_append_left h, List.getElem?_eq_getElem h]; rfl
  · rw [List.getElem?_eq_none (by rw [List.length_range]; omega), List.getElem?_eq_none (by omega)]; rfl
theorem range_map_right {w1 w2 : va_W} : (List.range' w1.length w2.length).map (fun i => (w1 ++ w2)[i]?) = w2.map some := by
  apply List.ext_getElem?
  intro i
  rw [List.getElem?_map, List.getElem?_map]
  by_cases h : i < w2.length
  · rw [List.getElem?_range' (by omega), List.getElem?_eq_getElem h]
    show some ((w1 ++ w2)[w1.length + 1 * i]?) = _
    rw [List.getElem?_append_right (by omega), show w1.length + 1 * i - w1.length = i by omega, List.getElem?_eq_getElem h]; rfl
  · rw [List.getElem?_eq_none (by rw [List.length_range']; omega), List.getElem?_eq_none (by omega)]; rfl
theorem va_nd_of {l : List Nat} (h : l.Nodup) : va_nd l = true := by
  induction l with
  | nil => rfl
  | cons a l ih =>
    rw [List.nodup_cons] at h
    simp only [va_nd, Bool.and_eq_true, decide_eq_true_eq]
    exact ⟨h.1, ih h.2⟩
theorem joinP {A0 : Nat → Prop} {D : va_G} {cl : List vw_C} {W0 wr W1 : va_W} {H H1 : Heap} (hP : va_P D cl (W0 ++ wr) H) (hD : va_D A0 (W0 ++ wr))
    (hk : ∀ q : Nat, q < H.size → ¬ va_A W0 H.size q → H1[q]? = H[q]?) (hF : ∀ q, va_A W0 H.size q → A0 q) (hP1 : va_P D cl W1 H1) (hD1 : va_D (va_A W0 H.size) W1) : va_P D cl (W1 ++ wr) H1 ∧ va_D A0 (W1 ++ wr) := by
  obtain ⟨h1, h2⟩ := va_join (wc := W0) (wr := wr) (w1 := W1) hP hD (List.range W0.length) (List.range' W0.length wr.length) range_map_left range_map_right (va_nd_of (List.nodup_range' (step := 1))) (fun i hi hj => by
    rw [List.mem_range'_1] at hi
    rw [List.mem_range] at hj
    omega) hk hF hP1 hD1
  exact ⟨va_P_perm List.perm_append_comm h1, va_D_perm List.perm_append_comm h2⟩
theorem freeP {A0 : Nat → Prop} {W0 wr : va_W} {H0 H : Heap} {locs : List Loc} (hD : va_D A0 (W0 ++ wr)) (hS : va_S A0 H0 H locs) (hA : ∀ q, H0.size ≤ q → A0 q) : ∀ q, va_A W0 H.size q → A0 q :=
  va_free (wc := W0) hD hS hA (List.range W0.length) range_map_left
def MetN {S : Type} (l : Launch) (D : va_G) (tys : List (ClassId × FieldType)) (y : MethodName) (ws : List Cond) (rm : Room) (av : List Value) (W0 : va_W) (W1 : S → va_W) (mc ms : Nat) : Prop := ∀ sz : Nat, Met l y ws rm (va_Pc av (cP D tys W0 sz)) (va_Qv (fun _ : S => True) (fun u => cB D tys (W1 u) (va_A W0 sz) ()) (va_A W0 sz)) mc ms (va_A W0 sz)
/-- an answer that is a cell -/
def MetR {S : Type} (l : Launch) (D : va_G) (tys : List (ClassId × FieldType)) (y : MethodName) (ws : List Cond) (rm : Room) (av : List Value) (W0 : va_W) (W1 : Nat → S → va_W) (mc ms : Nat) : Prop := ∀ sz : Nat, Met l y ws rm (va_Pc av (cP D tys W0 sz)) (va_Qr (fun _ : S => True) (fun u a => cB D tys (W1 a u) (va_A W0 sz) ()) (va_A W0 sz)) mc ms (va_A W0 sz)
section CTB
variable {p : Program} {l : Launch} {e : Env} {R : Room} {s : State} {m : MethodId} {args : Array Value} {below : List Frame} {meth : Method} {c : Code} {H : Heap} {locs : List Loc} {cells slots : Nat} {Q : State → Prop}
variable {D : va_G} {tys : List (ClassId × FieldType)} {y : MethodName} {bytes cc : ByteArray} {maxL nL n index pc mc ms : Nat} {ret : Option FieldType} {ws : List Cond} {rm : Room} {Ts : List Cond} {own C host : String} {b : Addr} {As rest st0 : List Value} {W0 W1 WW WB wr : va_W} {A : Nat → Prop} {H0 : Heap} {ls : Array Slot} {lv : List (Nat × Value)} {a : Array Value}
theorem callC {S : Type} {W1 : S → va_W} (hx : p.tables.exec = Jvm.exec) (hb : c.code = cc) (hml : c.maxLocals = nL) (hown : s.vm.findClass own = some m.cls) (hts : ∀ w ∈ Ts, w.before args s = true) (hK : va_K D vwCl tys s) (hN : nest s)
    (hM : MetN l D tys y ws rm (.ref b :: As) W0 W1 mc ms) (cw : CallB R s args own index y bytes maxL none ws rm mc ms n ∧ y.name = "<init>" ∧ (Cond.instanceMethod y).before args s = true)
    (hP : va_P D vwCl WW H) (hD : va_D A WW) (hS : va_S A H0 H locs) (hA : ∀ q : Nat, H0.size ≤ q → A q) (hp : WW.Perm (W0 ++ wr)) (hn : As.length = n) (hl : lv_has ls nL lv) (hroom : (rest.map fun v => v.category).sum ≤ 8) (hdg : decode cc pc = .ok (.invokespecial index, 3)) (hf : cells + mc ≤ R.cells ∧ slots + ms ≤ R.slots) (hst : st0 = As.reverse ++ .ref b :: rest)
    (kk : ∀ (u : S) (H1 : Heap) (locs1 : List Loc), va_P D vwCl (W1 u ++ wr) H1 → va_D A (W1 u ++ wr) → va_S A H0 H1 locs1 → W p l e R s m args below meth c H1 locs1 (cells + mc) (slots + ms) Q (F0 m (pc + 3) ls rest)) : W p l e R s m args below meth c H locs cells slots Q (F0 m pc ls st0) := by
  have hP := va_P_perm hp hP
  have hD := va_D_perm hp hD
  have hPc := va_P_left hP
  have hDc := va_D_left hD
  have hFc := freeP hD hS hA
  refine va_callv (va_runI (As := As) (rest := rest) ⟨hx, hb, hml, hown, hts⟩ (hM H.size) cw ⟨cP_blind, fun U hU hW => ⟨rfl, by rw [hU], by rw [hU]; exact hPc, ⟨va_K.moved hW.alike hK, nest_warm hW hN⟩, hDc.weaken (fun _ _ _ _ => trivial)⟩⟩ rfl hn hl.1 hst (lv_room hroom) hdg hf) hS (fun q _ h => hFc q h) hFc (fun u t H1 locs1 ht hvm hw hB1 hz1 hk1 hS1 => ?_)
  obtain ⟨hP1, -, hD1⟩ := hB1
  rw [ht] at hP1
  obtain ⟨hP2, hD2⟩ := joinP hP hD hk1 hFc hP1 hD1
  exact kk u H1 locs1 hP2 hD2 hS1
theorem callQ {S : Type} {W1 : Nat → S → va_W} (hx : p.tables.exec = Jvm.exec) (hb : c.code = cc) (hml : c.maxLocals = nL) (hown : s.vm.findClass own = some m.cls) (hts : ∀ w ∈ Ts, w.before args s = true) (hK : va_K D vwCl tys s) (hN : nest s)
    (hM : MetR l D tys y ws rm As W0 W1 mc ms) (cw : CallB R s args own index y bytes maxL ret ws rm mc ms n ∧ (Cond.static y).before args s = true)
    (hP : va_P D vwCl WW H) (hD : va_D A WW) (hS : va_S A H0 H locs) (hA : ∀ q : Nat, H0.size ≤ q → A q) (hp : WW.Perm (W0 ++ wr)) (hn : As.length = n) (hl : lv_has ls nL lv) (hroom : (rest.map fun v => v.category).sum ≤ 8) (hdg : decode cc pc = .ok (.invokestatic index, 3)) (hf : cells + mc ≤ R.cells ∧ slots + ms ≤ R.slots) (hst : st0 = As.reverse ++ rest)
    (kk : ∀ (q : Nat) (u : S) (H1 : Heap) (locs1 : List Loc), va_P D vwCl (W1 q u ++ wr) H1 → va_D A (W1 q u ++ wr) → va_S A H0 H1 locs1 → W p l e R s m args below meth c H1 locs1 (cells + mc) (slots + ms) Q (F0 m (pc + 3) ls (.ref q :: rest))) : W p l e R s m args below meth c H locs cells slots Q (F0 m pc ls st0) := by
  have hP := va_P_perm hp hP
  have hD := va_D_perm hp hD
  have hPc := va_P_left hP
  have hDc := va_D_left hD
  have hFc := freeP hD hS hA
  refine va_callr (va_runS (As := As) (rest := rest) ⟨hx, hb, hml, hown, hts⟩ (hM H.size) cw ⟨cP_blind, fun U hU hW => ⟨rfl, by rw [hU], by rw [hU]; exact hPc, ⟨va_K.moved hW.alike hK, nest_warm hW hN⟩, hDc.weaken (fun _ _ _ _ => trivial)⟩⟩ rfl hn hl.1 hst (lv_room hroom) hdg hf) hS (fun q _ h => hFc q h) hFc (fun u q t H1 locs1 ht hvm hw hB1 hz1 hk1 hS1 => ?_)
  obtain ⟨hP1, -, hD1⟩ := hB1
  rw [ht] at hP1
  obtain ⟨hP2, hD2⟩ := joinP hP hD hk1 hFc hP1 hD1
  exact kk q u H1 locs1 hP2 hD2 hS1
/-- a call of a method of the class or of the reference, by the law -/
theorem callX {ci q0 : Nat} {fs : List Value} {qc : vw_C} {r : Int32} (hx : p.tables.exec = Jvm.exec) (hb : c.code = cc) (hml : c.maxLocals = nL) (hown : s.vm.findClass own = some m.cls) (hts : ∀ w ∈ Ts, w.before args s = true) (hK : va_K D vwCl tys s) (hN : nest s)
    (hM : MetI l D tys y ws rm (.ref b :: As) W0 W1 r) (cw : CallW R s args own C index y bytes maxL ret ws rm 0 0 n)
    (hP : va_P D vwCl WW H) (hD : va_D A WW) (hS : va_S A H0 H locs) (hA : ∀ q : Nat, H0.size ≤ q → A q) (hp : WW.Perm (W0 ++ wr)) (hq : (W1 ++ wr).Perm WB) (hc : vwCl[ci]? = some qc) (hCe : qc.1 = C) (he : W0[q0]? = some (b, .inr (ci, fs))) (hn : As.length = n) (hl : lv_has ls nL lv) (hroom : (rest.map fun v => v.category).sum ≤ 8) (hdg : decode cc pc = .ok (.invokevirtual index, 3)) (hf : cells ≤ R.cells ∧ slots ≤ R.slots) (hst : st0 = As.reverse ++ .ref b :: rest)
    (kk : ∀ (H1 : Heap) (locs1 : List Loc), va_P D vwCl WB H1 → va_D A WB → va_S A H0 H1 locs1 → W p l e R s m args below meth c H1 locs1 cells slots Q (F0 m (pc + 3) ls (.int r :: rest))) : W p l e R s m args below meth c H locs cells slots Q (F0 m pc ls st0) := by
  have hP := va_P_perm hp hP
  have hD := va_D_perm hp hD
  have hPc := va_P_left hP
  have hDc := va_D_left hD
  have hFc := freeP hD hS hA
  refine va_calli (va_runV (As := As) (rest := rest) ⟨hx, hb, hml, hown, hts⟩ (hM H.size) cw ⟨cP_blind, ?_, fun U hU hW => ⟨rfl, by rw [hU], by rw [hU]; exact hPc, ⟨va_K.moved hW.alike hK, nest_warm hW hN⟩, hDc.weaken (fun _ _ _ _ => trivial)⟩⟩ rfl hn hl.1 hst (lv_room hroom) hdg ⟨by omega, by omega⟩) hS (fun q _ h => hFc q h) hFc (fun r' u t H1 locs1 ht hvm hw hB1 hz1 hk1 hS1 => ?_)
  · rw [← hCe]
    exact va_recv hK hPc hc he
  · obtain ⟨hP1, -, hD1⟩ := hB1
    rw [ht] at hP1
    obtain ⟨hP2, hD2⟩ := joinP hP hD hk1 hFc hP1 hD1
    rw [show r' = r from hw]
    exact kk H1 locs1 (va_P_perm hq hP2) (va_D_perm hq hD2) hS1
theorem newA (hexec : p.tables.exec = Jvm.exec) (hb : c.code = cc) {atype : ArrayType} (harr : (Cond.arrayClass (newarray.typeOf atype)).before args s = true) {ty : FieldType} (hty : newarray.typeOf atype = ty) (hra : ∀ c1 c2 : ClassId, va_RA s c1 ty → va_RA s c2 ty → c1 = c2) (hK : va_K D vwCl tys s) (t0 : Nat) {cT : ClassId} (ht0 : tys[t0]? = some (cT, ty)) (hP : va_P D vwCl WW H) (hD : va_D A WW) (hS : va_S A H0 H locs) (hA : ∀ q, H0.size ≤ q → A q)
    {i : Int32} {N' : Nat} {a0 : vp_A} (ha : ∀ cA : ClassId, vp_cell cA a0 = arrV cA N' (fun _ => defaultValue ty)) (hn : ¬ i < 0) (hN : i.toNatClampNeg = N') (hbytes : N' * componentBytes ty ≤ 536870912) (hcells : cells + 1 ≤ R.cells) (hslots : slots + N' ≤ R.slots) (hdg : decode cc pc = .ok (.newarray atype, 2))
    (kk : ∀ (q : Nat) (H1 : Heap), va_P D vwCl (WW ++ [(q, .inl (cT, a0))]) H1 → va_D A (WW ++ [(q, .inl (cT, a0))]) → va_S A H0 H1 locs →
      W p l e R s m args below meth c H1 locs (cells + 1) (slots + N') Q (F0 m (pc + 2) ls (.ref q :: rest))) : W p l e R s m args below meth c H locs cells slots Q (F0 m pc ls (.int i :: rest)) := by
  refine va_newa hexec hb harr hty hK hP hD hS hA ha hn hN hbytes hcells hslots hdg (fun q cA H1 hK1 hP1 hD1 hS1 => ?_)
  have h1 := (hK.2 _ _ ht0).2
  have h2 := (hK1.2 tys.length (cA, ty) (by simp)).2
  have h3 : cA = cT := hra _ _ h2 h1
  subst h3
  exact kk q H1 hP1 hD1 hS1
theorem newQ (hexec : p.tables.exec = Jvm.exec) (hb : c.code = cc) {own C : String} {index : Nat} (hown : s.vm.findClass own = some m.cls) (hclink : (Cond.classLink own index C).before args s = true) (hover : va_AO C s) (hK : va_K D vwCl tys s) (t0 : Nat) {cT : ClassId} (ht0 : tys[t0]? = some (cT, .object C)) (hP : va_P D vwCl WW H) (hD : va_D A WW) (hS : va_S A H0 H locs) (hA : ∀ q, H0.size ≤ q → A q)
    {i : Int32} {N' : Nat} (hn : ¬ i < 0) (hN : i.toNatClampNeg = N') (hbytes : N' * 4 ≤ 536870912) (hcells : cells + 1 ≤ R.cells) (hslots : slots + N' ≤ R.slots) (hdg : decode cc pc = .ok (.anewarray index, 3))
    (kk : ∀ (q : Nat) (H1 : Heap), va_P D vwCl (WW ++ [(q, .inl (cT, N', .inr (.inr (.inr (.inr (fun _ => none))))))]) H1 → va_D A (WW ++ [(q, .inl (cT, N', .inr (.inr (.inr (.inr (fun _ => none))))))]) → va_S A H0 H1 locs →
      W p l e R s m args below meth c H1 locs (cells + 1) (slots + N') Q (F0 m (pc + 3) ls (.ref q :: rest))) : W p l e R s m args below meth c H locs cells slots Q (F0 m pc ls (.int i :: rest)) := by
  refine va_newq hexec hb hown hclink hover hK hP hD hS hA hn hN hbytes hcells hslots hdg (fun q cA H1 hK1 hP1 hD1 hS1 => ?_)
  obtain ⟨k1, c1, e1, e2, e3, h1⟩ := (hK.2 _ _ ht0).2
  obtain ⟨k2, c2, f1, f2, f3, h2⟩ := (hK1.2 tys.length (cA, .object C) (by simp)).2
  have h3 : cA = cT := Option.some.inj (h2.symm.trans h1)
  subst h3
  exact kk q H1 hP1 hD1 hS1
theorem endN {S : Type} {W1 : S → va_W} (hC : mcx own cc none nL Ts p s m args meth c A D tys) (u : S) (hP : va_P D vwCl (W1 u) H) (hD : va_D A (W1 u)) (hS : va_S A s.heap H locs) (hdg : decode cc pc = .ok (.return_, 1)) :
    W p l e R s m args below meth c H locs cells slots (MQ below (va_Qv (fun _ : S => True) (fun u => cB D tys (W1 u) A ()) A) args s cells slots A) (F0 m pc ls []) := by
  obtain ⟨hx, hb, hr, hml, hown, hts, hlocks, hA, hK, hN⟩ := hC
  exact W.vret hx hb hr (fun t ht hW => ⟨⟨u, rfl, trivial, by rw [ht]; exact hP, va_K.moved hW.alike hK, hD⟩, hS.F ht⟩) hS.2.2 hdg
theorem endR {S : Type} {W1 : Nat → S → va_W} {q : Nat} {rt : FieldType} (hC : mcx own cc (some rt) nL Ts p s m args meth c A D tys) (hrt : (∃ n, rt = .object n) ∨ ∃ t, rt = .array t) (u : S) (hP : va_P D vwCl (W1 q u) H) (hD : va_D A (W1 q u)) (hS : va_S A s.heap H locs) (hdg : decode cc pc = .ok (.areturn, 1)) :
    W p l e R s m args below meth c H locs cells slots (MQ below (va_Qr (fun _ : S => True) (fun u a => cB D tys (W1 a u) A ()) A) args s cells slots A) (F0 m pc ls [.ref q]) := by
  obtain ⟨hx, hb, hr, hml, hown, hts, hlocks, hA, hK, hN⟩ := hC
  exact W.aret hx hb hr hrt (Or.inr ⟨q, rfl⟩) (fun t ht hW => ⟨⟨u, q, rfl, trivial, by rw [ht]; exact hP, va_K.moved hW.alike hK, hD⟩, hS.F ht⟩) hS.2.2 hdg
/-- a contract out of the walk from the method's entry, for methods that make cells -/
theorem metWN {av : List Value} {Qc : (Nat → Prop) → Array Value → State → Outcome → State → Prop} {ws' : List Cond} (hy : plainName y.cls = true) (hown : y.cls = own) (hws : ws = Cond.code y cc nL ret :: ws') (hnl : (lg_sl av).length ≤ nL)
    (body : ∀ (p : Program) (e : Env) (s : State) (m : MethodId) (args : Array Value) (below : List Frame) (meth : Method) (c : Code) (A : Nat → Prop), mcx own cc ret nL ws p s m args meth c A D tys → meth.name = y.name → va_P D vwCl W0 s.heap → va_D A W0 → va_S A s.heap s.heap [] → ∀ ls : Array Slot, lv_has ls nL (lv_args 0 av) →
      W p l e (headSpec ws rm).room s m args below meth c s.heap [] 0 0 (MQ below (Qc A) args s mc ms A) (F0 m 0 ls [])) (sz : Nat) : Met l y ws rm (va_Pc av (cP D tys W0 sz)) (Qc (va_A W0 sz)) mc ms (va_A W0 sz) := by
  refine Met.ofW (cc := cc) (maxL := nL) (ret := ret) hy hws ?_
  intro p e s m args below meth c s₁ B hml hv
  obtain ⟨rfl, hsz, hP, ⟨hK, hN⟩, hD0⟩ := hv
  have hts := atoms_spec (ws := ws) B.pre
  have hown' : s.vm.findClass own = some m.cls := by rw [← hown]; exact findClass_of_methodNamed B.named
  subst hsz
  have hD := hD0.self (sz := s.heap.size)
  have hl := lv_entry av (n := nL) hnl
  rw [lg_entry_eq]
  exact body p e s m _ below meth c _ ⟨B.exec, B.bytes, B.returns, hml, hown', hts, B.notSynchronized, fun q h => Or.inr h, hK, hN⟩ (name_of_methodNamed B.named B.method).1 hP hD va_S.rf _ hl
end CTB
theorem perm_idx {E W0 wr T : va_W} (n : Nat) (hn : E.length = n) (isC isR : List Nat) (hp : (isC ++ isR).Perm (List.range n)) (hC : isC.map (fun i => E[i]?) = W0.map some) (hR : isR.map (fun i => E[i]?) = wr.map some) : (E ++ T).Perm (W0 ++ (wr ++ T)) := by
  subst hn
  have h1 : ((isC ++ isR).map (fun i => E[i]?)).Perm ((List.range E.length).map (fun i => E[i]?)) := hp.map _
  have h2 : (List.range E.length).map (fun i => E[i]?) = E.map some := by
    have := range_map_left (w1 := E) (w2 := [])
    rwa [List.append_nil] at this
  rw [h2, List.map_append, hC, hR, ← List.map_append] at h1
  have h3 : ((W0 ++ wr).map some).filterMap id = W0 ++ wr := by rw [List.filterMap_map]; exact List.filterMap_some
  have h4 : (E.map some).filterMap id = E := by rw [List.filterMap_map]; exact List.filterMap_some
  have h5 := h1.filterMap id
  rw [h3, h4] at h5
  rw [← List.append_assoc]
  exact h5.symm.append_right T
