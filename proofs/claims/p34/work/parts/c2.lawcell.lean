/-! ===== the law: its script, its loop, its entry ===== -/
theorem mem_ao : Cond.arrayOver (.object "PowerDiagram$Sites") ∈ lw_tbl := by decide +kernel
theorem mem_n1 : Cond.methodLinkNest RX2 58 yX5_isWeight "PowerDiagram" ∈ lw_tbl := by decide +kernel
theorem mem_n2 : Cond.methodLinkNest RX2 65 yX5_inSquare "PowerDiagram" ∈ lw_tbl := by decide +kernel
def clP (D : va_G) (tys : List (ClassId × FieldType)) (b L : Nat) (xs : Nat → Int32) (sz : Nat) (U : State) : Prop := cP D tys [] sz U ∧ b < sz ∧ va_X b L xs U U.heap
theorem clP_blind {D : va_G} {tys : List (ClassId × FieldType)} {b L : Nat} {xs : Nat → Int32} {sz : Nat} {av : List Value} : FrameBlind (va_Pc av (clP D tys b L xs sz)) := fun a U g mk q => by
  obtain ⟨q0, qc, qb, qx⟩ := q
  have h := cP_blind (av := av) a U g mk ⟨q0, qc⟩
  exact ⟨q0, h.2, qb, va_X.moved (u := U) (U := U.calling g mk a) (Vm.Alike.refl U.vm) qx⟩
def cellV (xs : Nat → Int32) (L k : Nat) : Int32 := (if k < L then xs k else (15503297 : Int32) * iI (k : Nat) + 9587) &&& 2147483647
theorem cellV_ex (xs : Nat → Int32) (L k : Nat) : ∃ n : Nat, n < 2147483648 ∧ cellV xs L k = iI (n : Nat) := by
  obtain ⟨j, hj, e⟩ := pk_andE (if k < L then xs k else (15503297 : Int32) * iI (k : Nat) + 9587) (m := (2147483647 : Int32)) 31 rfl
  exact ⟨j, hj, by unfold cellV; rw [e, nI_iI]⟩
abbrev rm_L_cell : Room := { frames := 0, cells := 0, slots := 0, locals := 0 }
theorem e_L_cell : yL_cell.cls ≠ "java/lang/invoke/MethodHandle" ∧ yL_cell.cls ≠ "java/lang/invoke/VarHandle" ∧ (parseMethodDescriptor yL_cell.desc).map (fun d => d.parameters.length) = some 2 := by decide +kernel
set_option maxHeartbeats 4000000 in
set_option maxRecDepth 100000 in
theorem c_L_cell (l : Launch) (D : va_G) (cI cJ cZ cQ : ClassId) (b L : Nat) (xs : Nat → Int32) (k : Nat) (hk : k < 1000) (hL : L < 1000) (sz : Nat) : Met l yL_cell wsL_cell rm_L_cell (va_Pc [.ref b, .int (iI (k : Nat))] (clP D (tys4 cI cJ cZ cQ) b L xs sz)) (qI D (tys4 cI cJ cZ cQ) [] (va_A [] sz) (cellV xs L k)) 0 0 (va_A [] sz) := by
  refine Met.ofW (cc := cL_cell) (maxL := 2) (ret := some .int) (by decide) rfl ?_
  intro p e s m args below meth c s₁ B hml hv
  obtain ⟨rfl, ⟨hsz, hP, ⟨hK, hN⟩, hD0⟩, hbl, hX⟩ := hv
  have hts := atoms_spec (ws := wsL_cell) B.pre
  have hown : s.vm.findClass RL = some m.cls := by rw [show RL = yL_cell.cls from rfl]; exact findClass_of_methodNamed B.named
  subst hsz
  have hD := hD0.self (sz := s.heap.size)
  have hl := lv_entry [.ref b, .int (iI (k : Nat))] (n := 2) (Nat.le_of_ble_eq_true rfl)
  rw [lg_entry_eq]
  replace hl : lv_has _ 2 [(0, .ref b), (1, .int (iI (k : Nat)))] := hl
  have hC : mcx RL cL_cell (some .int) 2 wsL_cell p s m #[Value.ref b, Value.int (iI (k : Nat))] meth c (va_A [] s.heap.size) D (tys4 cI cJ cZ cQ) := ⟨B.exec, B.bytes, B.returns, hml, hown, hts, B.notSynchronized, fun q h => Or.inr h, hK, hN⟩
  have hx := B.exec
  have hb : c.code = cL_cell := B.bytes
  have hS : va_S (va_A [] s.heap.size) s.heap s.heap [] := va_S.rf
  have hbA : ¬ va_A [] s.heap.size b := by
    rintro (⟨k, e, q⟩ | q)
    · simp at q
    · exact absurd hbl (Nat.not_lt.mpr q)
  have body : ∀ ls : Array Slot, lv_has ls 2 [(0, .ref b), (1, .int (iI (k : Nat)))] → W p l e (headSpec wsL_cell rm_L_cell).room s m #[Value.ref b, Value.int (iI (k : Nat))] below meth c s.heap [] 0 0 (MQ below (qI D (tys4 cI cJ cZ cQ) [] (va_A [] s.heap.size) (cellV xs L k)) #[Value.ref b, Value.int (iI (k : Nat))] s 0 0 (va_A [] s.heap.size)) (F0 m 0 ls []) := by
    intro ls hl
    refine lv_iload_n hx hb dL_cell_0 rfl (lv_at hl 1 rfl) ?_
    refine lv_aload_n hx hb dL_cell_1 rfl (lv_at hl 0 rfl) ?_
    refine va_slen hx hb hX hbl hbA hS dL_cell_2 ?_
    have tail : ∀ v : Int32, v &&& 2147483647 = cellV xs L k → W p l e (headSpec wsL_cell rm_L_cell).room s m #[Value.ref b, Value.int (iI (k : Nat))] below meth c s.heap [] 0 0 (MQ below (qI D (tys4 cI cJ cZ cQ) [] (va_A [] s.heap.size) (cellV xs L k)) #[Value.ref b, Value.int (iI (k : Nat))] s 0 0 (va_A [] s.heap.size)) (F0 m 20 ls [.int v]) := by
      intro v hv
      refine lv_ldc (v := (2147483647 : Int32)) hx hb hown (hts (.constant RL 8 (2147483647)) (List.mem_of_getElem? (i := 2) rfl)) dL_cell_20 ?_
      refine lv_iand hx hb dL_cell_22 ?_
      exact endI (ty := .int) hC (nzI _) hv hP hD hS dL_cell_23
    refine lv_icmp_ge (tgt := 12) hx hb dL_cell_3 (by decide) (fun c1 => ?_) (fun c1 => ?_)
    · have hk2 : ¬ k < L := by
        intro q
        have e1 : Int32.ofNat L = iI (L : Nat) := nI_iI L
        rw [e1, iI_le (by omega) (by omega) (by omega) (by omega)] at c1
        omega
      refine lv_ldc (v := (15503297 : Int32)) hx hb hown (hts (.constant RL 7 (15503297)) (List.mem_of_getElem? (i := 1) rfl)) dL_cell_12 ?_
      refine lv_iload_n hx hb dL_cell_14 rfl (lv_at hl 1 rfl) ?_
      refine lv_imul hx hb dL_cell_15 ?_
      refine lv_sipush (v := (9587 : Int32)) hx hb dL_cell_16 (by decide) ?_
      refine lv_iadd hx hb dL_cell_19 ?_
      exact tail _ (by unfold cellV; rw [if_neg hk2])
    · have hk2 : k < L := by
        have e1 : Int32.ofNat L = iI (L : Nat) := nI_iI L
        rw [e1, iI_le (by omega) (by omega) (by omega) (by omega)] at c1
        omega
      refine lv_aload_n hx hb dL_cell_6 rfl (lv_at hl 0 rfl) ?_
      refine lv_iload_n hx hb dL_cell_7 rfl (lv_at hl 1 rfl) ?_
      refine va_sld hx hb hX hbl hbA hS (by rw [← nI_iI]; exact vp_in_nI (by omega) (by omega)) dL_cell_8 ?_
      refine lv_goto (tgt := 20) hx hb dL_cell_9 (by decide) ?_
      exact tail _ (by unfold cellV; rw [if_pos hk2, iI_clN (by omega)])
  exact body _ hl
section LCC
variable {p : Program} {l : Launch} {e : Env} {s : State} {m : MethodId} {below : List Frame} {meth : Method} {c : Code} {b L : Nat} {xs : Nat → Int32} {D : va_G} {cI cJ cZ cQ : ClassId}
def lwc (p : Program) (s : State) (m : MethodId) (meth : Method) (c : Code) (b L : Nat) (xs : Nat → Int32) (D : va_G) (cI cJ cZ cQ : ClassId) : Prop := lw_At p s m meth c b L xs ∧ va_K D vwCl (tys4 cI cJ cZ cQ) s ∧ nest s
theorem callCell (hL : L < 1000) (C0 : lwc p s m meth c b L xs D cI cJ cZ cQ) {WW : va_W} {H : Heap} {locs : List Loc} {cells slots : Nat} {Q : State → Prop} (hP : va_P D vwCl WW H) (hD : va_D (fun q : Nat => s.heap.size ≤ q) WW) (hS : va_S (fun q : Nat => s.heap.size ≤ q) s.heap H locs) {ls : Array Slot} {lv : List (Nat × Value)} (hl : lv_has ls 8 lv) {k pc : Nat} (hk : k < 1000) (hdg : decode cL_law pc = .ok (.invokestatic 148, 3)) (hf : cells ≤ room_1.cells ∧ slots ≤ room_1.slots)
    (kk : ∀ (H1 : Heap) (locs1 : List Loc), va_P D vwCl WW H1 → va_D (fun q : Nat => s.heap.size ≤ q) WW → va_S (fun q : Nat => s.heap.size ≤ q) s.heap H1 locs1 → W p l e room_1 s m #[Value.ref b] below meth c H1 locs1 cells slots Q (F0 m (pc + 3) ls [.int (cellV xs L k)])) : W p l e room_1 s m #[Value.ref b] below meth c H locs cells slots Q (F0 m pc ls [.int (iI (k : Nat)), .ref b]) := by
  obtain ⟨⟨hx, hb, hr, hml, hown0, hts, hX, hbl, hlocks, hgv⟩, hK, hN⟩ := id C0
  have hown : s.vm.findClass RL = some m.cls := hown0
  have htl : ∀ w ∈ wsL_law, w.before #[Value.ref b] s = true := fun w h => hts w (wsL_law_in w h)
  have hbA : ¬ (fun q : Nat => s.heap.size ≤ q) b := Nat.not_le.mpr hbl
  have hFc : ∀ q, va_A [] H.size q → s.heap.size ≤ q := by
    rintro q (⟨k, e, w⟩ | w)
    · simp at w
    · exact Nat.le_trans hS.1 w
  have hX1 : va_X b L xs s H := hX.kept (hS.2.1 b hbl hbA)
  refine va_calli (va_runS (As := [.ref b, .int (iI (k : Nat))]) (rest := []) ⟨hx, hb, hml, hown, htl⟩ (c_L_cell l D cI cJ cZ cQ b L xs k hk hL H.size) (va_cwS 2 htl gL_law_L_cell rfl rfl rfl e_L_cell ⟨Nat.le_of_ble_eq_true rfl, Nat.le_of_ble_eq_true rfl⟩) ⟨clP_blind, fun U hU hW => ⟨rfl, ⟨by rw [hU], fun k q h => by simp at h, ⟨va_K.moved hW.alike hK, nest_warm hW hN⟩, ⟨fun i j p q h => by simp at h, fun k q h => by simp at h⟩⟩, Nat.lt_of_lt_of_le hbl hS.1, by rw [hU]; exact va_X.moved hW.alike hX1⟩⟩ rfl rfl hl.1 rfl (lv_room (Nat.le_of_ble_eq_true rfl)) hdg ⟨by omega, by omega⟩) hS (fun q _ h => hFc q h) hFc (fun r' u t H1 locs1 ht hvm hw hB1 hz1 hk1 hS1 => ?_)
  rw [show r' = cellV xs L k from hw]
  obtain ⟨hP2, hD2⟩ := joinP (W0 := []) (wr := WW) (W1 := []) (A0 := fun q : Nat => s.heap.size ≤ q) hP hD hk1 hFc (fun k q h => by simp at h) ⟨fun i j p q h => by simp at h, fun k q h => by simp at h⟩
  exact kk H1 locs1 hP2 hD2 hS1
end LCC
