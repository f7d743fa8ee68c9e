/-! ===== the block of an object: its cells, its state; contracts over blocks ===== -/
/-- the state of an object: x.newest, x.remembered, x.seen, x.slotFilled, x.seenX, x.seenY, x.seenOwner, x.pointsByWeight, x.text.length, x.text.characters, x.sites.count, x.sites.x, x.sites.y, x.sites.w, x.planes.count, x.planes.meetX, x.planes.meetY, x.planes.meetD, x.planes.a, x.planes.b, x.planes.c, x.cell.count, x.cell.x, x.cell.y, x.cell.d, x.trial.found, x.trial.sites.count, x.trial.sites.x, x.trial.sites.y, x.trial.sites.w, σ, τ -/
abbrev ST : Type := Int32 × Int32 × Int32 × (Nat → Int32) × (Nat → Int32) × (Nat → Int32) × (Nat → Int32) × (Nat → Int32) × Int32 × (Nat → Int32) × Int32 × (Nat → Int32) × (Nat → Int32) × (Nat → Int32) × Int32 × Int32 × Int32 × Int32 × (Nat → Int32) × (Nat → Int32) × (Nat → Int32) × Int32 × (Nat → Int32) × (Nat → Int32) × (Nat → Int32) × Int32 × Int32 × (Nat → Int32) × (Nat → Int32) × (Nat → Int32) × (Nat → S4) × (Nat → S4)
abbrev AB : Type := (Nat → Nat) × (Nat → A4) × (Nat → A4)
def wE (cI cJ cZ cQ : ClassId) (a : AB) (s : ST) : va_W := [((a.1 0), .inr (5, [.ref (a.1 8), .ref (a.1 10), .ref (a.1 14), .ref (a.1 18), .ref (a.1 22), .ref (a.1 1), .int s.1, .int s.2.1, .ref (a.1 2), .ref (a.1 3), .ref (a.1 4), .ref (a.1 5), .ref (a.1 6), .int s.2.2.1, .ref (a.1 7)])), ((a.1 1), .inl (cQ, 14, .inr (.inr (.inr (.inr (refF a.2.1 14)))))), ((a.1 2), .inl (cQ, 2, .inr (.inr (.inr (.inr (refF a.2.2 2)))))), ((a.1 3), .inl (cZ, 2, .inl s.2.2.2.1)), ((a.1 4), .inl (cI, 6, .inl s.2.2.2.2.1)), ((a.1 5), .inl (cI, 6, .inl s.2.2.2.2.2.1)), ((a.1 6), .inl (cI, 6, .inl s.2.2.2.2.2.2.1)), ((a.1 7), .inl (cI, 401, .inl s.2.2.2.2.2.2.2.1)), ((a.1 8), .inr (3, [.ref (a.1 9), .int s.2.2.2.2.2.2.2.2.1])), ((a.1 9), .inl (cI, 80, .inl s.2.2.2.2.2.2.2.2.2.1)), ((a.1 10), .inr (4, [.ref (a.1 11), .ref (a.1 12), .ref (a.1 13), .int s.2.2.2.2.2.2.2.2.2.2.1])), ((a.1 11), .inl (cI, 10, .inl s.2.2.2.2.2.2.2.2.2.2.2.1)), ((a.1 12), .inl (cI, 10, .inl s.2.2.2.2.2.2.2.2.2.2.2.2.1)), ((a.1 13), .inl (cI, 10, .inl s.2.2.2.2.2.2.2.2.2.2.2.2.2.1)), ((a.1 14), .inr (1, [.ref (a.1 15), .ref (a.1 16), .ref (a.1 17), .int s.2.2.2.2.2.2.2.2.2.2.2.2.2.2.1, .int s.2.2.2.2.2.2.2.2.2.2.2.2.2.2.2.1, .int s.2.2.2.2.2.2.2.2.2.2.2.2.2.2.2.2.1, .int s.2.2.2.2.2.2.2.2.2.2.2.2.2.2.2.2.2.1])), ((a.1 15), .inl (cI, 14, .inl s.2.2.2.2.2.2.2.2.2.2.2.2.2.2.2.2.2.2.1)), ((a.1 16), .inl (cI, 14, .inl s.2.2.2.2.2.2.2.2.2.2.2.2.2.2.2.2.2.2.2.1)), ((a.1 17), .inl (cI, 14, .inl s.2.2.2.2.2.2.2.2.2.2.2.2.2.2.2.2.2.2.2.2.1)), ((a.1 18), .inr (0, [.ref (a.1 14), .ref (a.1 19), .ref (a.1 20), .ref (a.1 21), .int s.2.2.2.2.2.2.2.2.2.2.2.2.2.2.2.2.2.2.2.2.2.1])), ((a.1 19), .inl (cI, 14, .inl s.2.2.2.2.2.2.2.2.2.2.2.2.2.2.2.2.2.2.2.2.2.2.1)), ((a.1 20), .inl (cI, 14, .inl s.2.2.2.2.2.2.2.2.2.2.2.2.2.2.2.2.2.2.2.2.2.2.2.1)), ((a.1 21), .inl (cI, 14, .inl s.2.2.2.2.2.2.2.2.2.2.2.2.2.2.2.2.2.2.2.2.2.2.2.2.1)), ((a.1 22), .inr (2, [.ref (a.1 18), .ref (a.1 23), .int s.2.2.2.2.2.2.2.2.2.2.2.2.2.2.2.2.2.2.2.2.2.2.2.2.2.1])), ((a.1 23), .inr (4, [.ref (a.1 24), .ref (a.1 25), .ref (a.1 26), .int s.2.2.2.2.2.2.2.2.2.2.2.2.2.2.2.2.2.2.2.2.2.2.2.2.2.2.1])), ((a.1 24), .inl (cI, 10, .inl s.2.2.2.2.2.2.2.2.2.2.2.2.2.2.2.2.2.2.2.2.2.2.2.2.2.2.2.1)), ((a.1 25), .inl (cI, 10, .inl s.2.2.2.2.2.2.2.2.2.2.2.2.2.2.2.2.2.2.2.2.2.2.2.2.2.2.2.2.1)), ((a.1 26), .inl (cI, 10, .inl s.2.2.2.2.2.2.2.2.2.2.2.2.2.2.2.2.2.2.2.2.2.2.2.2.2.2.2.2.2.1))]
def wT (cI : ClassId) (a : AB) (s : ST) : va_W := ([] ++ rowW cI a.2.1 s.2.2.2.2.2.2.2.2.2.2.2.2.2.2.2.2.2.2.2.2.2.2.2.2.2.2.2.2.2.2.1 14) ++ rowW cI a.2.2 s.2.2.2.2.2.2.2.2.2.2.2.2.2.2.2.2.2.2.2.2.2.2.2.2.2.2.2.2.2.2.2 2
def wB (cI cJ cZ cQ : ClassId) (a : AB) (s : ST) : va_W := wE cI cJ cZ cQ a s ++ wT cI a s
def rowR (cI : ClassId) (h : Nat → A4) (σ : Nat → S4) (n g : Nat) : va_W := ((List.range n).filter (fun j => j != g)).flatMap (fun j => sc cI (h j) (σ j))
theorem rowR_up {cI : ClassId} {h : Nat → A4} {σ : Nat → S4} {n g : Nat} {v : S4} : rowR cI h (va_up σ g v) n g = rowR cI h σ n g := by
  unfold rowR
  have key : ∀ l : List Nat, (∀ j ∈ l, j ≠ g) → l.flatMap (fun j => sc cI (h j) (va_up σ g v j)) = l.flatMap (fun j => sc cI (h j) (σ j)) := by
    intro l
    induction l with
    | nil => intro _; rfl
    | cons a l ih =>
      intro hl
      rw [List.flatMap_cons, List.flatMap_cons, ih (fun j hj => hl j (List.mem_cons_of_mem _ hj))]
      have : va_up σ g v a = σ a := by unfold va_up; rw [if_neg (hl a List.mem_cons_self)]
      rw [this]
  exact key _ (fun j hj => by
    have := (List.mem_filter.mp hj).2
    simpa using this)
theorem rowW_split {cI : ClassId} {h : Nat → A4} {σ : Nat → S4} {n g : Nat} (hg : g < n) : (rowW cI h σ n).Perm (sc cI (h g) (σ g) ++ rowR cI h σ n g) := by
  induction n with
  | zero => omega
  | succ n ih =>
    rw [rowW_succ]
    unfold rowR
    rw [List.range_succ, List.filter_append, List.flatMap_append]
    by_cases h1 : g = n
    · subst h1
      have e1 : (List.range g).filter (fun j => j != g) = List.range g := List.filter_eq_self.mpr (fun j hj => by
        rw [List.mem_range] at hj
        simp; omega)
      have e2 : [g].filter (fun j => j != g) = [] := by simp
      rw [e1, e2]
      simp only [List.flatMap_nil, List.append_nil]
      exact List.perm_append_comm
    · have e2 : [n].filter (fun j => j != g) = [n] := by simp; omega
      rw [e2]
      have := ih (by omega)
      unfold rowR at this
      have h2 : [n].flatMap (fun j => sc cI (h j) (σ j)) = sc cI (h n) (σ n) := by simp
      rw [h2, ← List.append_assoc]
      exact this.append_right _
theorem gP14 {cI : ClassId} {h : Nat → A4} {σ : Nat → S4} {n g : Nat} {E R : va_W} (hg : g < n) : (E ++ (([] ++ rowW cI h σ n) ++ R)).Perm ((E ++ sc cI (h g) (σ g)) ++ (rowR cI h σ n g ++ R)) := by
  rw [List.nil_append, List.append_assoc, ← List.append_assoc (sc cI (h g) (σ g))]
  exact ((rowW_split hg).append_right R).append_left E
theorem gQ14 {cI : ClassId} {h : Nat → A4} {σ : Nat → S4} {n g : Nat} {E R : va_W} {v : S4} (hg : g < n) : ((E ++ sc cI (h g) v) ++ (rowR cI h σ n g ++ R)).Perm (E ++ (([] ++ rowW cI h (va_up σ g v) n) ++ R)) := by
  have := (gP14 (cI := cI) (h := h) (σ := va_up σ g v) (E := E) (R := R) hg).symm
  rw [rowR_up, show va_up σ g v g = v by unfold va_up; rw [if_pos rfl]] at this
  exact this
theorem gP2 {cI : ClassId} {h : Nat → A4} {τ : Nat → S4} {n g : Nat} {E L : va_W} (hg : g < n) : (E ++ (L ++ rowW cI h τ n)).Perm ((E ++ sc cI (h g) (τ g)) ++ (rowR cI h τ n g ++ L)) := by
  have h1 : (L ++ rowW cI h τ n).Perm (([] ++ rowW cI h τ n) ++ L) := by rw [List.nil_append]; exact List.perm_append_comm
  exact (h1.append_left E).trans (gP14 hg)
theorem gQ2 {cI : ClassId} {h : Nat → A4} {τ : Nat → S4} {n g : Nat} {E L : va_W} {v : S4} (hg : g < n) : ((E ++ sc cI (h g) v) ++ (rowR cI h τ n g ++ L)).Perm (E ++ (L ++ rowW cI h (va_up τ g v) n)) := by
  have h1 : (L ++ rowW cI h (va_up τ g v) n).Perm (([] ++ rowW cI h (va_up τ g v) n) ++ L) := by rw [List.nil_append]; exact List.perm_append_comm
  exact (gQ14 hg).trans (h1.symm.append_left E)
theorem refF_g {h : Nat → A4} {n g : Nat} (hg : g < n) (hn : n < 100) : refF h n (nI g).toNatClampNeg = some (h g).1 := by
  rw [nI_clamp (by omega)]
  unfold refF
  rw [if_pos hg]
theorem pmN {E : va_W} : E.Perm (E ++ []) := by rw [List.append_nil]
section MB
variable {l : Launch} {D : va_G} {tys : List (ClassId × FieldType)} {y : MethodName} {ws : List Cond} {rm : Room} {av : List Value} {W0 W1 WB WB1 wr E E1 T : va_W} {r : Int32}
theorem met_frame (h : MetI l D tys y ws rm av W0 W1 r) (hp : WB.Perm (W0 ++ wr)) (hq : (W1 ++ wr).Perm WB1) : MetI l D tys y ws rm av WB WB1 r := by
  intro sz
  have hsub : ∀ q, va_A W0 sz q → va_A WB sz q := by
    intro q h
    rcases h with ⟨k, e, hk⟩ | h
    · have h1 : (q, e) ∈ WB := hp.mem_iff.mpr (List.mem_append_left _ (List.mem_of_getElem? hk))
      obtain ⟨k', hk'⟩ := List.getElem?_of_mem h1
      exact Or.inl ⟨k', e, hk'⟩
    · exact Or.inr h
  refine Jvm.Free.MetFree.mono (h sz) (fun a s hp' => ?_) (fun _ _ _ _ _ h => h) (fun a s o t hp' hq' => ?_)
  · obtain ⟨hav, hsz, hP, hK, hD⟩ := hp'
    exact ⟨hav, hsz, va_P_left (va_P_perm hp hP), hK, va_D_left (va_D_perm hp hD)⟩
  · obtain ⟨hav, hsz, hP, hK, hD⟩ := hp'
    subst hsz
    obtain ⟨⟨⟨r', u, ho, hr, hP1, hK1, hD1⟩, hz1, hk1⟩, L, hF, hL⟩ := hq'
    have hD0 := (va_D_perm hp hD).self (sz := s.heap.size)
    obtain ⟨hP2, hD2⟩ := joinP (A0 := va_A (W0 ++ wr) s.heap.size) (va_P_perm hp hP) hD0 hk1 (fun q hq => by
      rcases hq with ⟨k, e, hk⟩ | hq
      · have h1 : (q, e) ∈ W0 ++ wr := List.mem_append_left _ (List.mem_of_getElem? hk)
        obtain ⟨k', hk'⟩ := List.getElem?_of_mem h1
        exact Or.inl ⟨k', e, hk'⟩
      · exact Or.inr hq) hP1 hD1
    have hA : ∀ q, va_A (W0 ++ wr) s.heap.size q → va_A WB s.heap.size q := by
      intro q h
      rcases h with ⟨k, e, hk⟩ | h
      · have h1 : (q, e) ∈ WB := hp.mem_iff.mpr (List.mem_of_getElem? hk)
        obtain ⟨k', hk'⟩ := List.getElem?_of_mem h1
        exact Or.inl ⟨k', e, hk'⟩
      · exact Or.inr h
    exact ⟨⟨⟨r', u, ho, hr, va_P_perm hq hP2, hK1, va_D_perm hq (hD2.weaken (fun _ _ _ h => hA _ h))⟩, hz1, fun q h1 h2 => hk1 q h1 (fun h3 => h2 (hsub q h3))⟩, L, hF, fun q h1 => hsub _ (hL q h1)⟩
theorem met_blk (h : MetI l D tys y ws rm av W0 W1 r) (hp0 : WB.Perm (E ++ T)) (hq0 : (E1 ++ T).Perm WB1) (nE : Nat) (hn0 : E.length = nE) (hn1 : E1.length = nE) (isC isR : List Nat) (hpm : (isC ++ isR).Perm (List.range nE)) (hC : isC.map (fun i => E[i]?) = W0.map some) (hR : isR.map (fun i => E[i]?) = (isR.filterMap (fun i => E[i]?)).map some) (hC1 : isC.map (fun i => E1[i]?) = W1.map some) (hR1 : isR.map (fun i => E1[i]?) = (isR.filterMap (fun i => E[i]?)).map some) : MetI l D tys y ws rm av WB WB1 r :=
  met_frame h (hp0.trans (perm_idx nE hn0 isC isR hpm hC hR)) ((perm_idx nE hn1 isC isR hpm hC1 hR1).symm.trans hq0)
end MB
section CLL
variable {p : Program} {l : Launch} {e : Env} {R : Room} {s : State} {m : MethodId} {args : Array Value} {below : List Frame} {meth : Method} {c : Code} {H : Heap} {locs : List Loc} {cells slots : Nat} {Q : State → Prop}
variable {D : va_G} {tys : List (ClassId × FieldType)} {y : MethodName} {bytes cc : ByteArray} {maxL nL n index pc : Nat} {ret : Option FieldType} {ws : List Cond} {rm : Room} {Ts : List Cond} {own : String} {As rest st0 : List Value} {W0 W1 WW WB wr : va_W} {A : Nat → Prop} {H0 : Heap} {ls : Array Slot} {lv : List (Nat × Value)}
/-- a static call, an int or a boolean back -/
theorem callSI {r : Int32} (hx : p.tables.exec = Jvm.exec) (hb : c.code = cc) (hml : c.maxLocals = nL) (hown : s.vm.findClass own = some m.cls) (hts : ∀ w ∈ Ts, w.before args s = true) (hK : va_K D vwCl tys s) (hN : nest s)
    (hM : MetI l D tys y ws rm As W0 W1 r) (cw : CallB R s args own index y bytes maxL ret ws rm 0 0 n ∧ (Cond.static y).before args s = true)
    (hP : va_P D vwCl WW H) (hD : va_D A WW) (hS : va_S A H0 H locs) (hA : ∀ q : Nat, H0.size ≤ q → A q) (hp : WW.Perm (W0 ++ wr)) (hq : (W1 ++ wr).Perm WB) (hn : As.length = n) (hl : lv_has ls nL lv) (hroom : (rest.map fun v => v.category).sum ≤ 8) (hdg : decode cc pc = .ok (.invokestatic index, 3)) (hf : cells ≤ R.cells ∧ slots ≤ R.slots) (hst : st0 = As.reverse ++ rest)
    (kk : ∀ (H1 : Heap) (locs1 : List Loc), va_P D vwCl WB H1 → va_D A WB → va_S A H0 H1 locs1 → W p l e R s m args below meth c H1 locs1 cells slots Q (F0 m (pc + 3) ls (.int r :: rest))) : W p l e R s m args below meth c H locs cells slots Q (F0 m pc ls st0) := by
  have hP := va_P_perm hp hP
  have hD := va_D_perm hp hD
  have hPc := va_P_left hP
  have hDc := va_D_left hD
  have hFc := freeP hD hS hA
  refine va_calli (va_runS (As := As) (rest := rest) ⟨hx, hb, hml, hown, hts⟩ (hM H.size) cw ⟨cP_blind, fun U hU hW => ⟨rfl, by rw [hU], by rw [hU]; exact hPc, ⟨va_K.moved hW.alike hK, nest_warm hW hN⟩, hDc.weaken (fun _ _ _ _ => trivial)⟩⟩ rfl hn hl.1 hst (lv_room hroom) hdg ⟨by omega, by omega⟩) hS (fun q _ h => hFc q h) hFc (fun r' u t H1 locs1 ht hvm hw hB1 hz1 hk1 hS1 => ?_)
  obtain ⟨hP1, -, hD1⟩ := hB1
  rw [ht] at hP1
  obtain ⟨hP2, hD2⟩ := joinP hP hD hk1 hFc hP1 hD1
  rw [show r' = r from hw]
  exact kk H1 locs1 (va_P_perm hq hP2) (va_D_perm hq hD2) hS1
theorem callSL {r : Int64} (hx : p.tables.exec = Jvm.exec) (hb : c.code = cc) (hml : c.maxLocals = nL) (hown : s.vm.findClass own = some m.cls) (hts : ∀ w ∈ Ts, w.before args s = true) (hK : va_K D vwCl tys s) (hN : nest s)
    (hM : MetL l D tys y ws rm As W0 W1 r) (cw : CallB R s args own index y bytes maxL ret ws rm 0 0 n ∧ (Cond.static y).before args s = true)
    (hP : va_P D vwCl WW H) (hD : va_D A WW) (hS : va_S A H0 H locs) (hA : ∀ q : Nat, H0.size ≤ q → A q) (hp : WW.Perm (W0 ++ wr)) (hq : (W1 ++ wr).Perm WB) (hn : As.length = n) (hl : lv_has ls nL lv) (hroom : (rest.map fun v => v.category).sum ≤ 8) (hdg : decode cc pc = .ok (.invokestatic index, 3)) (hf : cells ≤ R.cells ∧ slots ≤ R.slots) (hst : st0 = As.reverse ++ rest)
    (kk : ∀ (H1 : Heap) (locs1 : List Loc), va_P D vwCl WB H1 → va_D A WB → va_S A H0 H1 locs1 → W p l e R s m args below meth c H1 locs1 cells slots Q (F0 m (pc + 3) ls (.long r :: rest))) : W p l e R s m args below meth c H locs cells slots Q (F0 m pc ls st0) := by
  have hP := va_P_perm hp hP
  have hD := va_D_perm hp hD
  have hPc := va_P_left hP
  have hDc := va_D_left hD
  have hFc := freeP hD hS hA
  refine va_calll (va_runS (As := As) (rest := rest) ⟨hx, hb, hml, hown, hts⟩ (hM H.size) cw ⟨cP_blind, fun U hU hW => ⟨rfl, by rw [hU], by rw [hU]; exact hPc, ⟨va_K.moved hW.alike hK, nest_warm hW hN⟩, hDc.weaken (fun _ _ _ _ => trivial)⟩⟩ rfl hn hl.1 hst (lv_room hroom) hdg ⟨by omega, by omega⟩) hS (fun q _ h => hFc q h) hFc (fun r' u t H1 locs1 ht hvm hw hB1 hz1 hk1 hS1 => ?_)
  obtain ⟨hP1, -, hD1⟩ := hB1
  rw [ht] at hP1
  obtain ⟨hP2, hD2⟩ := joinP hP hD hk1 hFc hP1 hD1
  rw [show r' = r from hw]
  exact kk H1 locs1 (va_P_perm hq hP2) (va_D_perm hq hD2) hS1
end CLL
