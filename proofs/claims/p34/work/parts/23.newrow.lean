/-! ===== rows of Sites ===== -/
abbrev S4 : Type := Int32 × (Nat → Int32) × (Nat → Int32) × (Nat → Int32)
abbrev A4 : Type := Nat × Nat × Nat × Nat
def z4 : S4 := (0, fun _ => 0, fun _ => 0, fun _ => 0)
def sc (cI : ClassId) (a : A4) (σ : S4) : va_W := [(a.1, .inr (4, [.ref a.2.1, .ref a.2.2.1, .ref a.2.2.2, .int σ.1])), (a.2.1, .inl (cI, 10, .inl σ.2.1)), (a.2.2.1, .inl (cI, 10, .inl σ.2.2.1)), (a.2.2.2, .inl (cI, 10, .inl σ.2.2.2))]
def rowW (cI : ClassId) (h : Nat → A4) (σ : Nat → S4) (n : Nat) : va_W := (List.range n).flatMap (fun j => sc cI (h j) (σ j))
def refF (h : Nat → A4) (n : Nat) : Nat → Option Nat := fun j => if j < n then some (h j).1 else none
theorem rowW_succ {cI : ClassId} {h : Nat → A4} {σ : Nat → S4} {n : Nat} : rowW cI h σ (n + 1) = rowW cI h σ n ++ sc cI (h n) (σ n) := by
  unfold rowW
  rw [List.range_succ, List.flatMap_append]
  simp
theorem rowW_congr {cI : ClassId} {h h' : Nat → A4} {σ σ' : Nat → S4} {n : Nat} (e1 : ∀ j, j < n → h j = h' j) (e2 : ∀ j, j < n → σ j = σ' j) : rowW cI h σ n = rowW cI h' σ' n := by
  induction n with
  | zero => rfl
  | succ n ih => rw [rowW_succ, rowW_succ, ih (fun j hj => e1 j (by omega)) (fun j hj => e2 j (by omega)), e1 n (by omega), e2 n (by omega)]
theorem refF_up {h : Nat → A4} {k : Nat} {a : A4} : va_up (refF h k) k (some a.1) = refF (va_up h k a) (k + 1) := by
  funext j
  unfold va_up refF
  by_cases h1 : j = k
  · subst h1; simp
  · rw [if_neg h1]
    by_cases h2 : j < k
    · rw [if_pos h2, if_pos (by omega)]; simp [h1]
    · rw [if_neg h2, if_neg (by omega)]
abbrev wnr (cI cQ : ClassId) (n k : Nat) (q : Nat) (h : Nat → A4) : va_W := [(q, .inl (cQ, n, .inr (.inr (.inr (.inr (refF h k))))))] ++ rowW cI h (fun _ => z4) k
abbrev rm_nr (n : Nat) : Room := { frames := 2, cells := 1 + 4 * n, slots := n + 34 * n, locals := 32 }
theorem iw_nr : ∀ w ∈ wsX40, w ∈ wsX5_newRow := fun _ h => List.mem_cons_of_mem _ (List.mem_append_right _ h)
set_option maxHeartbeats 4000000 in
set_option maxRecDepth 100000 in
theorem nr_loop {p : Program} {l : Launch} {e : Env} {s : State} {m : MethodId} {args : Array Value} {below : List Frame} {meth : Method} {c : Code} {A : Nat → Prop} {D : va_G} {cI cJ cZ cQ : ClassId} {n q : Nat} (hn : n ≤ 100)
    (hC : mcx RX5 cX5_newRow (some (.array (.object "PowerDiagram$Sites"))) 3 wsX5_newRow p s m args meth c A D (tys4 cI cJ cZ cQ)) :
    ∀ (d k : Nat), k + d = n → ∀ (h : Nat → A4) (H : Heap) (locs : List Loc), va_P D vwCl (wnr cI cQ n k q h) H → va_D A (wnr cI cQ n k q h) → va_S A s.heap H locs → ∀ ls : Array Slot, lv_has ls 3 [(1, .ref q), (2, .int (nI k))] → W p l e (headSpec wsX5_newRow (rm_nr n)).room s m args below meth c H locs (1 + 4 * k) (n + 34 * k) (MQ below (va_Qr (fun _ : Nat → A4 => True) (fun u a => cB D (tys4 cI cJ cZ cQ) (wnr cI cQ n n a u) A ()) A) args s (1 + 4 * n) (n + 34 * n) A) (F0 m 7 ls []) := by
  intro d
  induction d with
  | zero =>
    intro k hk h H locs hP hD hS ls hl
    obtain ⟨hx, hb, hr, hml, hown, hts, hlocks, hA, hK, hN⟩ := id hC
    have hk : k = n := by omega
    subst hk
    refine lv_iload_n hx hb dX5_newRow_7 rfl (lv_at hl 1 rfl) ?_
    refine lv_aload_n hx hb dX5_newRow_8 rfl (lv_at hl 0 rfl) ?_
    refine va_alen (v := nI k) hx hb hK hP 0 3 rfl rfl rfl dX5_newRow_9 ?_
    refine lv_icmp_ge (tgt := 29) hx hb dX5_newRow_10 (by decide) (fun _ => ?_) (fun c1 => absurd (nI_le (Nat.le_refl k) (by omega)) c1)
    refine lv_aload_n hx hb dX5_newRow_29 rfl (lv_at hl 0 rfl) ?_
    exact endR hC (Or.inr ⟨_, rfl⟩) h hP hD hS dX5_newRow_30
  | succ d ih =>
    intro k hk h H locs hP hD hS ls hl
    obtain ⟨hx, hb, hr, hml, hown, hts, hlocks, hA, hK, hN⟩ := id hC
    have hkn : k < n := by omega
    refine lv_iload_n hx hb dX5_newRow_7 rfl (lv_at hl 1 rfl) ?_
    refine lv_aload_n hx hb dX5_newRow_8 rfl (lv_at hl 0 rfl) ?_
    refine va_alen (v := nI n) hx hb hK hP 0 3 rfl rfl rfl dX5_newRow_9 ?_
    refine lv_icmp_ge (tgt := 29) hx hb dX5_newRow_10 (by decide) (fun c1 => absurd c1 (nI_ge hkn (by omega))) (fun _ => ?_)
    refine lv_aload_n hx hb dX5_newRow_13 rfl (lv_at hl 0 rfl) ?_
    refine lv_iload_n hx hb dX5_newRow_14 rfl (lv_at hl 1 rfl) ?_
    have r1 : (1 + 4 * k) + 1 ≤ 1 + 4 * n := by omega
    have r2 : (n + 34 * k) + 4 ≤ n + 34 * n := by omega
    refine va_new (ci := 4) (fs := [.null, .null, .null, .int 0]) (C := RX4) (T := TX4) (N := 4) hx hb hts iw_nr tyX4 tyX4_ok hown (hts (.classLink RX5 16 RX4) (List.mem_of_getElem? (i := 1) rfl)) (hts (.instantiable RX4 4) (List.mem_of_getElem? (i := 2) rfl)) (hts (.initialized RX4) (List.mem_of_getElem? (i := 3) rfl)) hK hP hD hS hA rfl (fun j hj => match j, hj with | 0, _ => rfl | 1, _ => rfl | 2, _ => rfl | 3, _ => rfl | (j + 4), h => absurd h (by omega)) r1 r2 dX5_newRow_15 (fun qn H hP hD hS => ?_)
    refine lv_dup hx hb dX5_newRow_18 rfl ?_
    refine callC (As := []) (rest := [.ref qn, .int (nI k), .ref q]) hx hb hml hown hts hK hN (c_X4_init l D cI cJ cZ cQ qn) (cwI 0 hts gX5_newRow_X4_init rfl rfl rfl (hts (.initialized RX4) (List.mem_of_getElem? (i := 3) rfl)) (hts (.methodLink RX5 18 yX4_init) (List.mem_of_getElem? (i := 4) rfl)) (hts (.instanceMethod yX4_init) (List.mem_of_getElem? (i := 5) rfl)) rfl (by decide +kernel) ⟨Nat.le_of_ble_eq_true rfl, Nat.le_of_ble_eq_true rfl⟩) hP hD hS hA List.perm_append_comm rfl hl (Nat.le_of_ble_eq_true rfl) dX5_newRow_19 ⟨by show (1 + 4 * k) + 1 + 3 ≤ 1 + 4 * n; omega, by show (n + 34 * k) + 4 + 30 ≤ n + 34 * n; omega⟩ rfl (fun u H locs hP hD hS => ?_)
    obtain ⟨u1, u2, u3⟩ := u
    have hin : vp_in (nI k) n := vp_in_nI hkn (by omega)
    refine va_astq hx hb hK hP hD hS 4 3 0 4 (r := (RX4, TX4, 4)) rfl rfl rfl rfl hin dX5_newRow_22 (fun H locs hP hD hS => ?_)
    rw [nI_clamp (by omega)] at hP hD
    have e1 : va_up (refF h k) k (some qn) = refF (va_up h k (qn, u1, u2, u3)) (k + 1) := refF_up (a := (qn, u1, u2, u3))
    have e2 : rowW cI h (fun _ => z4) k ++ sc cI (qn, u1, u2, u3) z4 = rowW cI (va_up h k (qn, u1, u2, u3)) (fun _ => z4) (k + 1) := by
      rw [rowW_succ, rowW_congr (h := h) (h' := va_up h k (qn, u1, u2, u3)) (fun j hj => by unfold va_up; rw [if_neg (by omega)]) (fun _ _ => rfl)]
      unfold va_up; rw [if_pos rfl]
    rw [e1] at hP hD
    have hp : (sc cI (qn, u1, u2, u3) z4 ++ (([(q, .inl (cQ, n, .inr (.inr (.inr (.inr (refF (va_up h k (qn, u1, u2, u3)) (k + 1)))))))] : va_W) ++ rowW cI h (fun _ => z4) k)).Perm (wnr cI cQ n (k + 1) q (va_up h k (qn, u1, u2, u3))) := by
      unfold wnr
      rw [← e2]
      refine List.perm_append_comm.trans ?_
      rw [List.append_assoc]
    have hP := va_P_perm hp hP
    have hD := va_D_perm hp hD
    refine lv_iinc (v := nI (k + 1)) (lv' := [(2, .int (nI (k + 1))), (1, .ref q)]) hx hb dX5_newRow_23 hl (k := 1) rfl (nI_1 k) (by decide) rfl (fun ls hl => ?_)
    refine lv_goto (tgt := 7) hx hb dX5_newRow_26 (by decide) ?_
    exact W.widen (k := 1 + 4 * (k + 1)) (n := n + 34 * (k + 1)) (by omega) (by omega) (ih (k + 1) (by omega) _ H _ hP hD hS _ (lv_sub hl [1, 0] rfl))
set_option maxHeartbeats 4000000 in
set_option maxRecDepth 100000 in
theorem c_X5_newRow (l : Launch) (D : va_G) (cI cJ cZ cQ : ClassId) (n : Nat) (hn : n ≤ 100) : MetR l D (tys4 cI cJ cZ cQ) yX5_newRow wsX5_newRow (rm_nr n) [.int (nI n)] [] (fun q (h : Nat → A4) => wnr cI cQ n n q h) (1 + 4 * n) (n + 34 * n) := by
  intro sz
  refine metWN (own := RX5) (cc := cX5_newRow) (nL := 3) (ret := (some (.array (.object "PowerDiagram$Sites")))) (Qc := fun A => va_Qr (fun _ : Nat → A4 => True) (fun u a => cB D (tys4 cI cJ cZ cQ) (wnr cI cQ n n a u) A ()) A) (by decide) rfl rfl (Nat.le_of_ble_eq_true rfl) (fun p e s m args below meth c A hC _ hP hD hS ls hl => ?_) sz
  obtain ⟨hx, hb, hr, hml, hown, hts, hlocks, hA, hK, hN⟩ := id hC
  replace hl : lv_has ls 3 [(0, .int (nI n))] := hl
  refine lv_iload_n hx hb dX5_newRow_0 rfl (lv_at hl 0 rfl) ?_
  refine newQ hx hb hown (hts (.classLink RX5 16 RX4) (List.mem_of_getElem? (i := 1) rfl)) hN.2.2 hK 3 rfl hP hD hS hA (nI_pos (by omega)) (nI_clamp (by omega)) (by omega) (by show 0 + 1 ≤ 1 + 4 * n; omega) (by show 0 + n ≤ n + 34 * n; omega) dX5_newRow_1 (fun q H hP hD hS => ?_)
  refine lv_astore_n (lv' := [(1, .ref q), (0, .int (nI n))]) hx hb dX5_newRow_4 rfl hl (by decide) rfl (fun ls hl => ?_)
  refine lv_iconst (v := (0 : Int32)) hx hb dX5_newRow_5 (by decide) ?_
  refine lv_istore_n (lv' := [(2, .int (0 : Int32)), (1, .ref q), (0, .int (nI n))]) hx hb dX5_newRow_6 rfl hl (by decide) rfl (fun ls hl => ?_)
  have e0 : (fun _ => none : Nat → Option Nat) = refF (fun _ => (0, 0, 0, 0)) 0 := by
    funext j; unfold refF; rw [if_neg (by omega)]
  rw [e0] at hP hD
  exact W.widen (k := 1 + 4 * 0) (n := n + 34 * 0) (by omega) (by omega) (nr_loop hn hC n 0 (by omega) _ H _ hP hD hS _ (lv_sub hl [1, 0] rfl))
theorem permTail {E T c : va_W} : ((E ++ T) ++ c).Perm ((E ++ c) ++ T) := by
  rw [List.append_assoc, List.append_assoc]
  exact List.perm_append_comm.append_left E
theorem permRow {c r E T : va_W} : ((c ++ r) ++ (E ++ T)).Perm ((E ++ c) ++ (T ++ r)) := by
  have h1 : ((c ++ r) ++ (E ++ T)).Perm ((E ++ T) ++ (c ++ r)) := List.perm_append_comm
  refine h1.trans ?_
  rw [List.append_assoc, List.append_assoc]
  refine List.Perm.append_left E ?_
  rw [← List.append_assoc, ← List.append_assoc]
  exact List.perm_append_comm.append_right r
