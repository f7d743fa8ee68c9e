/-! ===== what the class's methods answer, by the sites alone ===== -/
section KAN
variable {c : Nat} {X Y W : Nat → Int} {cnt : Int32} {x y w : Nat → Int32}
theorem k_pin {i : Nat} (hi : i < c) (hc : c ≤ 10) : 0 ≤ (iI (i : Nat)).toInt ∧ (iI (i : Nat)).toInt < c := by
  rw [iI_toInt (by omega) (by omega)]
  omega
theorem k_site0 (hR : RS c X Y W cnt x y w) (hc : c ≤ 10) {i : Nat} (hi : i < c) : f_X5_site_0 cnt w y x (iI i) (0 : Int32) = some (iI (X i)) := by
  have ec := hR.1
  subst ec
  unfold f_X5_site_0
  rw [z_has hc, bnd_some, if_pos (k_pin hi hc), if_neg (by decide), if_pos rfl, gIx_iI (by omega) (by omega) (by omega), iI_clN (by omega), (hR.2 i hi).1]
theorem k_site1 (hR : RS c X Y W cnt x y w) (hc : c ≤ 10) {i : Nat} (hi : i < c) : f_X5_site_0 cnt w y x (iI i) (1 : Int32) = some (iI (Y i)) := by
  have ec := hR.1
  subst ec
  unfold f_X5_site_0
  rw [z_has hc, bnd_some, if_pos (k_pin hi hc), if_neg (by decide), if_neg (by decide), if_pos rfl, gIx_iI (by omega) (by omega) (by omega), iI_clN (by omega), (hR.2 i hi).2.1]
theorem k_site2 (hR : RS c X Y W cnt x y w) (hc : c ≤ 10) {i : Nat} (hi : i < c) : f_X5_site_0 cnt w y x (iI i) (2 : Int32) = some (iI (W i)) := by
  have ec := hR.1
  subst ec
  unfold f_X5_site_0
  rw [z_has hc, bnd_some, if_pos (k_pin hi hc), if_neg (by decide), if_neg (by decide), if_neg (by decide), if_pos rfl, gIx_iI (by omega) (by omega) (by omega), iI_clN (by omega), (hR.2 i hi).2.2]
theorem k_power (hR : RS c X Y W cnt x y w) (hc : c ≤ 10) {i : Nat} (hi : i < c) {a b : Int} (a1 : 0 ≤ a) (a2 : a ≤ 20) (b1 : 0 ≤ b) (b2 : b ≤ 20) : f_X5_powerDistance_0 cnt x y w (iI i) (iI a) (iI b) = some (iI (pw X Y W i a b + 1000)) := by
  have ec := hR.1
  subst ec
  unfold f_X5_powerDistance_0
  rw [z_has hc, bnd_some, if_pos (k_pin hi hc), if_neg (by decide), z_insq, bnd_some, iI_toInt (by omega) (by omega), iI_toInt (by omega) (by omega), if_pos (show (0 ≤ a ∧ a ≤ 20) ∧ 0 ≤ b ∧ b ≤ 20 from ⟨⟨a1, a2⟩, b1, b2⟩), if_neg (by decide), z_power hR hc hi, bnd_some, show (1000 : Int32) = iI 1000 from rfl, iI_add]
theorem k_owner (hR : RS c X Y W cnt x y w) (hB : BD c X Y W) {a b : Int} (a1 : 0 ≤ a) (a2 : a ≤ 20) (b1 : 0 ≤ b) (b2 : b ≤ 20) : f_X5_owner_0 cnt x y w (iI a) (iI b) = some (iI (oI (ownr X Y W c a b) (-9))) := by
  have hc := hB.1
  unfold f_X5_owner_0
  rw [z_insq, bnd_some, iI_toInt (by omega) (by omega), iI_toInt (by omega) (by omega), if_pos (show (0 ≤ a ∧ a ≤ 20) ∧ 0 ≤ b ∧ b ≤ 20 from ⟨⟨a1, a2⟩, b1, b2⟩), if_neg (by decide), z_ownAt hR hB a1 a2 b1 b2, bnd_some]
  cases e : ownr X Y W c a b with
  | none =>
    rw [if_pos (by show iI (-1) = -1; rfl)]
    rfl
  | some k =>
    have hk := own_bd e
    rw [if_neg (by show ¬ iI (k : Int) = iI (-1); rw [iI_eq] <;> omega)]
    rfl
theorem k_size (hR : RS c X Y W cnt x y w) (hB : BD c X Y W) {i : Nat} (hi : i < c) : f_X5_size_0 cnt x y w (iI i) = some (iI (SZ X Y W c i 21 : Nat)) := by
  have hc := hB.1
  have ec := hR.1
  subst ec
  unfold f_X5_size_0
  rw [z_has hc, bnd_some, if_pos (k_pin hi hc), if_neg (by decide), z_po hR hB hi, bnd_some]
/-- the owners of the draws -/
def dwS (s : Int64) : Nat → Int64
  | 0 => s
  | n + 1 => dwS s n * (6364136223846793005 : Int64) + (1442695040888963407 : Int64)
noncomputable def dwP (s : Int64) (n : Nat) : Nat := (draw_pt (dwS s (n + 1))).choose
noncomputable def SMP (X Y W : Nat → Int) (c k : Nat) (s : Int64) (m : Nat) : Nat := sumN m (fun n => if ownr X Y W c ((pt_of (dwP s n) (draw_pt (dwS s (n + 1))).choose_spec.1).choose : Int) ((pt_of (dwP s n) (draw_pt (dwS s (n + 1))).choose_spec.1).choose_spec.choose : Int) = some k then 1 else 0)
theorem SMP_s {X Y W : Nat → Int} {c k : Nat} {s : Int64} {m : Nat} : SMP X Y W c k s (m + 1) = SMP X Y W c k s m + if ownr X Y W c ((pt_of (dwP s m) (draw_pt (dwS s (m + 1))).choose_spec.1).choose : Int) ((pt_of (dwP s m) (draw_pt (dwS s (m + 1))).choose_spec.1).choose_spec.choose : Int) = some k then 1 else 0 := rfl
theorem SMP_le {X Y W : Nat → Int} {c k : Nat} {s : Int64} {m : Nat} : SMP X Y W c k s m ≤ m := by
  have : SMP X Y W c k s m ≤ m * 1 := by
    rw [← sumN_const]
    exact sumN_le (fun i hi => by split <;> omega)
  omega
theorem k_samp (hR : RS c X Y W cnt x y w) (hB : BD c X Y W) {k : Nat} (hk : k < c) (s0 : Int64) (m : Nat) (hm : m ≤ 200) :
    ∀ (e i n : Nat), i + e = m → e < n → f_X5_sample_39 cnt x y w n (iI k) (iI m) (dwS s0 i) (iI (SMP X Y W c k s0 i : Nat)) (iI i) = some (iI (SMP X Y W c k s0 m : Nat)) := by
  have hc := hB.1
  intro e
  induction e with
  | zero =>
    intro i n hi hn
    obtain ⟨n, rfl⟩ : ∃ k, n = k + 1 := ⟨n - 1, by omega⟩
    have e : i = m := by omega
    subst e
    show g_X5_sample_39 cnt x y w (f_X5_sample_39 cnt x y w n) (iI k) (iI i) _ _ (iI i) = _
    unfold g_X5_sample_39
    rw [if_pos (by rw [iI_le] <;> omega)]
  | succ e ih =>
    intro i n hi hn
    obtain ⟨n, rfl⟩ : ∃ k, n = k + 1 := ⟨n - 1, by omega⟩
    show g_X5_sample_39 cnt x y w (f_X5_sample_39 cnt x y w n) (iI k) (iI m) _ _ (iI i) = _
    unfold g_X5_sample_39
    rw [if_neg (by rw [iI_le] <;> omega)]
    simp only [nm_eq]
    have ih' := ih (i + 1) n (by omega) (by omega)
    rw [SMP_s] at ih'
    have ed : dwS s0 (i + 1) = dwS s0 i * (6364136223846793005 : Int64) + (1442695040888963407 : Int64) := rfl
    have hz := (draw_pt (dwS s0 (i + 1))).choose_spec
    have hp := (pt_of (dwP s0 i) hz.1).choose_spec.choose_spec
    rw [← ed]
    have ez : _ = iI (dwP s0 i : Nat) := hz.2
    rw [ez]
    revert ih' hp
    generalize (pt_of (dwP s0 i) hz.1).choose_spec.choose = b
    generalize (pt_of (dwP s0 i) hz.1).choose = a
    intro ih' hp
    obtain ⟨ha, hb, ea, eb⟩ := hp
    rw [ea] at eb
    rw [ea, eb, z_ownAt hR hB (by omega) (by omega) (by omega) (by omega), bnd_some]
    simp only [iI_p1]
    have hl := SMP_le (X := X) (Y := Y) (W := W) (c := c) (k := k) (s := s0) (m := i)
    by_cases h : ownr X Y W c (a : Int) (b : Int) = some k
    · rw [if_pos h] at ih'
      rw [if_pos ((oI_eq hc hk (by omega) (by omega)).mpr h)]
      exact ih'
    · rw [if_neg h] at ih'
      rw [if_neg (fun q => h ((oI_eq hc hk (by omega) (by omega)).mp q))]
      exact ih'
theorem k_sample (hR : RS c X Y W cnt x y w) (hB : BD c X Y W) {i : Nat} (hi : i < c) (s : Int64) : f_X5_sample_0 cnt x y w s (iI i) (50 : Int32) = some (iI (SMP X Y W c i s 50 : Nat)) := by
  have hc := hB.1
  have hR0 := hR
  have ec := hR.1
  subst ec
  unfold f_X5_sample_0
  rw [z_has hc, bnd_some, if_pos (k_pin hi hc), if_neg (by decide), if_neg (by decide), if_pos (by decide)]
  exact k_samp hR hB hi s 50 (by omega) 50 0 fuel (by omega) (by unfold fuel; omega)
theorem k_cc (hR : RS c X Y W cnt x y w) (hB : BD c X Y W) {i : Nat} (hi : i < c) (k0 k1 k2 k3 k4 : Int32) (k5 k6 k7 k8 k9 k10 : Nat → Int32) : ∃ (m : Nat) (f : Nat → Pt) (u : _), CO (LC X Y W c i) m f ∧ m ≤ 14 ∧ f_X5_cornerCount_0 cnt x y w k0 k1 k2 k3 k4 k5 k6 k7 k8 k9 k10 (iI i) = some (iI (pc3 m : Nat), u) := by
  have hc := hB.1
  have ec := hR.1
  subst ec
  unfold f_X5_cornerCount_0
  rw [z_has hc, bnd_some, if_pos (k_pin hi hc), if_neg (by decide)]
  obtain ⟨m, f, u1, u2, u3, u4, u5, u6, u7, u8, u9, e1, h1, h2, h3, h4⟩ := z_cutOut hR hB hi k0 k1 k2 k3 k4 k5 k6 k7 k8 k9 k10
  rw [e1, bnd11_some, z_pc m h4, bnd_some]
  exact ⟨m, f, _, h3, h4, rfl⟩
theorem k_hid (hR : RS c X Y W cnt x y w) (hB : BD c X Y W) (k0 k1 k2 k3 k4 : Int32) (k5 k6 k7 k8 k9 k10 : Nat → Int32) : ∃ u : _, f_X5_hiddenSites_0 cnt x y w k0 k1 k2 k3 k4 k5 k6 k7 k8 k9 k10 = some (bits (hidB X Y W c) c, u) := by
  obtain ⟨u1, u2, u3, u4, u5, u6, u7, u8, u9, u10, u11, e1⟩ := z_hs hR hB k0 k1 k2 k3 k4 k5 k6 k7 k8 k9 k10
  exact ⟨_, e1⟩
theorem k_nb (hR : RS c X Y W cnt x y w) (hB : BD c X Y W) {i : Nat} (hi : i < c) (k0 k1 k2 k3 k4 : Int32) (k5 k6 k7 k8 k9 k10 : Nat → Int32) : ∃ (m : Nat) (f : Nat → Pt) (u : _), CO (LC X Y W c i) m f ∧ f_X5_neighbours_0 cnt x y w k0 k1 k2 k3 k4 k5 k6 k7 k8 k9 k10 (iI i) = some (bits (nbF X Y W c i m f) c, u) := by
  have hc := hB.1
  have ec := hR.1
  subst ec
  unfold f_X5_neighbours_0
  rw [z_has hc, bnd_some, if_pos (k_pin hi hc), if_neg (by decide)]
  obtain ⟨u1, u2, u3, u4, u5, u6, u7, u8, u9, u10, u11, e1⟩ := z_hs hR hB k0 k1 k2 k3 k4 k5 k6 k7 k8 k9 k10
  rw [e1, bnd12_some, bits_at _ c hc i (by omega)]
  obtain ⟨m, f, v1, v2, v3, v4, v5, v6, v7, v8, v9, e2, r1, r2, r3, r4⟩ := z_cutOut hR hB hi u1 u2 u3 u4 u5 u6 u7 u8 u9 u10 u11
  by_cases h : hidB X Y W c i = true
  · rw [if_pos (show i < c ∧ hidB X Y W c i = true from ⟨hi, h⟩), if_pos rfl]
    refine ⟨m, f, (u1, u2, u3, u4, u5, u6, u7, u8, u9, u10, u11), r3, ?_⟩
    rw [bits_none (k := c) (h := nbF X Y W c i m f) (fun j hj => nbF_f (Or.inr (Or.inl h)))]
  · rw [if_neg (show ¬ (i < c ∧ hidB X Y W c i = true) from fun q => h q.2), if_neg (by decide), e2, bnd11_some]
    have e4 := z_nb_loop (mX := v1) (mY := v2) (mD := v3) hR hB hi r4 r2 r1 (Bool.eq_false_iff.mpr h) c 0 fuel (by omega) (by unfold fuel; omega)
    have e4' : f_X5_neighbours_46 (iI c) _ _ _ fuel (iI m) (iI (c + 4 : Nat)) v1 v2 v3 v4 v5 v6 v7 v8 v9 (iI i) (bits (hidB X Y W c) c) 0 0 = _ := e4
    rw [e4']
    exact ⟨m, f, _, r3, rfl⟩
theorem k_tri (hR : RS c X Y W cnt x y w) (hB : BD c X Y W) {i j k : Nat} (hi : i < c) (hj : j < c) (hk : k < c) (k0 k1 k2 k3 : Int32) (k4 k5 k6 : Nat → Int32) : ∃ u : _, f_X5_isTriangle_0 cnt x y w k0 k1 k2 k3 k4 k5 k6 (iI i) (iI j) (iI k) = some ((if triB X Y W c i j k = true then (1 : Int32) else 0), u) := by
  have hc := hB.1
  have ec := hR.1
  subst ec
  unfold f_X5_isTriangle_0
  rw [z_has hc, bnd_some, if_pos (k_pin hi hc), if_neg (by decide), z_has hc, bnd_some, if_pos (k_pin hj hc), if_neg (by decide), z_has hc, bnd_some, if_pos (k_pin hk hc), if_neg (by decide)]
  obtain ⟨a1, b1, d1, e1, h1⟩ := z_compare hR hB hi k0 k4 k5 k6
  rw [e1, bnd4_some]
  obtain ⟨nX, nY, nD, e2, -⟩ := z_form hB hj hk h1 k1 k2 k3
  rw [e2, bnd4_some]
  by_cases h : triB X Y W c i j k = true
  · rw [if_pos h, if_neg (by decide)]
    exact ⟨_, rfl⟩
  · rw [if_neg h, if_pos rfl]
    exact ⟨_, rfl⟩
theorem k_tc (hR : RS c X Y W cnt x y w) (hB : BD c X Y W) (k0 k1 k2 k3 : Int32) (k4 k5 k6 : Nat → Int32) : ∃ u : _, f_X5_triangleCount_0 cnt x y w k0 k1 k2 k3 k4 k5 k6 = some (iI (T0 c (triB X Y W c) : Nat), u) := by
  have hc := hB.1
  unfold f_X5_triangleCount_0
  obtain ⟨u1, u2, u3, u4, u5, u6, u7, e1⟩ := z_tc4 hR hB c 0 fuel k0 k1 k2 k3 k4 k5 k6 (by omega) (by unfold fuel; omega)
  exact ⟨_, e1⟩
theorem k_cf (hR : RS c X Y W cnt x y w) (hB : BD c X Y W) {a b d : Int} (a1 : 0 ≤ a) (a2 : a ≤ 20) (b1 : 0 ≤ b) (b2 : b ≤ 20) (d1 : 0 ≤ d) (d2 : d ≤ 400) (k0 k1 k2 k3 : Int32) (k4 k5 k6 : Nat → Int32) : ∃ u : _, f_X5_conflicts_0 cnt x y w k0 k1 k2 k3 k4 k5 k6 (iI a) (iI b) (iI d) = some (iI (T0 c (cnB X Y W c a b d) : Nat), u) := by
  have hc := hB.1
  unfold f_X5_conflicts_0
  rw [z_insq, bnd_some, z_isw, bnd_some, iI_toInt (by omega) (by omega), iI_toInt (by omega) (by omega), iI_toInt (by omega) (by omega), if_pos (show (0 ≤ a ∧ a ≤ 20) ∧ 0 ≤ b ∧ b ≤ 20 from ⟨⟨a1, a2⟩, b1, b2⟩), if_neg (show ¬ (1 : Int32) = 0 by decide), if_pos (show 0 ≤ d ∧ d ≤ 400 from ⟨d1, d2⟩), if_neg (show ¬ (1 : Int32) = 0 by decide)]
  obtain ⟨u1, u2, u3, u4, u5, u6, u7, e1⟩ := z_cf24 hR hB a1 a2 b1 b2 d1 d2 c 0 fuel k0 k1 k2 k3 k4 k5 k6 (by omega) (by unfold fuel; omega)
  exact ⟨_, e1⟩
theorem k_as (hR : RS c X Y W cnt x y w) (hB : BD c X Y W) {a b u v : Int} (h : PQ a b u v) (k0 : Int32) (k1 k2 k3 : Nat → Int32) : ∃ z : _, f_X5_alongSegment_0 cnt x y w k0 k1 k2 k3 (iI a) (iI b) (iI u) (iI v) = some (bits (segB X Y W c a b u v) c, z) := by
  have hc := hB.1
  have h0 := h
  obtain ⟨⟨⟨a1, a2⟩, b1, b2⟩, ⟨u1, u2⟩, v1, v2⟩ := h
  unfold f_X5_alongSegment_0
  rw [z_insq, bnd_some, z_insq, bnd_some, iI_toInt (by omega) (by omega), iI_toInt (by omega) (by omega), iI_toInt (by omega) (by omega), iI_toInt (by omega) (by omega), if_pos h0.1, if_neg (show ¬ (1 : Int32) = 0 by decide), if_pos h0.2, if_neg (show ¬ (1 : Int32) = 0 by decide)]
  obtain ⟨z1, z2, z3, z4, e1⟩ := z_as26 hR hB h0 c 0 fuel k0 k1 k2 k3 (by omega) (by unfold fuel; omega)
  exact ⟨_, e1⟩
end KAN
