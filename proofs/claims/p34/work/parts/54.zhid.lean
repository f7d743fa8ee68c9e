/-! ===== hidden sites ===== -/
section ZHH
variable {c : Nat} {X Y W : Nat → Int} {cnt : Int32} {x y w : Nat → Int32} {st : Nat → Int32}
theorem NC_one {i m m' : Nat} (h : NC X Y W c i m) (h' : NC X Y W c i m') (hb : BD c X Y W) (hi : i < c) : m = m' :=
  NC_un h h' ⟨iI c, fun i => iI (X i), fun i => iI (Y i), fun i => iI (W i), ⟨rfl, fun _ _ => ⟨rfl, rfl, rfl⟩⟩⟩ hb hi
/-- is a site hidden -/
noncomputable def hidB (X Y W : Nat → Int) (c i : Nat) : Bool := @decide (∃ m, NC X Y W c i m ∧ ¬ 3 ≤ m) (Classical.propDecidable _)
theorem hidB_f {i m : Nat} (hb : BD c X Y W) (hi : i < c) (h : NC X Y W c i m) (hm : 3 ≤ m) : hidB X Y W c i = false := by
  unfold hidB
  refine @decide_eq_false _ (Classical.propDecidable _) ?_
  rintro ⟨m', h1, h2⟩
  exact h2 (NC_one h h1 hb hi ▸ hm)
theorem hidB_t {i m : Nat} (h : NC X Y W c i m) (hm : ¬ 3 ≤ m) : hidB X Y W c i = true := by
  unfold hidB
  exact @decide_eq_true _ (Classical.propDecidable _) ⟨m, h, hm⟩
theorem z_mhid (hM : RM c X Y W st) (hB : BD c X Y W) {i : Nat} (hi : i < c) (t1 t2 : Int32) (a b d : Nat → Int32) (xx dd yy : Nat → Int64) :
    ∃ (n0 n1 : Int32) (a' b' d' : Nat → Int32) (x' dd' y' : Nat → Int64), f_X6_isHidden_0 st t1 t2 a b d xx dd yy (iI i) = some ((if hidB X Y W c i = true then (1 : Int32) else 0), n0, n1, a', b', d', x', dd', y') := by
  unfold f_X6_isHidden_0
  obtain ⟨m, g, v1, v2, v3, v4, v5, v6, v7, e2, h5, h6, h7⟩ := z_polygon hM hB hi t1 t2 a b d xx dd yy
  rw [e2, bnd9_some]
  by_cases h : 3 ≤ m
  · rw [show pc3 m = m from if_pos h, if_neg (by rw [q_0, iI_eq] <;> omega), hidB_f hB hi ⟨g, h5⟩ h]
    exact ⟨_, _, _, _, _, _, _, _, rfl⟩
  · rw [show pc3 m = 0 from if_neg h, if_pos (show iI ((0 : Nat) : Int) = 0 from rfl), hidB_t ⟨g, h5⟩ h]
    exact ⟨_, _, _, _, _, _, _, _, rfl⟩
theorem z_hides (hR : RS c X Y W cnt x y w) (hB : BD c X Y W) {i : Nat} (hi : i < c) (t1 t2 t3 t4 t5 : Int32) (t6 t7 t8 t9 t10 t11 : Nat → Int32) :
    ∃ (n1 n2 n3 n4 n5 : Int32) (n6 n7 n8 n9 n10 n11 : Nat → Int32), f_X0_hides_0 cnt x y w t1 t2 t3 t4 t5 t6 t7 t8 t9 t10 t11 (iI i) = some ((if hidB X Y W c i = true then (1 : Int32) else 0), n1, n2, n3, n4, n5, n6, n7, n8, n9, n10, n11) := by
  unfold f_X0_hides_0
  have hc := hB.1
  obtain ⟨m, f, u1, u2, u3, u4, u5, u6, u7, u8, u9, e1, h1, h2, h3, h4⟩ := z_cutOut hR hB hi t1 t2 t3 t4 t5 t6 t7 t8 t9 t10 t11
  have hNC : NC X Y W c i m := by
    have hM : RM c X Y W (fun k => if k = 0 then iI c else if k % 3 = 1 then iI (X (k / 3)) else if k % 3 = 2 then iI (Y (k / 3)) else iI (W (k / 3 - 1))) := by
      refine ⟨rfl, fun i hi => ⟨?_, ?_, ?_⟩⟩
      · show (if 1 + 3 * i = 0 then _ else _) = _
        rw [if_neg (by omega), if_pos (by omega), show (1 + 3 * i) / 3 = i by omega]
      · show (if 2 + 3 * i = 0 then _ else _) = _
        rw [if_neg (by omega), if_neg (by omega), if_pos (by omega), show (2 + 3 * i) / 3 = i by omega]
      · show (if 3 + 3 * i = 0 then _ else _) = _
        rw [if_neg (by omega), if_neg (by omega), if_neg (by omega), show (3 + 3 * i) / 3 - 1 = i by omega]
    obtain ⟨m', g, v1, v2, v3, v4, v5, v6, v7, -, h5, -, -⟩ := z_polygon hM hB hi 0 0 (fun _ => 0) (fun _ => 0) (fun _ => 0) (fun _ => 0) (fun _ => 0) (fun _ => 0)
    rw [(CO_same h3 h5).1]
    exact ⟨g, h5⟩
  rw [e1, bnd11_some, z_pc m h4, bnd_some]
  by_cases h : 3 ≤ m
  · rw [show pc3 m = m from if_pos h, if_neg (by rw [q_0, iI_eq] <;> omega), hidB_f hB hi hNC h]
    exact ⟨_, _, _, _, _, _, _, _, _, _, _, rfl⟩
  · rw [show pc3 m = 0 from if_neg h, if_pos (show iI ((0 : Nat) : Int) = 0 from rfl), hidB_t hNC h]
    exact ⟨_, _, _, _, _, _, _, _, _, _, _, rfl⟩
/-- the bits of a set of sites -/
def bits (h : Nat → Bool) : Nat → Int32
  | 0 => 0
  | k + 1 => if h k = true then bits h k ||| ((1 : Int32) <<< (iI k &&& 31)) else bits h k
theorem z_hs_loop (hR : RS c X Y W cnt x y w) (hB : BD c X Y W) :
    ∀ (e k n : Nat) (t1 t2 t3 t4 t5 : Int32) (t6 t7 t8 t9 t10 t11 : Nat → Int32), k + e = c → e < n →
    ∃ (n1 n2 n3 n4 n5 : Int32) (n6 n7 n8 n9 n10 n11 : Nat → Int32), f_X5_hiddenSites_4 cnt x y w n t1 t2 t3 t4 t5 t6 t7 t8 t9 t10 t11 (bits (hidB X Y W c) k) (iI k) = some (bits (hidB X Y W c) c, n1, n2, n3, n4, n5, n6, n7, n8, n9, n10, n11) := by
  have hc := hB.1
  intro e
  induction e with
  | zero =>
    intro k n t1 t2 t3 t4 t5 t6 t7 t8 t9 t10 t11 hk hn
    obtain ⟨n, rfl⟩ : ∃ k, n = k + 1 := ⟨n - 1, by omega⟩
    have e : k = c := by omega
    subst e
    show ∃ (n1 n2 n3 n4 n5 : Int32) (n6 n7 n8 n9 n10 n11 : Nat → Int32), g_X5_hiddenSites_4 cnt x y w (f_X5_hiddenSites_4 cnt x y w n) _ _ _ _ _ _ _ _ _ _ _ _ _ = _
    unfold g_X5_hiddenSites_4
    rw [if_pos (by rw [hR.1, iI_le] <;> omega)]
    exact ⟨_, _, _, _, _, _, _, _, _, _, _, rfl⟩
  | succ e ih =>
    intro k n t1 t2 t3 t4 t5 t6 t7 t8 t9 t10 t11 hk hn
    obtain ⟨n, rfl⟩ : ∃ k, n = k + 1 := ⟨n - 1, by omega⟩
    show ∃ (n1 n2 n3 n4 n5 : Int32) (n6 n7 n8 n9 n10 n11 : Nat → Int32), g_X5_hiddenSites_4 cnt x y w (f_X5_hiddenSites_4 cnt x y w n) _ _ _ _ _ _ _ _ _ _ _ _ _ = _
    unfold g_X5_hiddenSites_4
    rw [if_neg (by rw [hR.1, iI_le] <;> omega)]
    obtain ⟨n1, n2, n3, n4, n5, n6, n7, n8, n9, n10, n11, e1⟩ := z_hides hR hB (show k < c by omega) t1 t2 t3 t4 t5 t6 t7 t8 t9 t10 t11
    rw [e1, bnd12_some, nm_eq, iI_p1]
    have ih' := ih (k + 1) n n1 n2 n3 n4 n5 n6 n7 n8 n9 n10 n11 (by omega) (by omega)
    by_cases h : hidB X Y W c k = true
    · rw [if_pos h, if_neg (by decide)]
      rwa [show bits (hidB X Y W c) (k + 1) = bits (hidB X Y W c) k ||| ((1 : Int32) <<< (iI k &&& 31)) by rw [bits, if_pos h]] at ih'
    · rw [if_neg h, if_pos rfl]
      rwa [show bits (hidB X Y W c) (k + 1) = bits (hidB X Y W c) k by rw [bits, if_neg h]] at ih'
theorem z_hs (hR : RS c X Y W cnt x y w) (hB : BD c X Y W) (t1 t2 t3 t4 t5 : Int32) (t6 t7 t8 t9 t10 t11 : Nat → Int32) :
    ∃ (n1 n2 n3 n4 n5 : Int32) (n6 n7 n8 n9 n10 n11 : Nat → Int32), f_X5_hiddenSites_0 cnt x y w t1 t2 t3 t4 t5 t6 t7 t8 t9 t10 t11 = some (bits (hidB X Y W c) c, n1, n2, n3, n4, n5, n6, n7, n8, n9, n10, n11) := by
  have hc := hB.1
  unfold f_X5_hiddenSites_0
  exact z_hs_loop hR hB c 0 fuel _ _ _ _ _ _ _ _ _ _ _ (by omega) (by unfold fuel; omega)
theorem z_mhs_loop (hM : RM c X Y W st) (hB : BD c X Y W) (t0 : Int32) :
    ∀ (e k n : Nat) (t1 t2 : Int32) (a b d : Nat → Int32) (xx dd yy : Nat → Int64), k + e = c → e < n →
    ∃ (n0 n1 : Int32) (a' b' d' : Nat → Int32) (x' dd' y' : Nat → Int64), f_X6_hiddenSites_9 st n t0 t1 t2 a b d xx dd yy (bits (hidB X Y W c) k) (iI k) = some (bits (hidB X Y W c) c, t0, n0, n1, a', b', d', x', dd', y') := by
  have hc := hB.1
  intro e
  induction e with
  | zero =>
    intro k n t1 t2 a b d xx dd yy hk hn
    obtain ⟨n, rfl⟩ : ∃ k, n = k + 1 := ⟨n - 1, by omega⟩
    have e : k = c := by omega
    subst e
    show ∃ (n0 n1 : Int32) (a' b' d' : Nat → Int32) (x' dd' y' : Nat → Int64), g_X6_hiddenSites_9 st (f_X6_hiddenSites_9 st n) _ _ _ _ _ _ _ _ _ _ _ = _
    unfold g_X6_hiddenSites_9
    rw [show (0 : Int32).toNatClampNeg = 0 from rfl, if_pos (by rw [hM.1, iI_le] <;> omega)]
    exact ⟨_, _, _, _, _, _, _, _, rfl⟩
  | succ e ih =>
    intro k n t1 t2 a b d xx dd yy hk hn
    obtain ⟨n, rfl⟩ : ∃ k, n = k + 1 := ⟨n - 1, by omega⟩
    show ∃ (n0 n1 : Int32) (a' b' d' : Nat → Int32) (x' dd' y' : Nat → Int64), g_X6_hiddenSites_9 st (f_X6_hiddenSites_9 st n) _ _ _ _ _ _ _ _ _ _ _ = _
    unfold g_X6_hiddenSites_9
    rw [show (0 : Int32).toNatClampNeg = 0 from rfl, if_neg (by rw [hM.1, iI_le] <;> omega)]
    obtain ⟨n1, n2, n3, n4, n5, n6, n7, n8, e1⟩ := z_mhid hM hB (show k < c by omega) t1 t2 a b d xx dd yy
    rw [e1, bnd9_some, nm_eq, nm_eq, iI_p1]
    have ih' := ih (k + 1) n n1 n2 n3 n4 n5 n6 n7 n8 (by omega) (by omega)
    by_cases h : hidB X Y W c k = true
    · rw [if_pos h, if_neg (by decide)]
      rwa [show bits (hidB X Y W c) (k + 1) = bits (hidB X Y W c) k ||| ((1 : Int32) <<< (iI k &&& 31)) by rw [bits, if_pos h]] at ih'
    · rw [if_neg h, if_pos rfl, Int32.or_zero]
      rwa [show bits (hidB X Y W c) (k + 1) = bits (hidB X Y W c) k by rw [bits, if_neg h]] at ih'
theorem o17 {Inv : InvT} (H : HS Inv) : op_17 Inv := by
  intro _ _ _ _ _ _ _ _ _ _ _ _ _ _ _ _ _ st _ _ _ _ _ _ _ _ k0 k1 k2 k3 k4 k5 k6 k7 k8 k9 k10 n0 n1 n2 n3 n4 n5 n6 n7 n8 hI
  obtain ⟨c, X, Y, W, hB, hR, hM⟩ := H _ _ _ _ _ _ _ _ _ _ _ _ _ _ _ _ _ _ _ _ _ _ _ _ _ _ hI
  have hc := hB.1
  obtain ⟨u1, u2, u3, u4, u5, u6, u7, u8, u9, u10, u11, e1⟩ := z_hs hR hB k0 k1 k2 k3 k4 k5 k6 k7 k8 k9 k10
  obtain ⟨v1, v2, v3, v4, v5, v6, v7, v8, e2⟩ := z_mhs_loop hM hB 0 c 0 fuel n1 n2 n3 n4 n5 n6 n7 n8 (by omega) (by unfold fuel; omega)
  unfold f_X6_hiddenSites_0
  rw [e1]
  exact ⟨_, _, _, _, _, _, _, _, _, _, _, _, _, _, _, _, _, _, _, _, _, rfl, e2, hI⟩
end ZHH
