/-! ===== sizes and samples ===== -/
section ZSI
variable {c : Nat} {X Y W : Nat → Int} {cnt : Int32} {x y w : Nat → Int32} {st : Nat → Int32}
theorem oI_eq {a b : Int} {k : Nat} {d : Int} (hc : c ≤ 10) (hk : k < c) (d1 : -10 ≤ d) (d2 : d < 0) : iI (oI (ownr X Y W c a b) d) = iI (k : Nat) ↔ ownr X Y W c a b = some k := by
  cases e : ownr X Y W c a b with
  | none =>
    constructor
    · intro h
      have h' : iI d = iI (k : Nat) := h
      rw [iI_eq (by omega) (by omega) (by omega) (by omega)] at h'
      omega
    · intro h; cases h
  | some j =>
    have hj := own_bd e
    constructor
    · intro h
      have h' : iI (j : Nat) = iI (k : Nat) := h
      rw [iI_eq (by omega) (by omega) (by omega) (by omega)] at h'
      rw [show j = k by omega]
    · intro h; cases h; rfl
/-- how many points of a row of the square a site owns -/
def SZr (X Y W : Nat → Int) (c k a n : Nat) : Nat := sumN n (fun b => if ownr X Y W c (a : Int) (b : Int) = some k then 1 else 0)
def SZ (X Y W : Nat → Int) (c k n : Nat) : Nat := sumN n (fun a => SZr X Y W c k a 21)
theorem z_po13 (hR : RS c X Y W cnt x y w) (hB : BD c X Y W) {k : Nat} (hk : k < c) {a : Nat} (ha : a < 21) (k4 : Int32 → Int32 → Int32 → Option R_X4_pointsOwnedBy) (s : Nat) :
    ∀ (e b n : Nat), b + e = 21 → e < n → f_X4_pointsOwnedBy_13 k4 cnt x y w n (iI k) (iI (s + SZr X Y W c k a b : Nat)) (iI a) (iI b) = k4 (iI k) (iI (s + SZr X Y W c k a 21 : Nat)) (iI (a + 1 : Nat)) := by
  have hc := hB.1
  intro e
  induction e with
  | zero =>
    intro b n hb hn
    obtain ⟨n, rfl⟩ : ∃ k, n = k + 1 := ⟨n - 1, by omega⟩
    have e : b = 21 := by omega
    subst e
    have key : ∀ u v, f_X4_pointsOwnedBy_13 k4 cnt x y w (n + 1) (iI k) u (iI a) v = g_X4_pointsOwnedBy_13 k4 cnt x y w (f_X4_pointsOwnedBy_13 k4 cnt x y w n) (iI k) u (iI a) v := fun _ _ => rfl
    rw [key]
    unfold g_X4_pointsOwnedBy_13
    rw [if_pos (by rw [q_20, iI_lt] <;> omega), iI_p1]
  | succ e ih =>
    intro b n hb hn
    obtain ⟨n, rfl⟩ : ∃ k, n = k + 1 := ⟨n - 1, by omega⟩
    have key : ∀ u v, f_X4_pointsOwnedBy_13 k4 cnt x y w (n + 1) (iI k) u (iI a) v = g_X4_pointsOwnedBy_13 k4 cnt x y w (f_X4_pointsOwnedBy_13 k4 cnt x y w n) (iI k) u (iI a) v := fun _ _ => rfl
    rw [key]
    unfold g_X4_pointsOwnedBy_13
    rw [if_neg (by rw [q_20, iI_lt] <;> omega), z_ownAt hR hB (by omega) (by omega) (by omega) (by omega), bnd_some, iI_p1, iI_p1]
    have ih' := ih (b + 1) n (by omega) (by omega)
    have es : SZr X Y W c k a (b + 1) = SZr X Y W c k a b + (if ownr X Y W c (a : Int) (b : Int) = some k then 1 else 0) := rfl
    rw [es] at ih'
    by_cases h : ownr X Y W c (a : Int) (b : Int) = some k
    · rw [if_pos ((oI_eq hc hk (by omega) (by omega)).mpr h)]
      rwa [if_pos h, ← Nat.add_assoc] at ih'
    · rw [if_neg (fun q => h ((oI_eq hc hk (by omega) (by omega)).mp q))]
      rwa [if_neg h, Nat.add_zero] at ih'
theorem z_po4 (hR : RS c X Y W cnt x y w) (hB : BD c X Y W) {k : Nat} (hk : k < c) :
    ∀ (e a n : Nat), a + e = 21 → e < n → f_X4_pointsOwnedBy_4 cnt x y w n (iI k) (iI (SZ X Y W c k a : Nat)) (iI a) = some (iI (SZ X Y W c k 21 : Nat)) := by
  intro e
  induction e with
  | zero =>
    intro a n hb hn
    obtain ⟨n, rfl⟩ : ∃ k, n = k + 1 := ⟨n - 1, by omega⟩
    have e : a = 21 := by omega
    subst e
    have key : ∀ u v, f_X4_pointsOwnedBy_4 cnt x y w (n + 1) (iI k) u v = g_X4_pointsOwnedBy_4 cnt x y w (f_X4_pointsOwnedBy_4 cnt x y w n) (iI k) u v := fun _ _ => rfl
    rw [key]
    unfold g_X4_pointsOwnedBy_4
    rw [if_pos (by rw [q_20, iI_lt] <;> omega)]
  | succ e ih =>
    intro a n hb hn
    obtain ⟨n, rfl⟩ : ∃ k, n = k + 1 := ⟨n - 1, by omega⟩
    have key : ∀ u v, f_X4_pointsOwnedBy_4 cnt x y w (n + 1) (iI k) u v = g_X4_pointsOwnedBy_4 cnt x y w (f_X4_pointsOwnedBy_4 cnt x y w n) (iI k) u v := fun _ _ => rfl
    rw [key]
    unfold g_X4_pointsOwnedBy_4
    rw [if_neg (by rw [q_20, iI_lt] <;> omega)]
    have e1 := z_po13 hR hB hk (show a < 21 by omega) (f_X4_pointsOwnedBy_4 cnt x y w n) (SZ X Y W c k a) 21 0 fuel (by omega) (by unfold fuel; omega)
    have e1' : f_X4_pointsOwnedBy_13 (f_X4_pointsOwnedBy_4 cnt x y w n) cnt x y w fuel (iI k) (iI (SZ X Y W c k a : Nat)) (iI a) 0 = _ := e1
    rw [e1']
    exact ih (a + 1) n (by omega) (by omega)
theorem z_po (hR : RS c X Y W cnt x y w) (hB : BD c X Y W) {k : Nat} (hk : k < c) : f_X4_pointsOwnedBy_0 cnt x y w (iI k) = some (iI (SZ X Y W c k 21 : Nat)) := by
  unfold f_X4_pointsOwnedBy_0
  exact z_po4 hR hB hk 21 0 fuel (by omega) (by unfold fuel; omega)
theorem z_so13 (hM : RM c X Y W st) (hB : BD c X Y W) {k : Nat} (hk : k < c) {a : Nat} (ha : a < 21) (k4 : Int32 → Int32 → Int32 → Option R_X6_sizeOf) (s : Nat) :
    ∀ (e b n : Nat), b + e = 21 → e < n → f_X6_sizeOf_13 k4 st n (iI k) (iI (s + SZr X Y W c k a b : Nat)) (iI a) (iI b) = k4 (iI k) (iI (s + SZr X Y W c k a 21 : Nat)) (iI (a + 1 : Nat)) := by
  have hc := hB.1
  intro e
  induction e with
  | zero =>
    intro b n hb hn
    obtain ⟨n, rfl⟩ : ∃ k, n = k + 1 := ⟨n - 1, by omega⟩
    have e : b = 21 := by omega
    subst e
    have key : ∀ u v, f_X6_sizeOf_13 k4 st (n + 1) (iI k) u (iI a) v = g_X6_sizeOf_13 k4 st (f_X6_sizeOf_13 k4 st n) (iI k) u (iI a) v := fun _ _ => rfl
    rw [key]
    unfold g_X6_sizeOf_13
    rw [if_pos (by rw [q_20, iI_lt] <;> omega), iI_p1]
  | succ e ih =>
    intro b n hb hn
    obtain ⟨n, rfl⟩ : ∃ k, n = k + 1 := ⟨n - 1, by omega⟩
    have key : ∀ u v, f_X6_sizeOf_13 k4 st (n + 1) (iI k) u (iI a) v = g_X6_sizeOf_13 k4 st (f_X6_sizeOf_13 k4 st n) (iI k) u (iI a) v := fun _ _ => rfl
    rw [key]
    unfold g_X6_sizeOf_13
    have z0 : ∀ m : Nat, iI m + (0 : Int32) = iI m := fun m => by rw [q_0, iI_add, Int.add_zero]
    rw [if_neg (by rw [q_20, iI_lt] <;> omega), z_mown hM hB (by omega) (by omega) (by omega) (by omega), bnd_some, nm_eq, nm_eq, iI_p1, iI_p1, z0]
    have ih' := ih (b + 1) n (by omega) (by omega)
    have es : SZr X Y W c k a (b + 1) = SZr X Y W c k a b + (if ownr X Y W c (a : Int) (b : Int) = some k then 1 else 0) := rfl
    rw [es] at ih'
    by_cases h : ownr X Y W c (a : Int) (b : Int) = some k
    · rw [if_pos ((oI_eq hc hk (by omega) (by omega)).mpr h)]
      rwa [if_pos h, ← Nat.add_assoc] at ih'
    · rw [if_neg (fun q => h ((oI_eq hc hk (by omega) (by omega)).mp q))]
      rwa [if_neg h, Nat.add_zero] at ih'
theorem z_so4 (hM : RM c X Y W st) (hB : BD c X Y W) {k : Nat} (hk : k < c) :
    ∀ (e a n : Nat), a + e = 21 → e < n → f_X6_sizeOf_4 st n (iI k) (iI (SZ X Y W c k a : Nat)) (iI a) = some (iI (SZ X Y W c k 21 : Nat)) := by
  intro e
  induction e with
  | zero =>
    intro a n hb hn
    obtain ⟨n, rfl⟩ : ∃ k, n = k + 1 := ⟨n - 1, by omega⟩
    have e : a = 21 := by omega
    subst e
    have key : ∀ u v, f_X6_sizeOf_4 st (n + 1) (iI k) u v = g_X6_sizeOf_4 st (f_X6_sizeOf_4 st n) (iI k) u v := fun _ _ => rfl
    rw [key]
    unfold g_X6_sizeOf_4
    rw [if_pos (by rw [q_20, iI_lt] <;> omega)]
  | succ e ih =>
    intro a n hb hn
    obtain ⟨n, rfl⟩ : ∃ k, n = k + 1 := ⟨n - 1, by omega⟩
    have key : ∀ u v, f_X6_sizeOf_4 st (n + 1) (iI k) u v = g_X6_sizeOf_4 st (f_X6_sizeOf_4 st n) (iI k) u v := fun _ _ => rfl
    rw [key]
    unfold g_X6_sizeOf_4
    rw [if_neg (by rw [q_20, iI_lt] <;> omega)]
    have e1 := z_so13 hM hB hk (show a < 21 by omega) (f_X6_sizeOf_4 st n) (SZ X Y W c k a) 21 0 fuel (by omega) (by unfold fuel; omega)
    have e1' : f_X6_sizeOf_13 (f_X6_sizeOf_4 st n) st fuel (iI k) (iI (SZ X Y W c k a : Nat)) (iI a) 0 = _ := e1
    rw [e1']
    exact ih (a + 1) n (by omega) (by omega)
theorem z_so (hM : RM c X Y W st) (hB : BD c X Y W) {k : Nat} (hk : k < c) : f_X6_sizeOf_0 st (iI k) = some (iI (SZ X Y W c k 21 : Nat)) := by
  unfold f_X6_sizeOf_0
  exact z_so4 hM hB hk 21 0 fuel (by omega) (by unfold fuel; omega)
theorem o8 {Inv : InvT} (H : HS Inv) : op_8 Inv := by
  intro _ _ _ _ _ _ _ _ _ _ _ _ _ _ _ _ _ st _ _ _ _ _ _ _ _ t p hI
  obtain ⟨c, X, Y, W, hB, hR, hM⟩ := H _ _ _ _ _ _ _ _ _ _ _ _ _ _ _ _ _ _ _ _ _ _ _ _ _ _ hI
  have hc := hB.1
  have ec := hR.1
  subst ec
  unfold f_X5_size_0 f_X6_size_0
  rw [z_has hc, z_nosite hM hc, bnd_some, bnd_some]
  by_cases hp : 0 ≤ p.toInt ∧ p.toInt < c
  · rw [if_pos hp, if_pos hp, if_neg (by decide), if_pos rfl]
    obtain ⟨i, hi, rfl⟩ := p_nat hp
    rw [z_po hR hB hi, z_so hM hB hi, bnd_some, bnd_some]
    exact ⟨_, _, rfl, rfl, hI⟩
  · rw [if_neg hp, if_neg hp, if_pos rfl, if_neg (by decide)]
    exact ⟨_, _, rfl, rfl, hI⟩
/-- the point that a draw names -/
theorem draw_pt (v : Int64) : ∃ z : Nat, z < 441 ∧ ((v.toUInt64 >>> ((33 : Int32).toInt64.toUInt64 &&& Int64.toUInt64 63)).toInt64).toInt32 - ((v.toUInt64 >>> ((33 : Int32).toInt64.toUInt64 &&& Int64.toUInt64 63)).toInt64).toInt32 / (441 : Int32) * (441 : Int32) = iI z := by
  have e33 : ((33 : Int32).toInt64.toUInt64 &&& Int64.toUInt64 63) = 33 := by decide
  rw [e33]
  have hu : (v.toUInt64 >>> (33 : UInt64)).toNat < 2147483648 := by
    rw [UInt64.toNat_shiftRight]
    have := v.toUInt64.toNat_lt
    have e : (33 : UInt64).toNat % 64 = 33 := by decide
    rw [e, Nat.shiftRight_eq_div_pow]
    omega
  generalize v.toUInt64 >>> (33 : UInt64) = u at hu ⊢
  have eu : u = UInt64.ofNat u.toNat := (UInt64.ofNat_toNat).symm
  have e2 : u.toInt64.toInt32 = iI (u.toNat : Nat) := by
    have e3 : u.toInt64 = lI (u.toNat : Nat) := by
      refine ((congrArg UInt64.toInt64 eu).trans UInt64.toInt64_ofNat').trans ?_
      exact Int64.ofInt_eq_ofNat.symm
    rw [e3]
    exact lI_i _
  rw [e2, q_441, iI_rem (by omega) (by omega) (by omega) (by omega)]
  refine ⟨u.toNat % 441, Nat.mod_lt _ (by omega), ?_⟩
  congr 1
theorem pt_of (z : Nat) (hz : z < 441) : ∃ a b : Nat, a < 21 ∧ b < 21 ∧ iI z / (21 : Int32) = iI a ∧ iI z - iI z / (21 : Int32) * (21 : Int32) = iI b := by
  refine ⟨z / 21, z % 21, by omega, by omega, ?_, ?_⟩
  · rw [q_21, iI_div (by omega) (by omega) (by omega) (by omega)]
    congr 1
  · rw [q_21, iI_rem (by omega) (by omega) (by omega) (by omega)]
    congr 1
theorem z_samp (hR : RS c X Y W cnt x y w) (hM : RM c X Y W st) (hB : BD c X Y W) {k : Nat} (hk : k < c) (m : Nat) (hm : m ≤ 200) (t : Int32) :
    ∀ (e i n n' : Nat) (s : Int64) (r : Int32), i + e = m → e < n → e < n' → ∃ r' : Int32, f_X5_sample_39 cnt x y w n (iI k) (iI m) s r (iI i) = some r' ∧ f_X6_sample_40 st n' t (iI k) (iI m) s r (iI i) = some (r', t) := by
  have hc := hB.1
  intro e
  induction e with
  | zero =>
    intro i n n' s r hi hn hn'
    obtain ⟨n, rfl⟩ : ∃ k, n = k + 1 := ⟨n - 1, by omega⟩
    obtain ⟨n', rfl⟩ : ∃ k, n' = k + 1 := ⟨n' - 1, by omega⟩
    have e : i = m := by omega
    subst e
    refine ⟨r, ?_, ?_⟩
    · show g_X5_sample_39 cnt x y w (f_X5_sample_39 cnt x y w n) (iI k) (iI i) s r (iI i) = _
      unfold g_X5_sample_39
      rw [if_pos (by rw [iI_le] <;> omega)]
    · show g_X6_sample_40 st (f_X6_sample_40 st n') t (iI k) (iI i) s r (iI i) = _
      unfold g_X6_sample_40
      rw [if_pos (by rw [iI_le] <;> omega)]
  | succ e ih =>
    intro i n n' s r hi hn hn'
    obtain ⟨n, rfl⟩ : ∃ k, n = k + 1 := ⟨n - 1, by omega⟩
    obtain ⟨n', rfl⟩ : ∃ k, n' = k + 1 := ⟨n' - 1, by omega⟩
    show ∃ r' : Int32, g_X5_sample_39 cnt x y w (f_X5_sample_39 cnt x y w n) (iI k) (iI m) s r (iI i) = _ ∧ g_X6_sample_40 st (f_X6_sample_40 st n') t (iI k) (iI m) s r (iI i) = _
    unfold g_X5_sample_39 g_X6_sample_40
    rw [if_neg (by rw [iI_le] <;> omega), if_neg (by rw [iI_le] <;> omega)]
    simp only [nm_eq]
    generalize s * (6364136223846793005 : Int64) + (1442695040888963407 : Int64) = s'
    obtain ⟨z, hz, ez⟩ := draw_pt s'
    rw [ez]
    obtain ⟨a, b, ha, hb, ea, eb⟩ := pt_of z hz
    rw [ea] at eb
    rw [ea, eb, z_ownAt hR hB (by omega) (by omega) (by omega) (by omega), z_mown hM hB (by omega) (by omega) (by omega) (by omega), bnd_some, bnd_some, iI_p1]
    by_cases h : ownr X Y W c (a : Int) (b : Int) = some k
    · rw [if_pos ((oI_eq hc hk (by omega) (by omega)).mpr h), if_pos ((oI_eq hc hk (by omega) (by omega)).mpr h)]
      exact ih (i + 1) n n' s' _ (by omega) (by omega) (by omega)
    · rw [if_neg (fun q => h ((oI_eq hc hk (by omega) (by omega)).mp q)), if_neg (fun q => h ((oI_eq hc hk (by omega) (by omega)).mp q)), show r + (0 : Int32) = r by rw [iI_of r, q_0, iI_add, Int.add_zero]]
      exact ih (i + 1) n n' s' _ (by omega) (by omega) (by omega)
theorem o28 {Inv : InvT} (H : HS Inv) : op_28 Inv := by
  intro _ _ _ _ _ _ _ _ _ _ _ _ _ _ _ _ _ st _ _ _ _ _ _ _ _ t s p q hI
  obtain ⟨c, X, Y, W, hB, hR, hM⟩ := H _ _ _ _ _ _ _ _ _ _ _ _ _ _ _ _ _ _ _ _ _ _ _ _ _ _ hI
  have hc := hB.1
  have ec := hR.1
  subst ec
  unfold f_X5_sample_0 f_X6_sample_0
  rw [z_has hc, z_nosite hM hc, bnd_some, bnd_some]
  by_cases hp : 0 ≤ p.toInt ∧ p.toInt < c
  · rw [if_pos hp, if_pos hp, if_neg (by decide), if_pos rfl]
    obtain ⟨i, hi, rfl⟩ := p_nat hp
    obtain ⟨z, z1, z2, rfl⟩ := i_ex q
    rw [iI_l z1 z2, ql_1, ql_200, z_in _ _ _ (by omega) (by omega) (by omega) (by omega) (by omega) (by omega), bnd_some]
    by_cases h1 : z < 1
    · rw [if_pos (by rw [q_1, iI_lt] <;> omega), if_neg (show ¬ ((1 : Int) ≤ z ∧ z ≤ 200) by omega), if_pos rfl]
      exact ⟨_, _, rfl, rfl, hI⟩
    · rw [if_neg (by rw [q_1, iI_lt] <;> omega)]
      by_cases h2 : z ≤ 200
      · rw [if_pos (by rw [q_200, iI_le] <;> omega), if_pos (show (1 : Int) ≤ z ∧ z ≤ 200 by omega), if_neg (by decide)]
        obtain ⟨m, rfl⟩ : ∃ m : Nat, z = m := ⟨z.toNat, by omega⟩
        obtain ⟨r', e1, e2⟩ := z_samp hR hM hB hi m (by omega) 0 m 0 fuel fuel s 0 (by omega) (by unfold fuel; omega) (by unfold fuel; omega)
        exact ⟨_, _, e1, e2, hI⟩
      · rw [if_neg (by rw [q_200, iI_le] <;> omega), if_neg (show ¬ ((1 : Int) ≤ z ∧ z ≤ 200) by omega), if_pos rfl]
        exact ⟨_, _, rfl, rfl, hI⟩
  · rw [if_neg hp, if_neg hp, if_pos rfl, if_neg (by decide)]
    exact ⟨_, _, rfl, rfl, hI⟩
end ZSI
