/-! ===== the weight with which a site owns a point ===== -/
section ZWT
variable {c : Nat} {X Y W : Nat → Int} {cnt : Int32} {x y w : Nat → Int32} {st : Nat → Int32} {a b : Int}
def sq2 (X Y : Nat → Int) (i : Nat) (a b : Int) : Int := (a - X i) * (a - X i) + (b - Y i) * (b - Y i)
def wtoN (X Y W : Nat → Int) (i : Nat) (a b : Int) : Nat → Int
  | 0 => 0
  | n + 1 => if n = i then wtoN X Y W i a b n else max (wtoN X Y W i a b n) (sq2 X Y i a b - pw X Y W n a b + if i ≤ n then 0 else 1)
theorem wtoN_s (i n : Nat) : wtoN X Y W i a b (n + 1) = if n = i then wtoN X Y W i a b n else max (wtoN X Y W i a b n) (sq2 X Y i a b - pw X Y W n a b + if i ≤ n then 0 else 1) := rfl
/-- the weights with one changed -/
def setW (W : Nat → Int) (i : Nat) (v : Int) : Nat → Int := fun j => if j = i then v else W j
theorem sq2_b (h : BD c X Y W) (i : Nat) (a1 : 0 ≤ a) (a2 : a ≤ 20) (b1 : 0 ≤ b) (b2 : b ≤ 20) : 0 ≤ sq2 X Y i a b ∧ sq2 X Y i a b ≤ 800 := by
  obtain ⟨⟨x1, x2⟩, ⟨y1, y2⟩, -⟩ := h.2 i
  have s1 := sq_b (t := a - X i) (by omega) (by omega)
  have s2 := sq_b (t := b - Y i) (by omega) (by omega)
  unfold sq2
  omega
theorem wtoN_b (h : BD c X Y W) (i : Nat) (a1 : 0 ≤ a) (a2 : a ≤ 20) (b1 : 0 ≤ b) (b2 : b ≤ 20) : ∀ n, 0 ≤ wtoN X Y W i a b n ∧ wtoN X Y W i a b n ≤ 1201 := by
  intro n
  induction n with
  | zero => unfold wtoN; omega
  | succ n ih =>
    have s := sq2_b h i a1 a2 b1 b2
    have p := pw_b h n a1 a2 b1 b2
    unfold wtoN
    split
    · exact ih
    · split <;> omega
theorem wtoN_le {i : Nat} {v : Int} (hv : 0 ≤ v) : ∀ n, wtoN X Y W i a b n ≤ v ↔ ∀ j, j < n → j ≠ i → sq2 X Y i a b - pw X Y W j a b + (if i ≤ j then 0 else 1) ≤ v := by
  intro n
  induction n with
  | zero =>
    unfold wtoN
    exact ⟨fun _ j hj => by omega, fun _ => hv⟩
  | succ n ih =>
    unfold wtoN
    by_cases e : n = i
    · rw [if_pos e, ih]
      constructor
      · intro h j hj hne
        exact h j (by omega) hne
      · intro h j hj hne
        exact h j (by omega) hne
    · rw [if_neg e]
      constructor
      · intro h j hj hne
        by_cases ej : j = n
        · subst ej; omega
        · exact (ih.mp (by omega)) j (by omega) hne
      · intro h
        have h1 := ih.mpr (fun j hj hne => h j (by omega) hne)
        have h2 := h n (by omega) e
        omega
theorem own_wto {i : Nat} (hi : i < c) {v : Int} (hv : 0 ≤ v) : ownr X Y (setW W i v) c a b = some i ↔ wtoN X Y W i a b c ≤ v := by
  rw [wtoN_le hv, own_iff]
  have pi : pw X Y (setW W i v) i a b = sq2 X Y i a b - v := by
    unfold pw sq2 setW
    rw [if_pos rfl]
  have pj : ∀ j, j ≠ i → pw X Y (setW W i v) j a b = pw X Y W j a b := by
    intro j hj
    unfold pw setW
    rw [if_neg hj]
  constructor
  · rintro ⟨-, -, h⟩ j hj hne
    have := h j hj rfl
    simp only [pi, pj j hne] at this
    split <;> omega
  · intro h
    refine ⟨hi, rfl, fun j hj _ => ?_⟩
    simp only [pi]
    by_cases e : j = i
    · subst e
      simp only [pi]
      omega
    · have := h j hj e
      simp only [pj j e]
      split at this <;> omega
theorem z_wto_loop (hR : RS c X Y W cnt x y w) (hB : BD c X Y W) {i : Nat} (hi : i < c) (a1 : 0 ≤ a) (a2 : a ≤ 20) (b1 : 0 ≤ b) (b2 : b ≤ 20) :
    ∀ (e k n : Nat), k + e = c → e < n → f_X4_weightToOwn_15 cnt x y w n (iI i) (iI a) (iI b) (iI (wtoN X Y W i a b k)) (iI (sq2 X Y i a b)) (iI k) = some (iI (wtoN X Y W i a b c)) := by
  have hc := hB.1
  have s := sq2_b hB i a1 a2 b1 b2
  intro e
  induction e with
  | zero =>
    intro k n hk hn
    obtain ⟨n, rfl⟩ : ∃ k, n = k + 1 := ⟨n - 1, by omega⟩
    have e : k = c := by omega
    subst e
    show g_X4_weightToOwn_15 cnt x y w (f_X4_weightToOwn_15 cnt x y w n) (iI i) (iI a) (iI b) _ _ _ = _
    unfold g_X4_weightToOwn_15
    rw [if_pos (by rw [hR.1, iI_le] <;> omega)]
  | succ e ih =>
    intro k n hk hn
    obtain ⟨n, rfl⟩ : ∃ k, n = k + 1 := ⟨n - 1, by omega⟩
    show g_X4_weightToOwn_15 cnt x y w (f_X4_weightToOwn_15 cnt x y w n) (iI i) (iI a) (iI b) _ _ _ = _
    unfold g_X4_weightToOwn_15 f_X4_weightToOwn_41
    have ih' := ih (k + 1) n (by omega) (by omega)
    have p := pw_b hB k a1 a2 b1 b2
    have wb := wtoN_b hB i a1 a2 b1 b2 k
    rw [wtoN_s] at ih'
    rw [if_neg (by rw [hR.1, iI_le] <;> omega), iI_p1]
    by_cases e1 : k = i
    · rw [if_pos (by rw [e1])]
      rwa [if_pos e1] at ih'
    · rw [if_neg (by rw [iI_eq] <;> omega)]
      rw [if_neg e1] at ih'
      rw [z_power hR hc (by omega), bnd_some, nm_eq, bnd_some, nm_eq, iI_sub, q_0, q_1, iI_add, iI_add, mxI_iI (by omega) (by omega) (by omega) (by omega), mxI_iI (by omega) (by omega) (by omega) (by omega)]
      by_cases h : i ≤ k
      · rw [if_pos (by rw [iI_le] <;> omega)]
        rwa [if_pos h] at ih'
      · rw [if_neg (by rw [iI_le] <;> omega)]
        rwa [if_neg h] at ih'
theorem z_wto (hR : RS c X Y W cnt x y w) (hB : BD c X Y W) {i : Nat} (hi : i < c) (a1 : 0 ≤ a) (a2 : a ≤ 20) (b1 : 0 ≤ b) (b2 : b ≤ 20) : f_X4_weightToOwn_0 cnt x y w (iI i) (iI a) (iI b) = some (iI (wtoN X Y W i a b c)) := by
  have hc := hB.1
  unfold f_X4_weightToOwn_0
  rw [z_sq hR hc hi, bnd_some]
  exact z_wto_loop hR hB hi a1 a2 b1 b2 c 0 fuel (by omega) (by unfold fuel; omega)
end ZWT
