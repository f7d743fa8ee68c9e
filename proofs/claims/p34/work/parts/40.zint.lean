/-! ===== ints by their numbers ===== -/
def iI (z : Int) : Int32 := Int32.ofInt z
def lI (z : Int) : Int64 := Int64.ofInt z
theorem iI_add (a b : Int) : iI a + iI b = iI (a + b) := (Int32.ofInt_add a b).symm
theorem iI_sub (a b : Int) : iI a - iI b = iI (a - b) := (Int32.ofInt_sub a b).symm
theorem iI_mul (a b : Int) : iI a * iI b = iI (a * b) := (Int32.ofInt_mul a b).symm
theorem iI_neg (a : Int) : -iI a = iI (-a) := (Int32.ofInt_neg a).symm
theorem lI_add (a b : Int) : lI a + lI b = lI (a + b) := (Int64.ofInt_add a b).symm
theorem lI_sub (a b : Int) : lI a - lI b = lI (a - b) := (Int64.ofInt_sub a b).symm
theorem lI_mul (a b : Int) : lI a * lI b = lI (a * b) := (Int64.ofInt_mul a b).symm
theorem lI_neg (a : Int) : -lI a = lI (-a) := (Int64.ofInt_neg a).symm
theorem nI_iI (n : Nat) : nI n = iI n := (Int32.ofInt_eq_ofNat).symm
theorem iI_toInt {z : Int} (h1 : -2147483648 ≤ z) (h2 : z < 2147483648) : (iI z).toInt = z := Int32.toInt_ofInt_of_le h1 h2
theorem lI_toInt {z : Int} (h1 : -9223372036854775808 ≤ z) (h2 : z < 9223372036854775808) : (lI z).toInt = z := Int64.toInt_ofInt_of_le h1 h2
theorem iI_of (x : Int32) : x = iI x.toInt := (Int32.ofInt_toInt x).symm
theorem lI_of (x : Int64) : x = lI x.toInt := (Int64.ofInt_toInt x).symm
theorem i_rng (x : Int32) : -2147483648 ≤ x.toInt ∧ x.toInt < 2147483648 := by
  have h1 := x.minValue_le_toInt
  have h2 := x.toInt_le
  simp only [Int32.toInt_minValue, Int32.toInt_maxValue] at h1 h2
  omega
theorem l_rng (x : Int64) : -9223372036854775808 ≤ x.toInt ∧ x.toInt < 9223372036854775808 := by
  have h1 := x.minValue_le_toInt
  have h2 := x.toInt_le
  simp only [Int64.toInt_minValue, Int64.toInt_maxValue] at h1 h2
  omega
theorem i_ex (x : Int32) : ∃ z : Int, -2147483648 ≤ z ∧ z < 2147483648 ∧ x = iI z := ⟨x.toInt, (i_rng x).1, (i_rng x).2, iI_of x⟩
theorem l_ex (x : Int64) : ∃ z : Int, -9223372036854775808 ≤ z ∧ z < 9223372036854775808 ∧ x = lI z := ⟨x.toInt, (l_rng x).1, (l_rng x).2, lI_of x⟩
theorem iI_le {a b : Int} (a1 : -2147483648 ≤ a) (a2 : a < 2147483648) (b1 : -2147483648 ≤ b) (b2 : b < 2147483648) : iI a ≤ iI b ↔ a ≤ b := by
  rw [Int32.le_iff_toInt_le, iI_toInt a1 a2, iI_toInt b1 b2]
theorem iI_lt {a b : Int} (a1 : -2147483648 ≤ a) (a2 : a < 2147483648) (b1 : -2147483648 ≤ b) (b2 : b < 2147483648) : iI a < iI b ↔ a < b := by
  rw [Int32.lt_iff_toInt_lt, iI_toInt a1 a2, iI_toInt b1 b2]
theorem iI_eq {a b : Int} (a1 : -2147483648 ≤ a) (a2 : a < 2147483648) (b1 : -2147483648 ≤ b) (b2 : b < 2147483648) : iI a = iI b ↔ a = b := by
  rw [← Int32.toInt_inj, iI_toInt a1 a2, iI_toInt b1 b2]
theorem lI_le {a b : Int} (a1 : -9223372036854775808 ≤ a) (a2 : a < 9223372036854775808) (b1 : -9223372036854775808 ≤ b) (b2 : b < 9223372036854775808) : lI a ≤ lI b ↔ a ≤ b := by
  rw [Int64.le_iff_toInt_le, lI_toInt a1 a2, lI_toInt b1 b2]
theorem lI_lt {a b : Int} (a1 : -9223372036854775808 ≤ a) (a2 : a < 9223372036854775808) (b1 : -9223372036854775808 ≤ b) (b2 : b < 9223372036854775808) : lI a < lI b ↔ a < b := by
  rw [Int64.lt_iff_toInt_lt, lI_toInt a1 a2, lI_toInt b1 b2]
theorem lI_eq {a b : Int} (a1 : -9223372036854775808 ≤ a) (a2 : a < 9223372036854775808) (b1 : -9223372036854775808 ≤ b) (b2 : b < 9223372036854775808) : lI a = lI b ↔ a = b := by
  rw [← Int64.toInt_inj, lI_toInt a1 a2, lI_toInt b1 b2]
theorem iI_cl {z : Int} (h1 : 0 ≤ z) (h2 : z < 2147483648) : (iI z).toNatClampNeg = z.toNat := Int32.toNatClampNeg_ofInt_of_le (by omega) h2
theorem iI_l {z : Int} (h1 : -2147483648 ≤ z) (h2 : z < 2147483648) : (iI z).toInt64 = lI z := Int32.toInt64_ofInt (by simp [Int32.toInt_minValue]; omega) (by simp [Int32.toInt_maxValue]; omega)
theorem lI_i (z : Int) : (lI z).toInt32 = iI z := Int64.toInt32_ofInt
theorem iI_div {a b : Int} (a1 : -2147483648 ≤ a) (a2 : a < 2147483648) (b1 : -2147483648 ≤ b) (b2 : b < 2147483648) : iI a / iI b = iI (a.tdiv b) := (Int32.ofInt_tdiv (by simp [Int32.toInt_minValue]; omega) (by simp [Int32.toInt_maxValue]; omega) (by simp [Int32.toInt_minValue]; omega) (by simp [Int32.toInt_maxValue]; omega)).symm
theorem lI_div {a b : Int} (a1 : -9223372036854775808 ≤ a) (a2 : a < 9223372036854775808) (b1 : -9223372036854775808 ≤ b) (b2 : b < 9223372036854775808) : lI a / lI b = lI (a.tdiv b) := (Int64.ofInt_tdiv (by simp [Int64.toInt_minValue]; omega) (by simp [Int64.toInt_maxValue]; omega) (by simp [Int64.toInt_minValue]; omega) (by simp [Int64.toInt_maxValue]; omega)).symm
theorem iI_rem {a b : Int} (a1 : -2147483648 ≤ a) (a2 : a < 2147483648) (b1 : -2147483648 ≤ b) (b2 : b < 2147483648) : iI a - iI a / iI b * iI b = iI (a.tmod b) := by
  rw [iI_div a1 a2 b1 b2, iI_mul, iI_sub]
  congr 1
  have := Int.tmod_add_mul_tdiv a b
  rw [Int.mul_comm b] at this
  omega
theorem lI_rem {a b : Int} (a1 : -9223372036854775808 ≤ a) (a2 : a < 9223372036854775808) (b1 : -9223372036854775808 ≤ b) (b2 : b < 9223372036854775808) : lI a - lI a / lI b * lI b = lI (a.tmod b) := by
  rw [lI_div a1 a2 b1 b2, lI_mul, lI_sub]
  congr 1
  have := Int.tmod_add_mul_tdiv a b
  rw [Int.mul_comm b] at this
  omega
theorem lgc_def (x y : Int64) : lg_cmp x y = if y < x then 1 else if x = y then 0 else -1 := rfl
theorem cmp_eq {a b : Int} (a1 : -9223372036854775808 ≤ a) (a2 : a < 9223372036854775808) (b1 : -9223372036854775808 ≤ b) (b2 : b < 9223372036854775808) : lg_cmp (lI a) (lI b) = 0 ↔ a = b := by
  simp only [lgc_def, lI_lt b1 b2 a1 a2, lI_eq a1 a2 b1 b2]
  by_cases h1 : b < a
  · rw [if_pos h1]; exact ⟨fun h => absurd h (by decide), fun h => by omega⟩
  · rw [if_neg h1]
    by_cases h2 : a = b
    · rw [if_pos h2]; exact ⟨fun _ => h2, fun _ => rfl⟩
    · rw [if_neg h2]; exact ⟨fun h => absurd h (by decide), fun h => absurd h h2⟩
theorem cmp_lt {a b : Int} (a1 : -9223372036854775808 ≤ a) (a2 : a < 9223372036854775808) (b1 : -9223372036854775808 ≤ b) (b2 : b < 9223372036854775808) : lg_cmp (lI a) (lI b) < 0 ↔ a < b := by
  simp only [lgc_def, lI_lt b1 b2 a1 a2, lI_eq a1 a2 b1 b2]
  by_cases h1 : b < a
  · rw [if_pos h1]; exact ⟨fun h => absurd h (by decide), fun h => by omega⟩
  · rw [if_neg h1]
    by_cases h2 : a = b
    · rw [if_pos h2]; exact ⟨fun h => absurd h (by decide), fun h => by omega⟩
    · rw [if_neg h2]; exact ⟨fun _ => by omega, fun _ => by decide⟩
theorem cmp_le {a b : Int} (a1 : -9223372036854775808 ≤ a) (a2 : a < 9223372036854775808) (b1 : -9223372036854775808 ≤ b) (b2 : b < 9223372036854775808) : lg_cmp (lI a) (lI b) ≤ 0 ↔ a ≤ b := by
  simp only [lgc_def, lI_lt b1 b2 a1 a2, lI_eq a1 a2 b1 b2]
  by_cases h1 : b < a
  · rw [if_pos h1]; exact ⟨fun h => absurd h (by decide), fun h => by omega⟩
  · rw [if_neg h1]
    by_cases h2 : a = b
    · rw [if_pos h2]; exact ⟨fun h => by omega, fun h => by decide⟩
    · rw [if_neg h2]; exact ⟨fun _ => by omega, fun _ => by decide⟩
theorem cmp_ge {a b : Int} (a1 : -9223372036854775808 ≤ a) (a2 : a < 9223372036854775808) (b1 : -9223372036854775808 ≤ b) (b2 : b < 9223372036854775808) : 0 ≤ lg_cmp (lI a) (lI b) ↔ b ≤ a := by
  simp only [lgc_def, lI_lt b1 b2 a1 a2, lI_eq a1 a2 b1 b2]
  by_cases h1 : b < a
  · rw [if_pos h1]; exact ⟨fun h => by omega, fun h => by decide⟩
  · rw [if_neg h1]
    by_cases h2 : a = b
    · rw [if_pos h2]; exact ⟨fun h => by omega, fun h => by decide⟩
    · rw [if_neg h2]; exact ⟨fun h => absurd h (by decide), fun h => by omega⟩
theorem cmp_gt {a b : Int} (a1 : -9223372036854775808 ≤ a) (a2 : a < 9223372036854775808) (b1 : -9223372036854775808 ≤ b) (b2 : b < 9223372036854775808) : 0 < lg_cmp (lI a) (lI b) ↔ b < a := by
  simp only [lgc_def, lI_lt b1 b2 a1 a2, lI_eq a1 a2 b1 b2]
  by_cases h1 : b < a
  · rw [if_pos h1]; exact ⟨fun h => by omega, fun h => by decide⟩
  · rw [if_neg h1]
    by_cases h2 : a = b
    · rw [if_pos h2]; exact ⟨fun h => absurd h (by decide), fun h => by omega⟩
    · rw [if_neg h2]; exact ⟨fun h => absurd h (by decide), fun h => by omega⟩
/-! the combinators' values -/
theorem gIx_iI {α : Type} {z : Int} {n : Nat} {k : Option α} (h1 : 0 ≤ z) (h2 : z < n) (h3 : n < 2147483648) : gIx (iI z) n k = k := by
  unfold gIx
  rw [if_neg]
  rw [iI_cl h1 (by omega)]
  have : iI z < (0 : Int32) ↔ z < 0 := iI_lt (b := 0) (by omega) (by omega) (by omega) (by omega)
  rw [this]
  omega
theorem gZ_1 {α : Type} {k : Option α} : gZ (1 : Int32) k = k := by unfold gZ; rw [if_pos (Or.inr rfl)]
theorem gZ_0 {α : Type} {k : Option α} : gZ (0 : Int32) k = k := by unfold gZ; rw [if_pos (Or.inl rfl)]
theorem gNz_ne {α : Type} {i : Int32} {k : Option α} (h : ¬ i = 0) : gNz i k = k := by unfold gNz; rw [if_neg h]
theorem gNzl_ne {α : Type} {i : Int64} {k : Option α} (h : ¬ i = 0) : gNzl i k = k := by unfold gNzl; rw [if_neg h]
theorem gEq_rf {α : Type} {i : Int32} {k : Option α} : gEq i i k = k := by unfold gEq; rw [if_pos rfl]
theorem bnd_some {α β : Type} {a : α} {k : α → Option β} : bnd (some a) k = k a := rfl
theorem nm_eq {α β : Type} {e : α} {k : α → β} : nm e k = k e := rfl
theorem fixN_s {α : Type} {bot : α} {F : α → α} {n : Nat} : fixN bot F (n + 1) = F (fixN bot F n) := rfl
theorem mxI_iI {a b : Int} (a1 : -2147483648 ≤ a) (a2 : a < 2147483648) (b1 : -2147483648 ≤ b) (b2 : b < 2147483648) : mxI (iI a) (iI b) = iI (max a b) := by
  unfold mxI
  by_cases h : a < b
  · rw [if_pos ((iI_lt a1 a2 b1 b2).mpr h), Int.max_eq_right (by omega)]
  · rw [if_neg (fun q => h ((iI_lt a1 a2 b1 b2).mp q)), Int.max_eq_left (by omega)]
theorem mnI_iI {a b : Int} (a1 : -2147483648 ≤ a) (a2 : a < 2147483648) (b1 : -2147483648 ≤ b) (b2 : b < 2147483648) : mnI (iI a) (iI b) = iI (min a b) := by
  unfold mnI
  by_cases h : b < a
  · rw [if_pos ((iI_lt b1 b2 a1 a2).mpr h), Int.min_eq_right (by omega)]
  · rw [if_neg (fun q => h ((iI_lt b1 b2 a1 a2).mp q)), Int.min_eq_left (by omega)]
theorem ite_iff {α : Sort _} {p q : Prop} [Decidable p] [Decidable q] {a b : α} (h : p ↔ q) : (if p then a else b) = (if q then a else b) := by
  by_cases hq : q
  · rw [if_pos hq, if_pos (h.mpr hq)]
  · rw [if_neg hq, if_neg (fun hp => hq (h.mp hp))]
theorem q_0 : (0 : Int32) = iI 0 := rfl
theorem q_1 : (1 : Int32) = iI 1 := rfl
theorem q_2 : (2 : Int32) = iI 2 := rfl
theorem q_3 : (3 : Int32) = iI 3 := rfl
theorem q_4 : (4 : Int32) = iI 4 := rfl
theorem q_5 : (5 : Int32) = iI 5 := rfl
theorem q_6 : (6 : Int32) = iI 6 := rfl
theorem q_7 : (7 : Int32) = iI 7 := rfl
theorem q_9 : (9 : Int32) = iI 9 := rfl
theorem q_10 : (10 : Int32) = iI 10 := rfl
theorem q_13 : (13 : Int32) = iI 13 := rfl
theorem q_14 : (14 : Int32) = iI 14 := rfl
theorem q_20 : (20 : Int32) = iI 20 := rfl
theorem q_21 : (21 : Int32) = iI 21 := rfl
theorem q_31 : (31 : Int32) = iI 31 := rfl
theorem q_33 : (33 : Int32) = iI 33 := rfl
theorem q_48 : (48 : Int32) = iI 48 := rfl
theorem q_50 : (50 : Int32) = iI 50 := rfl
theorem q_52 : (52 : Int32) = iI 52 := rfl
theorem q_57 : (57 : Int32) = iI 57 := rfl
theorem q_70 : (70 : Int32) = iI 70 := rfl
theorem q_80 : (80 : Int32) = iI 80 := rfl
theorem q_100 : (100 : Int32) = iI 100 := rfl
theorem q_200 : (200 : Int32) = iI 200 := rfl
theorem q_255 : (255 : Int32) = iI 255 := rfl
theorem q_400 : (400 : Int32) = iI 400 := rfl
theorem q_401 : (401 : Int32) = iI 401 := rfl
theorem q_403 : (403 : Int32) = iI 403 := rfl
theorem q_441 : (441 : Int32) = iI 441 := rfl
theorem q_1000 : (1000 : Int32) = iI 1000 := rfl
theorem q_10000 : (10000 : Int32) = iI 10000 := rfl
theorem ql_0 : (0 : Int64) = lI 0 := rfl
theorem ql_1 : (1 : Int64) = lI 1 := rfl
theorem ql_2 : (2 : Int64) = lI 2 := rfl
theorem ql_3 : (3 : Int64) = lI 3 := rfl
theorem ql_9 : (9 : Int64) = lI 9 := rfl
theorem ql_20 : (20 : Int64) = lI 20 := rfl
theorem ql_200 : (200 : Int64) = lI 200 := rfl
theorem ql_255 : (255 : Int64) = lI 255 := rfl
theorem ql_400 : (400 : Int64) = lI 400 := rfl
theorem ql_441 : (441 : Int64) = lI 441 := rfl
theorem ql_100000 : (100000 : Int64) = lI 100000 := rfl
theorem ql_1442695040888963407 : (1442695040888963407 : Int64) = lI 1442695040888963407 := rfl
theorem ql_6364136223846793005 : (6364136223846793005 : Int64) = lI 6364136223846793005 := rfl
theorem iI_clN {n : Nat} (h : n < 2147483648) : (iI n).toNatClampNeg = n := by rw [iI_cl (by omega) (by omega)]; omega
theorem bnd2_some {α1 α2 β : Type} {k : α1 → α2 → Option β} {x1 : α1} {x2 : α2} : bnd2 (some (x1, x2)) k = k x1 x2 := rfl
theorem bnd3_some {α1 α2 α3 β : Type} {k : α1 → α2 → α3 → Option β} {x1 : α1} {x2 : α2} {x3 : α3} : bnd3 (some (x1, x2, x3)) k = k x1 x2 x3 := rfl
theorem bnd4_some {α1 α2 α3 α4 β : Type} {k : α1 → α2 → α3 → α4 → Option β} {x1 : α1} {x2 : α2} {x3 : α3} {x4 : α4} : bnd4 (some (x1, x2, x3, x4)) k = k x1 x2 x3 x4 := rfl
theorem bnd5_some {α1 α2 α3 α4 α5 β : Type} {k : α1 → α2 → α3 → α4 → α5 → Option β} {x1 : α1} {x2 : α2} {x3 : α3} {x4 : α4} {x5 : α5} : bnd5 (some (x1, x2, x3, x4, x5)) k = k x1 x2 x3 x4 x5 := rfl
theorem bnd6_some {α1 α2 α3 α4 α5 α6 β : Type} {k : α1 → α2 → α3 → α4 → α5 → α6 → Option β} {x1 : α1} {x2 : α2} {x3 : α3} {x4 : α4} {x5 : α5} {x6 : α6} : bnd6 (some (x1, x2, x3, x4, x5, x6)) k = k x1 x2 x3 x4 x5 x6 := rfl
theorem bnd7_some {α1 α2 α3 α4 α5 α6 α7 β : Type} {k : α1 → α2 → α3 → α4 → α5 → α6 → α7 → Option β} {x1 : α1} {x2 : α2} {x3 : α3} {x4 : α4} {x5 : α5} {x6 : α6} {x7 : α7} : bnd7 (some (x1, x2, x3, x4, x5, x6, x7)) k = k x1 x2 x3 x4 x5 x6 x7 := rfl
theorem bnd8_some {α1 α2 α3 α4 α5 α6 α7 α8 β : Type} {k : α1 → α2 → α3 → α4 → α5 → α6 → α7 → α8 → Option β} {x1 : α1} {x2 : α2} {x3 : α3} {x4 : α4} {x5 : α5} {x6 : α6} {x7 : α7} {x8 : α8} : bnd8 (some (x1, x2, x3, x4, x5, x6, x7, x8)) k = k x1 x2 x3 x4 x5 x6 x7 x8 := rfl
theorem bnd9_some {α1 α2 α3 α4 α5 α6 α7 α8 α9 β : Type} {k : α1 → α2 → α3 → α4 → α5 → α6 → α7 → α8 → α9 → Option β} {x1 : α1} {x2 : α2} {x3 : α3} {x4 : α4} {x5 : α5} {x6 : α6} {x7 : α7} {x8 : α8} {x9 : α9} : bnd9 (some (x1, x2, x3, x4, x5, x6, x7, x8, x9)) k = k x1 x2 x3 x4 x5 x6 x7 x8 x9 := rfl
theorem bnd10_some {α1 α2 α3 α4 α5 α6 α7 α8 α9 α10 β : Type} {k : α1 → α2 → α3 → α4 → α5 → α6 → α7 → α8 → α9 → α10 → Option β} {x1 : α1} {x2 : α2} {x3 : α3} {x4 : α4} {x5 : α5} {x6 : α6} {x7 : α7} {x8 : α8} {x9 : α9} {x10 : α10} : bnd10 (some (x1, x2, x3, x4, x5, x6, x7, x8, x9, x10)) k = k x1 x2 x3 x4 x5 x6 x7 x8 x9 x10 := rfl
theorem bnd11_some {α1 α2 α3 α4 α5 α6 α7 α8 α9 α10 α11 β : Type} {k : α1 → α2 → α3 → α4 → α5 → α6 → α7 → α8 → α9 → α10 → α11 → Option β} {x1 : α1} {x2 : α2} {x3 : α3} {x4 : α4} {x5 : α5} {x6 : α6} {x7 : α7} {x8 : α8} {x9 : α9} {x10 : α10} {x11 : α11} : bnd11 (some (x1, x2, x3, x4, x5, x6, x7, x8, x9, x10, x11)) k = k x1 x2 x3 x4 x5 x6 x7 x8 x9 x10 x11 := rfl
theorem bnd12_some {α1 α2 α3 α4 α5 α6 α7 α8 α9 α10 α11 α12 β : Type} {k : α1 → α2 → α3 → α4 → α5 → α6 → α7 → α8 → α9 → α10 → α11 → α12 → Option β} {x1 : α1} {x2 : α2} {x3 : α3} {x4 : α4} {x5 : α5} {x6 : α6} {x7 : α7} {x8 : α8} {x9 : α9} {x10 : α10} {x11 : α11} {x12 : α12} : bnd12 (some (x1, x2, x3, x4, x5, x6, x7, x8, x9, x10, x11, x12)) k = k x1 x2 x3 x4 x5 x6 x7 x8 x9 x10 x11 x12 := rfl
theorem bnd17_some {α1 α2 α3 α4 α5 α6 α7 α8 α9 α10 α11 α12 α13 α14 α15 α16 α17 β : Type} {k : α1 → α2 → α3 → α4 → α5 → α6 → α7 → α8 → α9 → α10 → α11 → α12 → α13 → α14 → α15 → α16 → α17 → Option β} {x1 : α1} {x2 : α2} {x3 : α3} {x4 : α4} {x5 : α5} {x6 : α6} {x7 : α7} {x8 : α8} {x9 : α9} {x10 : α10} {x11 : α11} {x12 : α12} {x13 : α13} {x14 : α14} {x15 : α15} {x16 : α16} {x17 : α17} : bnd17 (some (x1, x2, x3, x4, x5, x6, x7, x8, x9, x10, x11, x12, x13, x14, x15, x16, x17)) k = k x1 x2 x3 x4 x5 x6 x7 x8 x9 x10 x11 x12 x13 x14 x15 x16 x17 := rfl
