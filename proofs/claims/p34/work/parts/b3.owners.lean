/-! ===== owners, sizes, samples, the sites along a segment ===== -/
theorem sq_cat {n : Nat} {f : Nat → Nat} : sumN (n + 1) f = sumN n f + f n := rfl
theorem sumN_sw1 {c n : Nat} {o : Nat → Option Nat} (ho : ∀ a, a < n → ∃ i, i < c ∧ o a = some i) : sumN c (fun i => sumN n (fun a => if o a = some i then 1 else 0)) = n := by
  rw [sumN_swap]
  have : sumN n (fun a => sumN c (fun i => if o a = some i then 1 else 0)) = sumN n (fun _ => 1) := sumN_congr (fun a ha => by
    obtain ⟨i, hi, e⟩ := ho a ha
    rw [e]
    exact (sumN_congr (fun j hj => by
      by_cases q : i = j
      · subst q; rw [if_pos rfl, if_pos rfl]
      · rw [if_neg (fun h => q (Option.some.inj h)), if_neg q])).trans (sumN_ind hi))
  rw [this, sumN_const, Nat.mul_one]
section OWN
variable {c : Nat} {X Y W : Nat → Int}
theorem SZ_all (hc : 0 < c) : sumN c (fun i => SZ X Y W c i 21) = 441 := by
  unfold SZ
  rw [sumN_swap]
  have : sumN 21 (fun a => sumN c (fun i => SZr X Y W c i a 21)) = sumN 21 (fun _ => 21) := sumN_congr (fun a ha => by
    unfold SZr
    exact sumN_sw1 (fun b hb => by
      obtain ⟨k, hk, e⟩ := ownr_some (X := X) (Y := Y) (W := W) hc (a : Int) (b : Int)
      exact ⟨k, hk, e⟩))
  rw [this, sumN_const]
theorem SMP_all (hc : 0 < c) (s : Int64) (m : Nat) : sumN c (fun i => SMP X Y W c i s m) = m := by
  unfold SMP
  exact sumN_sw1 (fun a ha => by
    obtain ⟨k, hk, e⟩ := ownr_some (X := X) (Y := Y) (W := W) hc ((pt_of (dwP s a) (draw_pt (dwS s (a + 1))).choose_spec.1).choose : Int) ((pt_of (dwP s a) (draw_pt (dwS s (a + 1))).choose_spec.1).choose_spec.choose : Int)
    exact ⟨k, hk, e⟩)
/-! bits -/
theorem abs_or (a b : Int32) : (a ||| b) &&& b = b := by
  rw [← Int32.toBitVec_inj, Int32.toBitVec_and, Int32.toBitVec_or]
  apply BitVec.eq_of_getLsbD_eq
  intro i hi
  rw [BitVec.getLsbD_and, BitVec.getLsbD_or]
  cases a.toBitVec.getLsbD i <;> cases b.toBitVec.getLsbD i <;> rfl
theorem bits_or {f g : Nat → Bool} : ∀ k : Nat, (∀ i, i < k → g i = true → f i = true) → bits f k ||| bits g k = bits f k := by
  intro k
  induction k with
  | zero => intro _; exact Int32.or_zero
  | succ k ih =>
    intro h
    have ih' := ih (fun i hi => h i (by omega))
    by_cases hg : g k = true
    · have hf := h k (by omega) hg
      rw [bits_t hg, bits_t hf, Int32.or_assoc, ← Int32.or_assoc _ (bits g k), Int32.or_comm _ (bits g k), Int32.or_assoc (bits g k), Int32.or_self, ← Int32.or_assoc, ih']
    · have hg' : g k = false := by simpa using hg
      by_cases hf : f k = true
      · rw [bits_f hg', bits_t hf, Int32.or_assoc, Int32.or_comm _ (bits g k), ← Int32.or_assoc, ih']
      · have hf' : f k = false := by simpa using hf
        rw [bits_f hg', bits_f hf', ih']
theorem bits_and {f g : Nat → Bool} {k : Nat} (h : ∀ i, i < k → g i = true → f i = true) : bits f k &&& bits g k = bits g k := by
  have e := bits_or k h
  rw [← e]
  exact abs_or _ _
theorem bits_congr {f g : Nat → Bool} : ∀ k : Nat, (∀ i, i < k → f i = g i) → bits f k = bits g k := by
  intro k
  induction k with
  | zero => intro _; rfl
  | succ k ih =>
    intro h
    rw [bits, bits, ih (fun i hi => h i (by omega)), h k (by omega)]
/-! along a segment -/
theorem gE_pw (i j : Nat) (a b : Int) : gE a b (pl X Y W i j) = pw X Y W j a b - pw X Y W i a b := by
  simp only [gE, pl, lv, pw]
  grind
theorem gD_0 (a b : Int) (t : Ln) : gD a b a b t = 0 := by simp only [gD]; grind
theorem run_pt (a b : Int) : ∀ L : List Ln, runS a b a b L (0, 1, 1, 1) = if (∀ t ∈ L, 0 ≤ gE a b t) then some (0, 1, 1, 1) else none := by
  intro L
  induction L with
  | nil => rw [if_pos (fun t h => by cases h)]; rfl
  | cons t L ih =>
    unfold runS stp
    rw [if_pos (gD_0 a b t)]
    by_cases h : gE a b t < 0
    · rw [if_pos h, if_neg (fun q => by have := q t List.mem_cons_self; omega)]
    · rw [if_neg h]
      show runS a b a b L (0, 1, 1, 1) = _
      rw [ih]
      by_cases q : ∀ t ∈ L, 0 ≤ gE a b t
      · rw [if_pos q, if_pos (fun s hs => by
          rcases List.mem_cons.mp hs with rfl | hs
          · omega
          · exact q s hs)]
      · rw [if_neg q, if_neg (fun w => q (fun s hs => w s (List.mem_cons_of_mem _ hs)))]
theorem seg_pt (a b : Int) (i : Nat) : segB X Y W c a b a b i = decide (∀ j, j < c → pw X Y W i a b ≤ pw X Y W j a b) := by
  unfold segB
  rw [run_pt]
  have key : (∀ t ∈ (List.range c).map (pl X Y W i), 0 ≤ gE a b t) ↔ ∀ j, j < c → pw X Y W i a b ≤ pw X Y W j a b := by
    constructor
    · intro h j hj
      have := h _ (List.mem_map.mpr ⟨j, List.mem_range.mpr hj, rfl⟩)
      rw [gE_pw] at this
      omega
    · intro h t ht
      obtain ⟨j, hj, rfl⟩ := List.mem_map.mp ht
      have := h j (List.mem_range.mp hj)
      rw [gE_pw]
      omega
  by_cases h : ∀ j, j < c → pw X Y W i a b ≤ pw X Y W j a b
  · rw [if_pos (key.mpr h), decide_eq_true h]
    rfl
  · rw [if_neg (fun q => h (key.mp q)), decide_eq_false h]
    rfl
theorem run_st (a b u v : Int) : ∀ (L : List Ln) (S : S4I), (∀ t ∈ L, 0 ≤ gE a b t) → S.1 = 0 → 0 < S.2.1 → 0 ≤ S.2.2.1 → 0 < S.2.2.2 → finS (runS a b u v L S) = 1 := by
  intro L
  induction L with
  | nil =>
    intro S _ h1 h2 h3 h4
    show (if S.2.2.1 * S.2.1 < S.1 * S.2.2.2 then (0 : Int32) else 1) = 1
    have : 0 ≤ S.2.2.1 * S.2.1 := Int.mul_nonneg h3 (by omega)
    rw [h1, Int.zero_mul, if_neg (by omega)]
  | cons t L ih =>
    intro S hL h1 h2 h3 h4
    have ht := hL t List.mem_cons_self
    have hL' : ∀ t ∈ L, 0 ≤ gE a b t := fun s hs => hL s (List.mem_cons_of_mem _ hs)
    have key : ∃ S' : S4I, stp a b u v S t = some S' ∧ S'.1 = 0 ∧ 0 < S'.2.1 ∧ 0 ≤ S'.2.2.1 ∧ 0 < S'.2.2.2 := by
      unfold stp
      by_cases g1 : gD a b u v t = 0
      · rw [if_pos g1, if_neg (by omega)]
        exact ⟨S, rfl, h1, h2, h3, h4⟩
      · rw [if_neg g1]
        by_cases g2 : gD a b u v t < 0
        · have : 0 ≤ gE a b t * S.2.1 := Int.mul_nonneg ht (by omega)
          rw [if_pos g2, if_pos (by rw [h1, Int.zero_mul, Int.neg_mul]; omega)]
          exact ⟨S, rfl, h1, h2, h3, h4⟩
        · rw [if_neg g2]
          by_cases g3 : S.2.2.1 * gD a b u v t ≤ gE a b t * S.2.2.2
          · rw [if_pos g3]
            exact ⟨S, rfl, h1, h2, h3, h4⟩
          · rw [if_neg g3]
            exact ⟨_, rfl, h1, h2, ht, by show 0 < gD a b u v t; omega⟩
    obtain ⟨S', e, k1, k2, k3, k4⟩ := key
    show finS (match stp a b u v S t with | none => none | some S' => runS a b u v L S') = 1
    rw [e]
    exact ih S' hL' k1 k2 k3 k4
theorem seg_st {a b : Int} (u v : Int) {i : Nat} (h : ∀ j, j < c → pw X Y W i a b ≤ pw X Y W j a b) : segB X Y W c a b u v i = true := by
  unfold segB
  refine decide_eq_true (run_st a b u v _ _ ?_ rfl (by decide) (by decide) (by decide))
  intro t ht
  obtain ⟨j, hj, rfl⟩ := List.mem_map.mp ht
  have := h j (List.mem_range.mp hj)
  rw [gE_pw]
  omega
/-- the sites that are nearest to a point -/
def nrB (X Y W : Nat → Int) (a b : Int) (k : Nat) (j : Nat) : Bool := decide (pw X Y W j a b = pw X Y W k a b)
theorem seg_nr {a b : Int} {k : Nat} (hk : ownr X Y W c a b = some k) {i : Nat} (hi : i < c) : segB X Y W c a b a b i = nrB X Y W a b k i := by
  rw [seg_pt]
  unfold nrB
  have h1 := own_lt hk
  have h2 := own_le hk
  by_cases h : pw X Y W i a b = pw X Y W k a b
  · rw [decide_eq_true h, decide_eq_true (fun j hj => by have := (h2 j hj rfl).1; omega)]
  · rw [decide_eq_false h]
    refine decide_eq_false (fun q => h ?_)
    have := q k h1.1
    have := (h2 i hi rfl).1
    omega
theorem nr_seg {a b : Int} (u v : Int) {k : Nat} (hk : ownr X Y W c a b = some k) {i : Nat} (h : nrB X Y W a b k i = true) : segB X Y W c a b u v i = true := by
  have h2 := own_le hk
  have h' : pw X Y W i a b = pw X Y W k a b := of_decide_eq_true h
  exact seg_st u v (fun j hj => by have := (h2 j hj rfl).1; omega)
end OWN
theorem RJ_E {s t : ST} {o : Option (Int32 × ST)} (k : Eq15 s t) (h : RJ t o) : RJ s o := by
  obtain ⟨u, k', e⟩ := h
  exact ⟨u, E_tr k k', e⟩
section OWL
variable {c : Nat} {X Y W : Nat → Int} {x p q : Nat}
theorem l_ow265 (hp : p ≤ 20) (hq : q ≤ 20) {kk : Nat} (hkk : kk ≤ 6) {k94 : ST → Int32 → Int32 → Int32 → Int32 → Option R_L_owners} (hk : ∀ s, GS s c X Y W → RJ s (k94 s (iI (x : Nat)) (iI (c : Nat)) 1 (iI (kk + 1 : Nat)))) :
    ∀ (e i n : Nat), i + e = c → e < n → ∀ s, GS s c X Y W → RJ s (f_L_owners_265 k94 n s (iI (x : Nat)) (iI (c : Nat)) 1 (iI (kk : Nat)) (iI (p : Nat)) (iI (q : Nat)) (iI (oI (ownr X Y W c (p : Nat) (q : Nat)) (-9))) (bits (nrB X Y W (p : Nat) (q : Nat) ((ownr X Y W c (p : Nat) (q : Nat)).getD 0)) i) (iI (i : Nat))) := by
  intro e
  induction e with
  | zero =>
    intro i n hi hn s h
    have hc := h.1.1
    obtain ⟨n, rfl⟩ : ∃ k, n = k + 1 := ⟨n - 1, by omega⟩
    have ei : i = c := by omega
    subst ei
    show RJ s (g_L_owners_265 k94 (f_L_owners_265 k94 n) s _ _ _ _ _ _ _ _ _)
    unfold g_L_owners_265
    rw [if_pos (show iI (i : Nat) ≤ iI (i : Nat) by rw [iI_le] <;> omega), if_neg (by decide), q_owner h (by omega) (by omega) (by omega) (by omega), bnd2_some, if_pos rfl]
    obtain ⟨s1, k1, e1⟩ := q_as h (show PQ (p : Nat) (q : Nat) (p : Nat) (q : Nat) from ⟨⟨by omega, by omega⟩, by omega, by omega⟩)
    have h1 := GS_E k1 h
    rw [e1, bnd2_some]
    have eb : bits (segB X Y W i (p : Nat) (q : Nat) (p : Nat) (q : Nat)) i = bits (nrB X Y W (p : Nat) (q : Nat) ((ownr X Y W i (p : Nat) (q : Nat)).getD 0)) i := bits_congr i (fun j hj => by
      obtain ⟨k, hk, ek⟩ := ownr_some (X := X) (Y := Y) (W := W) (c := i) (by omega) (p : Nat) (q : Nat)
      rw [ek]
      exact seg_nr ek hj)
    rw [if_pos eb]
    have fin : ∀ s2, GS s2 i X Y W → ∀ v : Int32, RJ s2 (f_L_owners_400 k94 s2 (iI (x : Nat)) (iI (i : Nat)) (iI (kk : Nat)) (iI (p : Nat)) (iI (q : Nat)) (bits (nrB X Y W (p : Nat) (q : Nat) ((ownr X Y W i (p : Nat) (q : Nat)).getD 0)) i) v v) := by
      intro s2 h2 v
      unfold f_L_owners_400
      obtain ⟨s3, k3, e3⟩ := q_as h2 (show PQ (p : Nat) (q : Nat) (20 - (q : Nat)) (p : Nat) from ⟨⟨by omega, by omega⟩, by omega, by omega⟩)
      rw [if_pos rfl, q_20, iI_sub, e3, bnd2_some, if_pos (bits_and (fun j hj hn => by
        obtain ⟨k, hk, ek⟩ := ownr_some (X := X) (Y := Y) (W := W) (c := i) (by omega) (p : Nat) (q : Nat)
        rw [ek] at hn
        exact nr_seg _ _ ek hn)), iI_p1]
      exact RJ_E k3 (hk s3 (GS_E k3 h2))
    have arg : ∀ z : Nat, z < 10 → (((((40000 : Int64) + ((100 : Int32) * iI (p : Nat)).toInt64) + (iI (q : Nat)).toInt64) * (100000 : Int64)) + (50000 : Int64)) + ((1000 : Int32) * iI (z : Nat)).toInt64 = lI ((100000 * (40000 + 100 * p + q) + (50000 + 1000 * z) : Nat) : Int) := by
      intro z hz
      rw [show (100 : Int32) = iI 100 from rfl, show (1000 : Int32) = iI 1000 from rfl, iI_mul, iI_mul, iI_l (by omega) (by omega), iI_l (by omega) (by omega), iI_l (by omega) (by omega), show (40000 : Int64) = lI 40000 from rfl, show (100000 : Int64) = lI 100000 from rfl, show (50000 : Int64) = lI 50000 from rfl, lI_add, lI_add, lI_mul, lI_add, lI_add]
      congr 1
      omega
    refine RJ_E k1 ?_
    by_cases hz : i = 0
    · rw [if_pos (show iI (i : Nat) = 0 by rw [hz]; rfl)]
      unfold f_L_owners_384
      obtain ⟨s2, k2, e2⟩ := q_run2 h1 hp hq (i := 0) (by omega) (fun q => by omega)
      have a0 := arg 0 (by omega)
      rw [show (0 : Int32) = iI ((0 : Nat) : Int) from rfl, a0, e2, bnd2_some, if_pos hz, if_pos (show iI (i : Nat) = iI ((0 : Nat) : Int) by rw [hz])]
      exact RJ_E k2 (fin s2 (GS_E k2 h1) _)
    · obtain ⟨k, hk', ek⟩ := ownr_some (X := X) (Y := Y) (W := W) (c := i) (by omega) (p : Nat) (q : Nat)
      rw [if_neg (show ¬ iI (i : Nat) = 0 by rw [q_0, iI_eq] <;> omega)]
      unfold f_L_owners_384
      obtain ⟨s2, k2, e2⟩ := q_run2 h1 hp hq (i := k) (by omega) (fun q => ek)
      have a0 := arg k (by omega)
      rw [show iI (oI (ownr X Y W i (p : Nat) (q : Nat)) (-9)) = iI (k : Nat) by rw [ek]; rfl, a0, e2, bnd2_some, if_neg hz, if_neg (show ¬ iI (i : Nat) = 0 by rw [q_0, iI_eq] <;> omega)]
      exact RJ_E k2 (fin s2 (GS_E k2 h1) _)
  | succ e ih =>
    intro i n hi hn s h
    have hc := h.1.1
    obtain ⟨n, rfl⟩ : ∃ k, n = k + 1 := ⟨n - 1, by omega⟩
    obtain ⟨k, hk', ek⟩ := ownr_some (X := X) (Y := Y) (W := W) (c := c) (by omega) (p : Nat) (q : Nat)
    have ih' := ih (i + 1) n (by omega) (by omega) s h
    rw [ek] at ih' ⊢
    show RJ s (g_L_owners_265 k94 (f_L_owners_265 k94 n) s _ _ _ _ _ _ (iI (k : Nat)) (bits (nrB X Y W (p : Nat) (q : Nat) k) i) _)
    unfold g_L_owners_265
    have b1 := pw_b h.1 i (a := (p : Nat)) (b := (q : Nat)) (by omega) (by omega) (by omega) (by omega)
    have b2 := pw_b h.1 k (a := (p : Nat)) (b := (q : Nat)) (by omega) (by omega) (by omega) (by omega)
    rw [if_neg (show ¬ iI (c : Nat) ≤ iI (i : Nat) by rw [iI_le] <;> omega), q_power h (show i < c by omega) (by omega) (by omega) (by omega) (by omega), bnd2_some, q_power h hk' (by omega) (by omega) (by omega) (by omega), bnd2_some, iI_p1]
    by_cases hq2 : pw X Y W i (p : Nat) (q : Nat) = pw X Y W k (p : Nat) (q : Nat)
    · rw [if_pos (by rw [hq2]), nm_eq, ← bits_t (h := nrB X Y W (p : Nat) (q : Nat) k) (k := i) (decide_eq_true hq2)]
      exact ih'
    · rw [if_neg (by rw [iI_eq] <;> omega), nm_eq, Int32.or_zero, ← bits_f (h := nrB X Y W (p : Nat) (q : Nat) k) (k := i) (decide_eq_false hq2)]
      exact ih'
theorem l_ow138 (hp : p ≤ 20) (hq : q ≤ 20) {kk : Nat} (hkk : kk ≤ 6) {k94 : ST → Int32 → Int32 → Int32 → Int32 → Option R_L_owners} (hk : ∀ s, GS s c X Y W → RJ s (k94 s (iI (x : Nat)) (iI (c : Nat)) 1 (iI (kk + 1 : Nat)))) {s : ST} (h : GS s c X Y W) :
    ∀ (e i n : Nat), i + e = c → e < n → RJ s (f_L_owners_138 k94 n s (iI (x : Nat)) (iI (c : Nat)) 1 (iI (kk : Nat)) (iI (p : Nat)) (iI (q : Nat)) (iI (oI (ownr X Y W i (p : Nat) (q : Nat)) (-9))) (iI (i : Nat))) := by
  have hc := h.1.1
  intro e
  induction e with
  | zero =>
    intro i n hi hn
    obtain ⟨n, rfl⟩ : ∃ k, n = k + 1 := ⟨n - 1, by omega⟩
    have ei : i = c := by omega
    subst ei
    show RJ s (g_L_owners_138 k94 (f_L_owners_138 k94 n) s _ _ _ _ _ _ _ _)
    unfold g_L_owners_138
    rw [if_pos (show iI (i : Nat) ≤ iI (i : Nat) by rw [iI_le] <;> omega)]
    exact l_ow265 hp hq hkk hk i 0 fuel (by omega) (by unfold fuel; omega) s h
  | succ e ih =>
    intro i n hi hn
    obtain ⟨n, rfl⟩ : ∃ k, n = k + 1 := ⟨n - 1, by omega⟩
    have ih' := ih (i + 1) n (by omega) (by omega)
    show RJ s (g_L_owners_138 k94 (f_L_owners_138 k94 n) s _ _ _ _ _ _ _ _)
    unfold g_L_owners_138
    have hi' : i < c := by omega
    have b1 := pw_b h.1 i (a := (p : Nat)) (b := (q : Nat)) (by omega) (by omega) (by omega) (by omega)
    have ev : ((((iI (p : Nat) - iI (X i)) * (iI (p : Nat) - iI (X i))) + ((iI (q : Nat) - iI (Y i)) * (iI (q : Nat) - iI (Y i)))) - iI (W i)) + (1000 : Int32) = iI (pw X Y W i (p : Nat) (q : Nat) + 1000) := by
      rw [show (1000 : Int32) = iI 1000 from rfl]
      simp only [iI_sub, iI_mul, iI_add]
      rfl
    rw [if_neg (show ¬ iI (c : Nat) ≤ iI (i : Nat) by rw [iI_le] <;> omega), q_site0 h hi', bnd2_some, nm_eq, q_site1 h hi', bnd2_some, nm_eq, if_neg (by decide), q_power h hi' (by omega) (by omega) (by omega) (by omega), bnd2_some, q_site2 h hi', bnd2_some, ev, if_pos rfl]
    unfold f_L_owners_213
    cases eo : ownr X Y W i (p : Nat) (q : Nat) with
    | none =>
      have e1 : ownr X Y W (i + 1) (p : Nat) (q : Nat) = some i := by
        have eo' : own (fun i => pw X Y W i (p : Nat) (q : Nat)) (fun _ => false) i = _ := eo
        show own _ _ (i + 1) = _
        rw [own, if_neg (by decide), eo']
      rw [e1] at ih'
      rw [if_pos (show iI (oI none (-9)) = -9 from rfl), iI_p1]
      exact ih'
    | some b =>
      have hb := (own_lt eo).1
      have b2 := pw_b h.1 b (a := (p : Nat)) (b := (q : Nat)) (by omega) (by omega) (by omega) (by omega)
      rw [show iI (oI (some b) (-9)) = iI (b : Nat) from rfl, if_neg (show ¬ iI (b : Nat) = -9 by rw [show (-9 : Int32) = iI (-9) from rfl, iI_eq] <;> omega), q_power h hi' (by omega) (by omega) (by omega) (by omega), bnd2_some, q_power h (show b < c by omega) (by omega) (by omega) (by omega) (by omega), bnd2_some, iI_p1]
      by_cases hl : pw X Y W i (p : Nat) (q : Nat) < pw X Y W b (p : Nat) (q : Nat)
      · have e1 : ownr X Y W (i + 1) (p : Nat) (q : Nat) = some i := by
          have eo' : own (fun i => pw X Y W i (p : Nat) (q : Nat)) (fun _ => false) i = _ := eo
          show own _ _ (i + 1) = _
          rw [own, if_neg (by decide), eo']
          exact if_pos hl
        rw [e1] at ih'
        rw [if_neg (by rw [iI_le] <;> omega)]
        exact ih'
      · have e1 : ownr X Y W (i + 1) (p : Nat) (q : Nat) = some b := by
          have eo' : own (fun i => pw X Y W i (p : Nat) (q : Nat)) (fun _ => false) i = _ := eo
          show own _ _ (i + 1) = _
          rw [own, if_neg (by decide), eo']
          exact if_neg hl
        rw [e1] at ih'
        rw [if_pos (by rw [iI_le] <;> omega)]
        exact ih'
theorem pt21 (x : Nat) (hx : x < 2147483648) (d : Nat) (hd : 0 < d) (hd2 : d < 1000) : ∃ p : Nat, p ≤ 20 ∧ iI (x : Nat) / iI (d : Nat) - iI (x : Nat) / iI (d : Nat) / (21 : Int32) * (21 : Int32) = iI (p : Nat) := by
  have hl : x / d ≤ x := Nat.div_le_self _ _
  rw [iI_dN hx (by omega), show (21 : Int32) = iI (21 : Nat) from rfl, iI_rN (by omega) (by omega)]
  exact ⟨x / d % 21, by omega, rfl⟩
theorem l_ow94 (hx : x < 2147483648) : ∀ (e k n : Nat), k + e = 7 → e < n → ∀ s, GS s c X Y W → RJ s (f_L_owners_94 n s (iI (x : Nat)) (iI (c : Nat)) 1 (iI (k : Nat))) := by
  intro e
  induction e with
  | zero =>
    intro k n hk hn s h
    obtain ⟨n, rfl⟩ : ∃ k, n = k + 1 := ⟨n - 1, by omega⟩
    show RJ s (g_L_owners_94 (f_L_owners_94 n) s _ _ _ _)
    unfold g_L_owners_94
    rw [if_pos (show (7 : Int32) ≤ iI (k : Nat) by rw [q_7, iI_le] <;> omega)]
    exact ⟨s, E_rf s, rfl⟩
  | succ e ih =>
    intro k n hk hn s h
    obtain ⟨n, rfl⟩ : ∃ k, n = k + 1 := ⟨n - 1, by omega⟩
    show RJ s (g_L_owners_94 (f_L_owners_94 n) s _ _ _ _)
    unfold g_L_owners_94
    have e1 : ((7 : Int32) * iI (k : Nat)) + (23 : Int32) = iI ((7 * k + 23 : Nat) : Int) := by
      rw [q_7, show (23 : Int32) = iI 23 from rfl, iI_mul, iI_add]
      rfl
    obtain ⟨p, hp, ep⟩ := pt21 x hx (k + 1) (by omega) (by omega)
    obtain ⟨q, hq, eq⟩ := pt21 x hx (7 * k + 23) (by omega) (by omega)
    rw [if_neg (show ¬ (7 : Int32) ≤ iI (k : Nat) by rw [q_7, iI_le] <;> omega), if_neg (by decide), iI_p1, gNz_ne (show ¬ iI (k + 1 : Nat) = 0 by rw [q_0, iI_eq] <;> omega), ep, nm_eq, e1, gNz_ne (show ¬ iI ((7 * k + 23 : Nat) : Int) = 0 by rw [q_0, iI_eq] <;> omega), eq, nm_eq]
    have hc := h.1.1
    exact l_ow138 hp hq (show k ≤ 6 by omega) (fun s h => ih (k + 1) n (by omega) (by omega) s h) h c 0 fuel (by omega) (by unfold fuel; omega)
theorem l_ow16 (hx : x < 2147483648) {s : ST} (h : GS s c X Y W) : ∀ (e i n : Nat), i + e = c → e < n → RJ s (f_L_owners_16 n s (iI (x : Nat)) (iI (c : Nat)) (iI ((sumN i (fun i => SZ X Y W c i 21) : Nat) : Int)) (iI ((sumN i (fun i => SMP X Y W c i (iI (x : Nat)).toInt64 50) : Nat) : Int)) (iI (i : Nat))) := by
  have hc := h.1.1
  intro e
  induction e with
  | zero =>
    intro i n hi hn
    obtain ⟨n, rfl⟩ : ∃ k, n = k + 1 := ⟨n - 1, by omega⟩
    have ei : i = c := by omega
    subst ei
    show RJ s (g_L_owners_16 (f_L_owners_16 n) s _ _ _ _ _)
    unfold g_L_owners_16
    have go := l_ow94 (c := i) (X := X) (Y := Y) (W := W) hx 7 0 fuel (by omega) (by unfold fuel; omega) s h
    rw [if_pos (show iI (i : Nat) ≤ iI (i : Nat) by rw [iI_le] <;> omega)]
    by_cases hz : i = 0
    · subst hz
      rw [if_pos (show iI ((0 : Nat) : Int) = 0 from rfl)]
      unfold f_L_owners_67
      rw [if_pos (show iI ((sumN 0 (fun i => SZ X Y W 0 i 21) : Nat) : Int) = 0 from rfl), if_pos (show iI ((0 : Nat) : Int) = 0 from rfl)]
      unfold f_L_owners_82
      rw [if_pos (show iI ((sumN 0 (fun i => SMP X Y W 0 i (iI (x : Nat)).toInt64 50) : Nat) : Int) = 0 from rfl)]
      exact go
    · rw [if_neg (show ¬ iI (i : Nat) = 0 by rw [q_0, iI_eq] <;> omega), SZ_all (by omega), SMP_all (by omega)]
      unfold f_L_owners_67
      rw [if_pos (show iI ((441 : Nat) : Int) = 441 from rfl), if_neg (show ¬ iI (i : Nat) = 0 by rw [q_0, iI_eq] <;> omega)]
      unfold f_L_owners_82
      rw [if_pos (show iI ((50 : Nat) : Int) = 50 from rfl)]
      exact go
  | succ e ih =>
    intro i n hi hn
    obtain ⟨n, rfl⟩ : ∃ k, n = k + 1 := ⟨n - 1, by omega⟩
    have ih' := ih (i + 1) n (by omega) (by omega)
    show RJ s (g_L_owners_16 (f_L_owners_16 n) s _ _ _ _ _)
    unfold g_L_owners_16
    rw [if_neg (show ¬ iI (c : Nat) ≤ iI (i : Nat) by rw [iI_le] <;> omega), q_size h (show i < c by omega), bnd2_some, nm_eq, q_sample h (show i < c by omega), bnd2_some, nm_eq, iI_p1, iI_add, iI_add]
    exact ih'
theorem l_owners (hx : x < 2147483648) {s : ST} (h : GS s c X Y W) : RJ s (f_L_owners_0 s (iI (x : Nat))) := by
  have hc := h.1.1
  unfold f_L_owners_0
  rw [q_siteCount h, bnd2_some]
  exact l_ow16 hx h c 0 fuel (by omega) (by unfold fuel; omega)
end OWL
