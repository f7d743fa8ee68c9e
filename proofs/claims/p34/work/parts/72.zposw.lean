section ZPW
variable {c : Nat} {X Y W : Nat → Int} {cnt : Int32} {x y w : Nat → Int32} {st : Nat → Int32}
variable {s : Nat} {ox oy oo : Nat → Nat} {sn : Int32} {rx ry ro : Nat → Int32}
def CN (lo hi v : Int) : Int := max 0 (min v (hi + 1) - lo)
def fiW (lo hi v : Int) : Int := if CN lo hi v = 0 then -9 else lo
def laW (lo hi v : Int) : Int := if CN lo hi v = 0 then -9 else min (v - 1) hi
theorem z_pw54 (hB : BD c X Y W) (hO : OBS s ox oy oo) (hS : ROB s ox oy oo sn rx ry ro) {i : Nat} (hi : i < c) {lo hh : Int} (l1 : 0 ≤ lo) (l2 : lo ≤ 1201) (h1 : -1 ≤ hh) (h2 : hh ≤ 400) (hA : ∀ v : Nat, v ≤ 400 → ((∀ j, j < s → obOK X Y (setW W i (v : Int)) c ox oy oo j) ↔ lo ≤ v ∧ v ≤ hh)) (t x2 : Int32) :
    ∀ (e k n : Nat) (v0 : Int) (cp : Nat → Int32), k + e = 401 → e < n → RM c X Y (setW W i v0) cp → ∃ cp' : Nat → Int32, f_X6_possibleWeights_54 sn st rx ry ro n t cp (iI i) x2 (iI (CN lo hh k)) (iI (fiW lo hh k)) (iI (laW lo hh k)) (iI k) = some (if x2 = 0 then iI (CN lo hh 401) else if x2 = 1 then iI (fiW lo hh 401) else iI (laW lo hh 401), t, cp') := by
  have hc := hB.1
  have hs := hO.1
  intro e
  induction e with
  | zero =>
    intro k n v0 cp hk hn hM
    obtain ⟨n, rfl⟩ : ∃ k, n = k + 1 := ⟨n - 1, by omega⟩
    have e : k = 401 := by omega
    subst e
    refine ⟨cp, ?_⟩
    have key : ∀ a b d u, f_X6_possibleWeights_54 sn st rx ry ro (n + 1) t cp (iI i) x2 a b d u = g_X6_possibleWeights_54 sn st rx ry ro (f_X6_possibleWeights_54 sn st rx ry ro n) t cp (iI i) x2 a b d u := fun _ _ _ _ => rfl
    rw [key]
    unfold g_X6_possibleWeights_54
    rw [if_pos (by rw [q_400, iI_lt] <;> omega)]
    by_cases a : x2 = 0
    · rw [if_pos a, if_pos a]; rfl
    · rw [if_neg a, if_neg a]
      by_cases b : x2 = 1
      · rw [if_pos b, if_pos b]; rfl
      · rw [if_neg b, if_neg b]; rfl
  | succ e ih =>
    intro k n v0 cp hk hn hM
    obtain ⟨n, rfl⟩ : ∃ k, n = k + 1 := ⟨n - 1, by omega⟩
    have key : ∀ a b d u, f_X6_possibleWeights_54 sn st rx ry ro (n + 1) t cp (iI i) x2 a b d u = g_X6_possibleWeights_54 sn st rx ry ro (f_X6_possibleWeights_54 sn st rx ry ro n) t cp (iI i) x2 a b d u := fun _ _ _ _ => rfl
    rw [key]
    unfold g_X6_possibleWeights_54
    have ex : (3 : Int32) + (3 : Int32) * iI i = iI ((3 + 3 * i : Nat) : Int) := by
      rw [q_3, iI_mul, iI_add]
      congr 1
    rw [if_neg (by rw [q_400, iI_lt] <;> omega), ex, gIx_iI (by omega) (by omega) (by omega), iI_clN (by omega)]
    have hM2 := RM_set2 (v := (k : Int)) hi hM
    obtain ⟨r, e1, hr⟩ := z_mag (st := st) (BD_set hB i (v := (k : Int)) (by omega) (by omega)) hO hS hM2 (f_X6_possibleWeights_54 sn st rx ry ro n) t (iI i) x2 (iI (CN lo hh k)) (iI (fiW lo hh k)) (iI (laW lo hh k)) (iI k) s 0 fuel (by omega) (by unfold fuel; omega) (fun j hj => by omega)
    have e1' : f_X6_possibleWeights_80 (f_X6_possibleWeights_54 sn st rx ry ro n) sn st rx ry ro fuel t (upd cp (3 + 3 * i) (iI (k : Nat))) (iI i) x2 (iI (CN lo hh k)) (iI (fiW lo hh k)) (iI (laW lo hh k)) (iI k) 1 0 = _ := e1
    rw [e1']
    unfold f_X6_possibleWeights_138 f_X6_possibleWeights_149 f_X6_possibleWeights_170
    have ih' := ih (k + 1) n k _ (by omega) (by omega) hM2
    rcases hr with ⟨rfl, ha⟩ | ⟨rfl, ha⟩
    · rw [hA k (by omega)] at ha
      have h10 : ¬ (1 : Int32) = 0 := by decide
      have ea : iI (CN lo hh k) + (1 : Int32) = iI (CN lo hh k + 1) := by rw [q_1, iI_add]
      simp only [if_neg h10, nm_eq]
      rw [iI_p1, ea]
      have c1 : CN lo hh ((k + 1 : Nat) : Int) = CN lo hh k + 1 := by unfold CN; omega
      have c2 : 0 ≤ CN lo hh k := by unfold CN; omega
      have c3 : laW lo hh ((k + 1 : Nat) : Int) = k := by unfold laW; rw [if_neg (by omega)]; omega
      have c4 : fiW lo hh ((k + 1 : Nat) : Int) = lo := by unfold fiW; rw [if_neg (by omega)]
      rw [c1, c3, c4] at ih'
      by_cases z : CN lo hh k = 0
      · have f1 : fiW lo hh k = -9 := by unfold fiW; rw [if_pos z]
        have f2 : lo = k := by unfold CN at z; omega
        rw [f1, if_pos (show iI (-9) = -9 from rfl)]
        rw [f2] at ih' ⊢
        exact ih'
      · have f1 : fiW lo hh k = lo := by unfold fiW; rw [if_neg z]
        rw [f1, if_neg (show ¬ iI lo = -9 by show ¬ iI lo = iI (-9); rw [iI_eq] <;> omega)]
        exact ih'
    · rw [hA k (by omega)] at ha
      have h00 : (0 : Int32) = 0 := rfl
      have ea : iI (CN lo hh k) + (0 : Int32) = iI (CN lo hh k) := by rw [q_0, iI_add, Int.add_zero]
      simp only [if_pos h00, nm_eq]
      rw [iI_p1, ea]
      have c1 : CN lo hh ((k + 1 : Nat) : Int) = CN lo hh k := by unfold CN; omega
      have c3 : laW lo hh ((k + 1 : Nat) : Int) = laW lo hh k := by
        unfold laW
        rw [c1]
        by_cases z : CN lo hh k = 0
        · rw [if_pos z, if_pos z]
        · rw [if_neg z, if_neg z]
          unfold CN at z
          omega
      have c4 : fiW lo hh ((k + 1 : Nat) : Int) = fiW lo hh k := by unfold fiW; rw [c1]
      rw [c1, c3, c4] at ih'
      exact ih'
end ZPW
