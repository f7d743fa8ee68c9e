/-! ===== sums, and how many corners there can be ===== -/
def sumN : Nat → (Nat → Nat) → Nat
  | 0, _ => 0
  | n + 1, f => sumN n f + f n
theorem sumN_congr {n : Nat} {f g : Nat → Nat} (h : ∀ i, i < n → f i = g i) : sumN n f = sumN n g := by
  induction n with
  | zero => rfl
  | succ n ih => unfold sumN; rw [ih (fun i hi => h i (by omega)), h n (by omega)]
theorem sumN_add {n : Nat} {f g : Nat → Nat} : sumN n (fun i => f i + g i) = sumN n f + sumN n g := by
  induction n with
  | zero => rfl
  | succ n ih =>
    unfold sumN; rw [ih]
    show sumN n f + sumN n g + (f n + g n) = _
    omega
theorem sumN_zero {n : Nat} : sumN n (fun _ => 0) = 0 := by
  induction n with
  | zero => rfl
  | succ n ih => exact ih
theorem sumN_const {n k : Nat} : sumN n (fun _ => k) = n * k := by
  induction n with
  | zero => simp [sumN]
  | succ n ih =>
    show sumN n (fun _ => k) + k = _
    rw [ih, Nat.succ_mul]
theorem sumN_le {n : Nat} {f g : Nat → Nat} (h : ∀ i, i < n → f i ≤ g i) : sumN n f ≤ sumN n g := by
  induction n with
  | zero => exact Nat.le_refl _
  | succ n ih =>
    unfold sumN
    have := ih (fun i hi => h i (by omega))
    have := h n (by omega)
    omega
theorem sumN_swap {n m : Nat} {f : Nat → Nat → Nat} : sumN n (fun i => sumN m (fun j => f i j)) = sumN m (fun j => sumN n (fun i => f i j)) := by
  induction n with
  | zero => simp only [sumN]; rw [sumN_zero]
  | succ n ih =>
    have e : (fun j => sumN (n + 1) (fun i => f i j)) = fun j => sumN n (fun i => f i j) + f n j := rfl
    rw [e, sumN_add, ← ih]
    rfl
theorem sumN_ind {n p : Nat} (h : p < n) : sumN n (fun i => if p = i then 1 else 0) = 1 := by
  induction n with
  | zero => omega
  | succ n ih =>
    by_cases e : p = n
    · subst e
      have : sumN p (fun i => if p = i then 1 else 0) = 0 := by
        rw [sumN_congr (g := fun _ => 0) (fun i hi => by rw [if_neg (by omega)]), sumN_zero]
      show sumN p (fun i => if p = i then 1 else 0) + (if p = p then 1 else 0) = 1
      rw [this, if_pos rfl]
    · show sumN n (fun i => if p = i then 1 else 0) + (if p = n then 1 else 0) = 1
      rw [ih (by omega), if_neg e]
theorem sumN_last {n m : Nat} {b : Nat → Bool} (h : m + 1 ≤ sumN n (fun k => if b k = true then 1 else 0)) : ∃ k, k < n ∧ b k = true ∧ m ≤ sumN k (fun k => if b k = true then 1 else 0) := by
  induction n with
  | zero => simp [sumN] at h
  | succ n ih =>
    replace h : m + 1 ≤ sumN n (fun k => if b k = true then 1 else 0) + (if b n = true then 1 else 0) := h
    by_cases hb : b n = true
    · rw [if_pos hb] at h
      exact ⟨n, by omega, hb, by omega⟩
    · rw [if_neg hb] at h
      obtain ⟨k, h1, h2, h3⟩ := ih (by omega)
      exact ⟨k, by omega, h2, h3⟩
theorem sumN_two {n : Nat} {b : Nat → Bool} (h : ∀ i j k, i < j → j < k → k < n → ¬ (b i = true ∧ b j = true ∧ b k = true)) : sumN n (fun k => if b k = true then 1 else 0) ≤ 2 := by
  rcases Nat.lt_or_ge (sumN n (fun k => if b k = true then 1 else 0)) 3 with q | q
  · omega
  · exfalso
    obtain ⟨k, k1, k2, k3⟩ := sumN_last (m := 2) q
    obtain ⟨j, j1, j2, j3⟩ := sumN_last (m := 1) k3
    obtain ⟨i, i1, i2, i3⟩ := sumN_last (m := 0) j3
    exact h i j k i1 j1 k1 ⟨i2, j2, k2⟩
theorem corner_bound {L : List Ln} {c : Nat} {f : Nat → Pt} (h : GP L c f) : c ≤ L.length := by
  have pick : ∀ k, ∃ p q : Nat, k < c → p < L.length ∧ q < L.length ∧ p ≠ q ∧ ∃ l m, L[p]? = some l ∧ L[q]? = some m ∧ dt l m ≠ 0 ∧ ev l (f k) = 0 ∧ ev m (f k) = 0 := by
    intro k
    by_cases hk : k < c
    · obtain ⟨-, -, l, m, hl, hm, hd, e1, e2⟩ := h.1 k hk
      obtain ⟨p, hp⟩ := List.getElem?_of_mem hl
      obtain ⟨q, hq⟩ := List.getElem?_of_mem hm
      refine ⟨p, q, fun _ => ⟨(List.getElem?_eq_some_iff.mp hp).1, (List.getElem?_eq_some_iff.mp hq).1, fun e => ?_, l, m, hp, hq, hd, e1, e2⟩⟩
      rw [e, hq] at hp
      cases hp
      exact hd (by simp only [dt]; omega)
    · exact ⟨0, 0, fun q => absurd q hk⟩
  obtain ⟨p, hp⟩ : ∃ p : Nat → Nat, ∀ k, ∃ q : Nat, k < c → p k < L.length ∧ q < L.length ∧ p k ≠ q ∧ ∃ l m, L[p k]? = some l ∧ L[q]? = some m ∧ dt l m ≠ 0 ∧ ev l (f k) = 0 ∧ ev m (f k) = 0 := ⟨fun k => (pick k).choose, fun k => (pick k).choose_spec⟩
  obtain ⟨q, hq⟩ : ∃ q : Nat → Nat, ∀ k, k < c → p k < L.length ∧ q k < L.length ∧ p k ≠ q k ∧ ∃ l m, L[p k]? = some l ∧ L[q k]? = some m ∧ dt l m ≠ 0 ∧ ev l (f k) = 0 ∧ ev m (f k) = 0 := ⟨fun k => (hp k).choose, fun k => (hp k).choose_spec⟩
  have s1 : sumN c (fun k => sumN L.length (fun i => (if p k = i then 1 else 0) + (if q k = i then 1 else 0))) = c * 2 := by
    rw [← sumN_const]
    refine sumN_congr fun k hk => ?_
    obtain ⟨h1, h2, -⟩ := hq k hk
    rw [sumN_add, sumN_ind h1, sumN_ind h2]
  rw [sumN_swap] at s1
  have s2 : sumN L.length (fun i => sumN c (fun k => (if p k = i then 1 else 0) + (if q k = i then 1 else 0))) ≤ sumN L.length (fun _ => 2) := by
    refine sumN_le fun i hi => ?_
    have e : sumN c (fun k => (if p k = i then 1 else 0) + (if q k = i then 1 else 0)) = sumN c (fun k => if (decide (p k = i) || decide (q k = i)) = true then 1 else 0) := by
      refine sumN_congr fun k hk => ?_
      have := (hq k hk).2.2.1
      by_cases e1 : p k = i
      · have e2 : ¬ q k = i := by omega
        simp [e1, e2]
      · by_cases e2 : q k = i
        · simp [e1, e2]
        · simp [e1, e2]
    rw [e]
    refine sumN_two fun a b d hab hbd hdc hh => ?_
    have on : ∀ k, k < c → (decide (p k = i) || decide (q k = i)) = true → ∃ l : Ln, L[i]? = some l ∧ ¬ (l.1 = 0 ∧ l.2.1 = 0) ∧ ev l (f k) = 0 := by
      intro k hk hb
      obtain ⟨-, -, -, l, m, g1, g2, g3, g4, g5⟩ := hq k hk
      simp only [Bool.or_eq_true, decide_eq_true_eq] at hb
      rcases hb with hb | hb
      · rw [hb] at g1
        refine ⟨l, g1, fun z => g3 ?_, g4⟩
        simp only [dt]; rw [z.1, z.2]; omega
      · rw [hb] at g2
        refine ⟨m, g2, fun z => g3 ?_, g5⟩
        simp only [dt]; rw [z.1, z.2]; omega
    obtain ⟨l1, a1, a2, a3⟩ := on a (by omega) hh.1
    obtain ⟨l2, b1, b2, b3⟩ := on b (by omega) hh.2.1
    obtain ⟨l3, d1, d2, d3⟩ := on d hdc hh.2.2
    rw [a1] at b1 d1
    cases b1
    cases d1
    exact ncol3 (h.1 a (by omega)) (h.1 b (by omega)) (h.1 d hdc) (h.2 a b (by omega) (by omega) (by omega)) (h.2 a d (by omega) (by omega) (by omega)) (h.2 b d (by omega) (by omega) (by omega)) (col_line a2 a3 b3 d3)
  rw [s1, sumN_const] at s2
  omega
/-! the corners, one candidate after another -/
def gpUp (f : Nat → Pt) (c : Nat) (P : Pt) : Nat → Pt := fun k => if k = c then P else f k
/-- c corners f, and all candidates of the list stand among them -/
def CI (L : List Ln) (done : List (Ln × Ln)) (c : Nat) (f : Nat → Pt) : Prop := GP L c f ∧ ∀ q ∈ done, dt q.1 q.2 ≠ 0 → inn L (nmt q.1 q.2) → ∃ k, k < c ∧ eqv (nmt q.1 q.2) (f k)
theorem CI_0 {L : List Ln} {f : Nat → Pt} : CI L [] 0 f := ⟨⟨fun k h => by omega, fun a b h => by omega⟩, fun q h => by cases h⟩
theorem CI_skip {L : List Ln} {done : List (Ln × Ln)} {c : Nat} {f : Nat → Pt} (h : CI L done c f) {l m : Ln} (hn : dt l m = 0 ∨ ¬ inn L (nmt l m) ∨ ∃ k, k < c ∧ eqv (nmt l m) (f k)) : CI L ((l, m) :: done) c f := by
  refine ⟨h.1, fun q hq h1 h2 => ?_⟩
  rcases List.mem_cons.mp hq with e | e
  · subst e
    rcases hn with hn | hn | hn
    · exact absurd hn h1
    · exact absurd h2 hn
    · exact hn
  · exact h.2 q e h1 h2
theorem GP_up {L : List Ln} {c : Nat} {f : Nat → Pt} (h : GP L c f) {P : Pt} (hE : isE L P) (hn : ∀ k, k < c → ¬ eqv P (f k)) : GP L (c + 1) (gpUp f c P) := by
  refine ⟨fun k hk => ?_, fun a b ha hb hab => ?_⟩
  · unfold gpUp
    split
    · exact hE
    · exact h.1 k (by omega)
  · unfold gpUp
    by_cases ea : a = c
    · rw [if_pos ea, if_neg (by omega)]
      exact hn b (by omega)
    · rw [if_neg ea]
      by_cases eb : b = c
      · rw [if_pos eb]
        exact fun e => hn a (by omega) (eqv_sy e)
      · rw [if_neg eb]
        exact h.2 a b (by omega) (by omega) hab
theorem CI_put {L : List Ln} {done : List (Ln × Ln)} {c : Nat} {f : Nat → Pt} (h : CI L done c f) {l m : Ln} (hl : l ∈ L) (hm : m ∈ L) (hd : dt l m ≠ 0) (hi : inn L (nmt l m)) (hn : ∀ k, k < c → ¬ eqv (nmt l m) (f k)) : CI L ((l, m) :: done) (c + 1) (gpUp f c (nmt l m)) ∧ c + 1 ≤ L.length := by
  obtain ⟨e1, e2, e3⟩ := ev_nmt hd
  have hg := GP_up h.1 ⟨e3, hi, l, m, hl, hm, hd, e1, e2⟩ hn
  refine ⟨⟨hg, fun q hq h1 h2 => ?_⟩, corner_bound hg⟩
  rcases List.mem_cons.mp hq with e | e
  · subst e
    exact ⟨c, by omega, by unfold gpUp; rw [if_pos rfl]; exact eqv_rf _⟩
  · obtain ⟨k, k1, k2⟩ := h.2 q e h1 h2
    exact ⟨k, by omega, by unfold gpUp; rw [if_neg (by omega)]; exact k2⟩
theorem nmt_sym {l m : Ln} (h : dt l m ≠ 0) : eqv (nmt l m) (nmt m l) := by
  have h' : dt m l ≠ 0 := by simp only [dt] at h ⊢; omega
  obtain ⟨a1, a2, -⟩ := ev_nmt h
  obtain ⟨b1, b2, -⟩ := ev_nmt h'
  exact uniq h a1 a2 b2 b1
theorem ev_eqv {P Q : Pt} (hP : 0 < P.2.2) (hQ : 0 < Q.2.2) (e : eqv P Q) (l : Ln) : ev l P * Q.2.2 = ev l Q * P.2.2 := by
  obtain ⟨a, b⟩ := e
  simp only [ev]
  clear hP hQ
  grind
theorem inn_eqv {L : List Ln} {P Q : Pt} (hP : 0 < P.2.2) (hQ : 0 < Q.2.2) (e : eqv P Q) (h : inn L P) : inn L Q := by
  intro l hl
  have h1 := h l hl
  have h2 := ev_eqv hP hQ e l
  rcases Int.lt_or_le 0 (ev l Q) with q | q
  · exfalso
    have := Int.mul_pos q hP
    have := Int.mul_nonneg (show 0 ≤ -ev l P by omega) (Int.le_of_lt hQ)
    rw [Int.neg_mul] at this
    omega
  · exact q
/-- two rows of corners, out of lists of lines that say the same: each corner of one stands in the other -/
theorem CI_match {L M : List Ln} {d1 d2 : List (Ln × Ln)} {c d : Nat} {f g : Nat → Pt} (hf : GP L c f) (hg : CI M d2 d g) (hM : ∀ l ∈ M, l ∈ L) (hL : ∀ l ∈ L, l ∈ M ∨ l = (0, 0, 0)) (hall : ∀ l m, l ∈ M → m ∈ M → dt l m ≠ 0 → (l, m) ∈ d2 ∨ (m, l) ∈ d2) : ∀ k, k < c → ∃ j, j < d ∧ eqv (f k) (g j) := by
  intro k hk
  obtain ⟨h0, h1, l, m, hl, hm, hd, e1, e2⟩ := hf.1 k hk
  have hl' : l ∈ M := by
    rcases hL l hl with q | q
    · exact q
    · exfalso; subst q; exact hd (by simp [dt])
  have hm' : m ∈ M := by
    rcases hL m hm with q | q
    · exact q
    · exfalso; subst q; exact hd (by simp [dt])
  have key : ∀ l m, l ∈ M → m ∈ M → dt l m ≠ 0 → ev l (f k) = 0 → ev m (f k) = 0 → (l, m) ∈ d2 → ∃ j, j < d ∧ eqv (f k) (g j) := by
    intro l m hl hm hd e1 e2 hq
    obtain ⟨a1, a2, a3⟩ := ev_nmt hd
    have en := uniq hd e1 e2 a1 a2
    have hi : inn M (nmt l m) := fun n hn => inn_eqv h0 a3 en h1 n (hM n hn)
    obtain ⟨j, j1, j2⟩ := hg.2 (l, m) hq hd hi
    exact ⟨j, j1, eqv_tr (by omega) en j2⟩
  rcases hall l m hl' hm' hd with q | q
  · exact key l m hl' hm' hd e1 e2 q
  · have hd' : dt m l ≠ 0 := by simp only [dt] at hd ⊢; omega
    exact key m l hm' hl' hd' e2 e1 q
