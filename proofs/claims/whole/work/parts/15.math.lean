/-! ===== rows of a chain, changes of sign: the mathematics ===== -/
/-- (v, u, k): the row and the one ahead of it, with the sign taken off; how many changes there were -/
def qm_st (d c : Nat → Int) : Nat → Int × Int × Nat
  | 0 => (1, 0, 0)
  | r + 1 => if d r * (qm_st d c r).1 - c r * (qm_st d c r).2.1 < 0 then (-(d r * (qm_st d c r).1 - c r * (qm_st d c r).2.1), -(qm_st d c r).1, (qm_st d c r).2.2 + 1) else (d r * (qm_st d c r).1 - c r * (qm_st d c r).2.1, (qm_st d c r).1, (qm_st d c r).2.2)
/-- the rows themselves: E r, E (r - 1) -/
def qm_E (d c : Nat → Int) : Nat → Int × Int
  | 0 => (1, 0)
  | r + 1 => (d r * (qm_E d c r).1 - c r * (qm_E d c r).2, (qm_E d c r).1)
def qm_sg (k : Nat) : Int := if k % 2 = 0 then 1 else -1
def qm_B (d c : Nat → Int) (r : Nat) : Nat := (qm_st d c r).2.2
theorem qm_sg_s (k : Nat) : qm_sg (k + 1) = - qm_sg k := by
  unfold qm_sg
  by_cases h : k % 2 = 0
  · rw [if_neg (by omega), if_pos h]
  · rw [if_pos (by omega), if_neg h]; rfl
theorem qm_sg_sq (k : Nat) : qm_sg k * qm_sg k = 1 := by
  unfold qm_sg
  split <;> rfl
theorem qm_E_st (d c : Nat → Int) : ∀ r, (qm_E d c r).1 = qm_sg (qm_B d c r) * (qm_st d c r).1 ∧ (qm_E d c r).2 = qm_sg (qm_B d c r) * (qm_st d c r).2.1
  | 0 => by simp [qm_E, qm_st, qm_B, qm_sg]
  | r + 1 => by
    obtain ⟨h1, h2⟩ := qm_E_st d c r
    unfold qm_B at h1 h2 ⊢
    simp only [qm_E, qm_st]
    rw [h1, h2]
    split
    · simp only [qm_sg_s]
      constructor <;> grind
    · constructor <;> grind
/-- the row with its sign taken off is not below 0, and if it is 0 the one ahead of it is above 0 -/
theorem qm_ok {d c : Nat → Int} (hc : ∀ i, 0 < i → 0 < c i) : ∀ r, 0 ≤ (qm_st d c r).1 ∧ ((qm_st d c r).1 = 0 → 0 < (qm_st d c r).2.1)
  | 0 => by simp [qm_st]
  | r + 1 => by
    obtain ⟨h1, h2⟩ := qm_ok hc r
    simp only [qm_st]
    split
    · rename_i hw
      simp only
      exact ⟨by omega, fun q => by omega⟩
    · rename_i hw
      simp only
      refine ⟨by omega, fun q => ?_⟩
      rcases Int.lt_or_eq_of_le h1 with h | h
      · exact h
      · exfalso
        have h3 := h2 h.symm
        rw [← h] at hw
        have hr : 0 < r := by
          rcases Nat.eq_zero_or_pos r with e | e
          · subst e; simp [qm_st] at h
          · exact e
        have := Int.mul_pos (hc r hr) h3
        omega
/-- STURM: lower diagonals, no fewer changes -/
theorem qm_mono {d d' c : Nat → Int} {n : Nat} (hc : ∀ i, 0 < i → 0 < c i) (hc0 : 0 ≤ c 0) (hd : ∀ i, i < n → d' i ≤ d i) : ∀ r, r ≤ n → (qm_B d c r < qm_B d' c r ∨ (qm_B d c r = qm_B d' c r ∧ (qm_st d c r).2.1 * (qm_st d' c r).1 ≤ (qm_st d' c r).2.1 * (qm_st d c r).1))
  | 0, _ => by simp [qm_B, qm_st]
  | r + 1, hr => by
    have ih := qm_mono hc hc0 hd r (by omega)
    have h1 := qm_ok (d := d) hc r
    have h2 := qm_ok (d := d') hc r
    have hdr := hd r (by omega)
    unfold qm_B at ih ⊢
    simp only [qm_st]
    generalize (qm_st d c r).1 = v at ih h1 ⊢
    generalize (qm_st d c r).2.1 = u at ih h1 ⊢
    generalize (qm_st d c r).2.2 = k at ih ⊢
    have hr0 : (qm_st d' c r).1 = 0 → 0 < r := by
      intro q
      rcases Nat.eq_zero_or_pos r with e | e
      · subst e; simp [qm_st] at q
      · exact e
    generalize (qm_st d' c r).1 = v' at ih h2 hr0 ⊢
    generalize (qm_st d' c r).2.1 = u' at ih h2 ⊢
    generalize (qm_st d' c r).2.2 = k' at ih ⊢
    have hcr := hc r
    have hy00 : r = 0 → 0 ≤ c r := fun q => by rw [q]; exact hc0
    generalize d r = x at hdr ⊢
    generalize d' r = x' at hdr ⊢
    generalize c r = y at hcr hy00 ⊢
    rcases ih with ih | ⟨ih, hi⟩
    · by_cases hw : x * v - y * u < 0
      · by_cases hw' : x' * v' - y * u' < 0
        · rw [if_pos hw, if_pos hw']
          left; simp only; omega
        · rw [if_pos hw, if_neg hw']
          simp only
          rcases Nat.lt_or_ge (k + 1) k' with q | q
          · exact Or.inl q
          · refine Or.inr ⟨by omega, ?_⟩
            have a1 : 0 ≤ v * (x' * v' - y * u') := Int.mul_nonneg h1.1 (by omega)
            have a2 : 0 ≤ v' * (-(x * v - y * u)) := Int.mul_nonneg h2.1 (by omega)
            rw [Int.neg_mul]
            omega
      · rw [if_neg hw]
        by_cases hw' : x' * v' - y * u' < 0
        · rw [if_pos hw']; left; simp only; omega
        · rw [if_neg hw']; left; exact ih
    · have hvv : 0 ≤ (x - x') * (v * v') := Int.mul_nonneg (by omega) (Int.mul_nonneg h1.1 h2.1)
      by_cases hv' : v' = 0
      · -- the lower one's row is 0: it changes now
        have hu' := h2.2 hv'
        have hy := hcr (hr0 hv')
        have hyu := Int.mul_pos hy hu'
        have hw' : x' * v' - y * u' < 0 := by rw [hv', Int.mul_zero]; omega
        rw [if_pos hw']
        by_cases hw : x * v - y * u < 0
        · rw [if_pos hw]
          simp only
          refine Or.inr ⟨by omega, ?_⟩
          rw [hv', Int.neg_zero, Int.zero_mul, Int.mul_zero, Int.zero_sub, Int.neg_mul, Int.neg_neg]
          have := Int.mul_nonneg h1.1 (Int.le_of_lt hyu)
          omega
        · rw [if_neg hw]
          left; simp only; omega
      · have hy0 : 0 ≤ y := by
          rcases Nat.eq_zero_or_pos r with e | e
          · exact hy00 e
          · exact Int.le_of_lt (hcr e)
        have hyi : 0 ≤ y * (u' * v - u * v') := Int.mul_nonneg hy0 (by omega)
        have key : (x' * v' - y * u') * v ≤ (x * v - y * u) * v' := by
          have e1 : (x * v - y * u) * v' - (x' * v' - y * u') * v = (x - x') * (v * v') + y * (u' * v - u * v') := by grind
          omega
        generalize x * v - y * u = w at key ⊢
        generalize x' * v' - y * u' = w' at key ⊢
        have hv1 : 0 < v' := by omega
        by_cases hw : w < 0
        · by_cases hw' : w' < 0
          · rw [if_pos hw, if_pos hw']
            simp only
            refine Or.inr ⟨by omega, ?_⟩
            rw [Int.neg_mul_neg, Int.neg_mul_neg, Int.mul_comm v, Int.mul_comm v']
            exact key
          · exfalso
            have a1 : 0 ≤ w' * v := Int.mul_nonneg (by omega) h1.1
            have a2 : w * v' < 0 := Int.mul_neg_of_neg_of_pos hw hv1
            omega
        · rw [if_neg hw]
          by_cases hw' : w' < 0
          · rw [if_pos hw']
            left; simp only; omega
          · rw [if_neg hw']
            simp only
            refine Or.inr ⟨ih, ?_⟩
            rw [Int.mul_comm v, Int.mul_comm v']
            exact key
theorem qm_mono' {d d' c : Nat → Int} {n : Nat} (hc : ∀ i, 0 < i → 0 < c i) (hc0 : 0 ≤ c 0) (hd : ∀ i, i < n → d' i ≤ d i) : qm_B d c n ≤ qm_B d' c n := by
  rcases qm_mono hc hc0 hd n (Nat.le_refl n) with h | h
  · omega
  · omega
/-- what the rows are depends on what is ahead alone -/
theorem qm_st_cong {d d' c c' : Nat → Int} : ∀ {r : Nat}, (∀ i, i < r → d i = d' i) → (∀ i, i < r → c i = c' i) → qm_st d c r = qm_st d' c' r
  | 0, _, _ => rfl
  | r + 1, h1, h2 => by
    have ih := qm_st_cong (r := r) (fun i hi => h1 i (by omega)) (fun i hi => h2 i (by omega))
    simp only [qm_st]
    rw [ih, h1 r (by omega), h2 r (by omega)]
theorem qm_E_cong {d d' c c' : Nat → Int} : ∀ {r : Nat}, (∀ i, i < r → d i = d' i) → (∀ i, i < r → c i = c' i) → qm_E d c r = qm_E d' c' r
  | 0, _, _ => rfl
  | r + 1, h1, h2 => by
    have ih := qm_E_cong (r := r) (fun i hi => h1 i (by omega)) (fun i hi => h2 i (by omega))
    simp only [qm_E]
    rw [ih, h1 r (by omega), h2 r (by omega)]
theorem qm_B_le (d c : Nat → Int) : ∀ r, qm_B d c r ≤ r
  | 0 => by simp [qm_B, qm_st]
  | r + 1 => by
    have := qm_B_le d c r
    unfold qm_B at this ⊢
    simp only [qm_st]
    split <;> simp only <;> omega
/-- at 0: no changes -/
theorem qm_low {d c k : Nat → Int} (hk : ∀ i, 0 ≤ k i) (hc : ∀ i, c (i + 1) = k i * k i) (hc0 : c 0 = 0) {n : Nat} (h0 : 0 < n → k 0 ≤ d 0) (hd : ∀ i, i + 1 < n → k i + k (i + 1) ≤ d (i + 1)) : ∀ r, r ≤ n → qm_B d c r = 0 ∧ 0 ≤ (qm_st d c r).1 ∧ 0 ≤ (qm_st d c r).2.1 ∧ (∀ s, r = s + 1 → k s * (qm_st d c r).2.1 ≤ (qm_st d c r).1)
  | 0, _ => by simp [qm_B, qm_st]
  | 1, h => by
    have := h0 (by omega)
    have h1 := hk 0
    simp only [qm_B, qm_st, hc0]
    rw [if_neg (by omega)]
    simp only
    refine ⟨trivial, by omega, by omega, fun s hs => ?_⟩
    have : s = 0 := by omega
    subst this
    omega
  | r + 2, h => by
    obtain ⟨i1, i2, i3, i4⟩ := qm_low hk hc hc0 h0 hd (r + 1) (by omega)
    have i4 := i4 r rfl
    have hd := hd r (by omega)
    unfold qm_B at i1 ⊢
    rw [show qm_st d c (r + 2) = if d (r + 1) * (qm_st d c (r + 1)).1 - c (r + 1) * (qm_st d c (r + 1)).2.1 < 0 then (-(d (r + 1) * (qm_st d c (r + 1)).1 - c (r + 1) * (qm_st d c (r + 1)).2.1), -(qm_st d c (r + 1)).1, (qm_st d c (r + 1)).2.2 + 1) else (d (r + 1) * (qm_st d c (r + 1)).1 - c (r + 1) * (qm_st d c (r + 1)).2.1, (qm_st d c (r + 1)).1, (qm_st d c (r + 1)).2.2) from rfl]
    generalize (qm_st d c (r + 1)).1 = v at i2 i4 ⊢
    generalize (qm_st d c (r + 1)).2.1 = u at i3 i4 ⊢
    generalize (qm_st d c (r + 1)).2.2 = kk at i1 ⊢
    rw [hc r]
    have hk0 := hk r
    have hk1 := hk (r + 1)
    generalize k r = a at *
    generalize hb : k (r + 1) = b at *
    generalize d (r + 1) = x at *
    have e1 : x * v - a * a * u = b * v + a * (v - a * u) + (x - (a + b)) * v := by grind
    have p1 : 0 ≤ b * v := Int.mul_nonneg hk1 i2
    have p2 : 0 ≤ a * (v - a * u) := Int.mul_nonneg hk0 (by omega)
    have p3 : 0 ≤ (x - (a + b)) * v := Int.mul_nonneg (by omega) i2
    rw [if_neg (by omega)]
    simp only
    refine ⟨i1, by omega, i2, fun s hs => ?_⟩
    have : s = r + 1 := by omega
    subst this
    rw [hb]
    omega
/-- high up: a change at each -/
theorem qm_high {d c k : Nat → Int} (hk : ∀ i, 0 ≤ k i) (hc : ∀ i, c (i + 1) = k i * k i) (hc0 : c 0 = 0) {n : Nat} (h0 : 0 < n → d 0 < -(k 0)) (hd : ∀ i, i + 1 < n → d (i + 1) < -(k i + k (i + 1))) : ∀ r, r ≤ n → qm_B d c r = r ∧ 0 < (qm_st d c r).1 ∧ (qm_st d c r).2.1 ≤ 0 ∧ (∀ s, r = s + 1 → k s * (-(qm_st d c r).2.1) < (qm_st d c r).1)
  | 0, _ => by simp [qm_B, qm_st]
  | 1, h => by
    have := h0 (by omega)
    have h1 := hk 0
    simp only [qm_B, qm_st, hc0]
    rw [if_pos (by omega)]
    simp only
    refine ⟨trivial, by omega, by omega, fun s hs => ?_⟩
    have : s = 0 := by omega
    subst this
    omega
  | r + 2, h => by
    obtain ⟨i1, i2, i3, i4⟩ := qm_high hk hc hc0 h0 hd (r + 1) (by omega)
    have i4 := i4 r rfl
    have hd := hd r (by omega)
    unfold qm_B at i1 ⊢
    rw [show qm_st d c (r + 2) = if d (r + 1) * (qm_st d c (r + 1)).1 - c (r + 1) * (qm_st d c (r + 1)).2.1 < 0 then (-(d (r + 1) * (qm_st d c (r + 1)).1 - c (r + 1) * (qm_st d c (r + 1)).2.1), -(qm_st d c (r + 1)).1, (qm_st d c (r + 1)).2.2 + 1) else (d (r + 1) * (qm_st d c (r + 1)).1 - c (r + 1) * (qm_st d c (r + 1)).2.1, (qm_st d c (r + 1)).1, (qm_st d c (r + 1)).2.2) from rfl]
    generalize (qm_st d c (r + 1)).1 = v at i2 i4 ⊢
    generalize (qm_st d c (r + 1)).2.1 = u at i3 i4 ⊢
    generalize (qm_st d c (r + 1)).2.2 = kk at i1 ⊢
    rw [hc r]
    have hk0 := hk r
    have hk1 := hk (r + 1)
    generalize k r = a at *
    generalize hb : k (r + 1) = b at *
    generalize d (r + 1) = x at *
    have e1 : -(x * v - a * a * u) = (b + 1) * v + a * (v - a * (-u)) + (-x - (a + b) - 1) * v := by grind
    have p1 : 0 ≤ b * v := Int.mul_nonneg hk1 (Int.le_of_lt i2)
    have p0 : (b + 1) * v = b * v + v := by grind
    have p2 : 0 ≤ a * (v - a * (-u)) := Int.mul_nonneg hk0 (by omega)
    have p3 : 0 ≤ (-x - (a + b) - 1) * v := Int.mul_nonneg (by omega) (Int.le_of_lt i2)
    rw [if_pos (by omega)]
    simp only
    refine ⟨by omega, by omega, by omega, fun s hs => ?_⟩
    have : s = r + 1 := by omega
    subst this
    rw [hb, Int.neg_neg]
    omega
/-- how large the rows can be -/
theorem qm_bd {d c : Nat → Int} {M C B : Int} {n : Nat} (hB1 : 1 ≤ B) (hM : ∀ i, i < n → -M ≤ d i ∧ d i ≤ M) (hC : ∀ i, i < n → 0 ≤ c i ∧ c i ≤ C) (hM0 : 0 ≤ M) (hC0 : 0 ≤ C) (hB : M * B + C ≤ B * B) : ∀ r, r ≤ n → (-(B ^ r) ≤ (qm_E d c r).1 ∧ (qm_E d c r).1 ≤ B ^ r) ∧ (-(B ^ r) ≤ B * (qm_E d c r).2 ∧ B * (qm_E d c r).2 ≤ B ^ r)
  | 0, _ => by simp [qm_E]
  | r + 1, h => by
    obtain ⟨⟨a1, a2⟩, b1, b2⟩ := qm_bd hB1 hM hC hM0 hC0 hB r (by omega)
    obtain ⟨m1, m2⟩ := hM r (by omega)
    obtain ⟨c1, c2⟩ := hC r (by omega)
    simp only [qm_E, Int.pow_succ]
    have hp : 0 ≤ B ^ r := Int.pow_nonneg (by omega)
    generalize (qm_E d c r).1 = e at *
    generalize (qm_E d c r).2 = f at *
    generalize B ^ r = P at *
    generalize d r = x at *
    generalize c r = y at *
    have absmul : ∀ {a b s t : Int}, 0 ≤ s → 0 ≤ t → -s ≤ a → a ≤ s → -t ≤ b → b ≤ t → -(s * t) ≤ a * b ∧ a * b ≤ s * t := by
      intro a b s t hs ht h1 h2 h3 h4
      have q1 : 0 ≤ (s - a) * (t + b) := Int.mul_nonneg (by omega) (by omega)
      have q2 : 0 ≤ (s + a) * (t - b) := Int.mul_nonneg (by omega) (by omega)
      have q3 : 0 ≤ (s - a) * (t - b) := Int.mul_nonneg (by omega) (by omega)
      have q4 : 0 ≤ (s + a) * (t + b) := Int.mul_nonneg (by omega) (by omega)
      have e1 : (s - a) * (t + b) + (s + a) * (t - b) = 2 * (s * t) - 2 * (a * b) := by grind
      have e2 : (s - a) * (t - b) + (s + a) * (t + b) = 2 * (s * t) + 2 * (a * b) := by grind
      omega
    have t1 := absmul hM0 hp m1 m2 a1 a2
    have t2 := absmul (a := y) (b := B * f) (s := C) (t := P) hC0 hp (by omega) c2 b1 b2
    have k1 : 0 ≤ (B * B - (M * B + C)) * P := Int.mul_nonneg (by omega) hp
    have e1 : (B * B - (M * B + C)) * P = B * (P * B) - B * (M * P) - C * P := by grind
    have e2 : B * (x * e - y * f) = B * (x * e) - y * (B * f) := by grind
    have t3 : -(B * (M * P)) ≤ B * (x * e) ∧ B * (x * e) ≤ B * (M * P) := by
      have q1 : 0 ≤ B * (M * P - x * e) := Int.mul_nonneg (by omega) (by omega)
      have q2 : 0 ≤ B * (M * P + x * e) := Int.mul_nonneg (by omega) (by omega)
      have e3 : B * (M * P - x * e) = B * (M * P) - B * (x * e) := by grind
      have e4 : B * (M * P + x * e) = B * (M * P) + B * (x * e) := by grind
      omega
    refine ⟨⟨?_, ?_⟩, ?_, ?_⟩
    · have : B * (-(P * B)) ≤ B * (x * e - y * f) := by rw [e2, Int.mul_neg]; omega
      exact Int.le_of_mul_le_mul_left this (by omega)
    · have : B * (x * e - y * f) ≤ B * (P * B) := by rw [e2]; omega
      exact Int.le_of_mul_le_mul_left this (by omega)
    · have q1 : 0 ≤ B * (P + e) := Int.mul_nonneg (by omega) (by omega)
      have e5 : B * (P + e) = P * B + B * e := by grind
      omega
    · have q1 : 0 ≤ B * (P - e) := Int.mul_nonneg (by omega) (by omega)
      have e5 : B * (P - e) = P * B - B * e := by grind
      omega
-- the greatest p, from 0 to n, by which P
def qm_fn (P : Nat → Bool) : Nat → Nat
  | 0 => 0
  | n + 1 => if P (n + 1) = true then n + 1 else qm_fn P n
theorem qm_fn_le (P : Nat → Bool) : ∀ n, qm_fn P n ≤ n
  | 0 => Nat.le_refl 0
  | n + 1 => by
    unfold qm_fn
    split
    · exact Nat.le_refl _
    · exact Nat.le_succ_of_le (qm_fn_le P n)
theorem qm_fn_yes {P : Nat → Bool} (h0 : P 0 = true) : ∀ n, P (qm_fn P n) = true
  | 0 => h0
  | n + 1 => by
    unfold qm_fn
    split
    · assumption
    · exact qm_fn_yes h0 n
theorem qm_fn_no (P : Nat → Bool) : ∀ n p, qm_fn P n < p → p ≤ n → P p = false
  | 0, p, h1, h2 => by omega
  | n + 1, p, h1, h2 => by
    unfold qm_fn at h1
    split at h1
    · omega
    · rename_i hq
      rcases Nat.lt_or_ge p (n + 1) with q | q
      · exact qm_fn_no P n p h1 (by omega)
      · have : p = n + 1 := by omega
        rw [this]
        simpa using hq
/-- of one that holds up to a place and no further -/
theorem qm_fn_iff {P : Nat → Bool} (h0 : P 0 = true) (hm : ∀ a b, a ≤ b → P b = true → P a = true) {n p : Nat} (hp : p ≤ n) : P p = true ↔ p ≤ qm_fn P n := by
  constructor
  · intro h
    rcases Nat.lt_or_ge (qm_fn P n) p with q | q
    · rw [qm_fn_no P n p q hp] at h; cases h
    · exact q
  · intro h
    exact hm _ _ h (qm_fn_yes h0 n)
