/-! ===== long numbers by digits ===== -/
/-- digit j of E by base w, all that is left at place t -/
def qm_lim (w E : Int) (t j : Nat) : Int := if j < t then (E / w ^ j) % w else if j = t then E / w ^ t else 0
/-- what the digits ahead of j are worth -/
def qm_par (w E : Int) (t j : Nat) : Int := if j ≤ t then E % w ^ j else E
theorem qm_par_s {w : Int} (hw : 0 < w) (E : Int) (t j : Nat) : qm_par w E t (j + 1) = qm_par w E t j + w ^ j * qm_lim w E t j := by
  have hp : 0 < w ^ j := Int.pow_pos hw
  unfold qm_par qm_lim
  rcases Nat.lt_trichotomy j t with h | h | h
  · rw [if_pos (by omega), if_pos (by omega), if_pos h]
    have e1 : E % w ^ (j + 1) = E - w ^ (j + 1) * (E / w ^ (j + 1)) := Int.emod_def _ _
    have e2 : E % w ^ j = E - w ^ j * (E / w ^ j) := Int.emod_def _ _
    have e3 : (E / w ^ j) % w = E / w ^ j - w * (E / w ^ j / w) := Int.emod_def _ _
    have e4 : E / w ^ j / w = E / w ^ (j + 1) := by rw [Int.pow_succ, Int.ediv_ediv_of_nonneg (Int.le_of_lt hp)]
    rw [e1, e2, e3, e4, Int.pow_succ]
    grind
  · subst h
    rw [if_neg (by omega), if_pos (by omega), if_neg (by omega), if_pos rfl]
    have := Int.mul_ediv_add_emod E (w ^ j)
    omega
  · rw [if_neg (by omega), if_neg (by omega), if_neg (by omega), if_neg (by omega), Int.mul_zero, Int.add_zero]
/-- the whole, less what is ahead of j, goes by w to the j -/
theorem qm_par_d {w : Int} (E : Int) (t j : Nat) : ∃ z, E = qm_par w E t j + w ^ j * z := by
  unfold qm_par
  split
  · exact ⟨E / w ^ j, by have := Int.mul_ediv_add_emod E (w ^ j); omega⟩
  · exact ⟨0, by simp⟩
theorem qm_pow_le {w : Int} (hw : 1 ≤ w) (t : Nat) : ∀ k : Nat, w ^ t ≤ w ^ (t + k)
  | 0 => Int.le_refl _
  | k + 1 => by
    have ih := qm_pow_le hw t k
    have hp : 0 < w ^ (t + k) := Int.pow_pos (by omega)
    have e : w ^ (t + (k + 1)) = w ^ (t + k) * w := Int.pow_succ ..
    have q : 0 ≤ w ^ (t + k) * (w - 1) := Int.mul_nonneg (Int.le_of_lt hp) (by omega)
    have e2 : w ^ (t + k) * (w - 1) = w ^ (t + k) * w - w ^ (t + k) := by grind
    omega
theorem qm_par_bd {w : Int} (hw : 1 ≤ w) {E : Int} {t : Nat} (h1 : -(w ^ t) ≤ E) (h2 : E < w ^ t) (j : Nat) : -(w ^ j) ≤ qm_par w E t j ∧ qm_par w E t j < w ^ j := by
  have hp : 0 < w ^ j := Int.pow_pos (by omega)
  unfold qm_par
  split
  · have a := Int.emod_nonneg E (Int.ne_of_gt hp)
    have b := Int.emod_lt_of_pos E hp
    omega
  · rename_i h
    have := qm_pow_le hw t (j - t)
    rw [show t + (j - t) = j by omega] at this
    omega
/-- a row's sum at place j: what is carried, and the two digits -/
def qm_car (w x E y F : Int) (t s j : Nat) : Int := (x * qm_par w E t j - y * qm_par w F s j) / w ^ j
theorem qm_sum {w : Int} (hw : 0 < w) (x E y F : Int) (t s j : Nat) : qm_car w x E y F t s j + x * qm_lim w E t j - y * qm_lim w F s j = (x * qm_par w E t (j + 1) - y * qm_par w F s (j + 1)) / w ^ j := by
  have hp : 0 < w ^ j := Int.pow_pos hw
  unfold qm_car
  rw [qm_par_s hw, qm_par_s hw]
  have e : x * (qm_par w E t j + w ^ j * qm_lim w E t j) - y * (qm_par w F s j + w ^ j * qm_lim w F s j) = (x * qm_par w E t j - y * qm_par w F s j) + w ^ j * (x * qm_lim w E t j - y * qm_lim w F s j) := by grind
  rw [e, Int.add_mul_ediv_left _ _ (Int.ne_of_gt hp)]
  omega
theorem qm_car_0 (w x E y F : Int) (t s : Nat) : qm_car w x E y F t s 0 = 0 := by
  unfold qm_car qm_par
  simp
theorem qm_car_s {w : Int} (hw : 0 < w) (x E y F : Int) (t s j : Nat) : (qm_car w x E y F t s j + x * qm_lim w E t j - y * qm_lim w F s j) / w = qm_car w x E y F t s (j + 1) := by
  have hp : 0 < w ^ j := Int.pow_pos hw
  rw [qm_sum hw, Int.ediv_ediv_of_nonneg (Int.le_of_lt hp)]
  unfold qm_car
  rw [Int.pow_succ]
theorem qm_dig {w : Int} (hw : 0 < w) (x E y F : Int) (t s j : Nat) : (qm_car w x E y F t s j + x * qm_lim w E t j - y * qm_lim w F s j) % w = ((x * E - y * F) / w ^ j) % w := by
  have hp : 0 < w ^ j := Int.pow_pos hw
  rw [qm_sum hw]
  obtain ⟨z1, h1⟩ := qm_par_d (w := w) E t (j + 1)
  obtain ⟨z2, h2⟩ := qm_par_d (w := w) F s (j + 1)
  have e : x * E - y * F = (x * qm_par w E t (j + 1) - y * qm_par w F s (j + 1)) + w ^ j * (w * (x * z1 - y * z2)) := by
    have e0 : w ^ (j + 1) = w ^ j * w := Int.pow_succ ..
    rw [e0] at h1 h2
    grind
  rw [e, Int.add_mul_ediv_left _ _ (Int.ne_of_gt hp), Int.add_mul_emod_self_left]
/-- behind the last digit: what is carried is all that is left -/
theorem qm_car_end {w : Int} (hw : 0 < w) (x E y F : Int) {t s j : Nat} (ht : t < j) (hs : s < j) : qm_car w x E y F t s j = (x * E - y * F) / w ^ j := by
  unfold qm_car qm_par
  rw [if_neg (by omega), if_neg (by omega)]
/-- how large what is carried can be -/
theorem qm_car_bd {w x E y F X Y : Int} (hw : 1 ≤ w) {t s : Nat} (hE1 : -(w ^ t) ≤ E) (hE2 : E < w ^ t) (hF1 : -(w ^ s) ≤ F) (hF2 : F < w ^ s) (hx1 : -X ≤ x) (hx2 : x ≤ X) (hy1 : 0 ≤ y) (hy2 : y ≤ Y) (hX : 0 ≤ X) (j : Nat) : -(X + Y) ≤ qm_car w x E y F t s j ∧ qm_car w x E y F t s j ≤ X + Y := by
  have hp : 0 < w ^ j := Int.pow_pos (by omega)
  obtain ⟨a1, a2⟩ := qm_par_bd hw hE1 hE2 j
  obtain ⟨b1, b2⟩ := qm_par_bd hw hF1 hF2 j
  unfold qm_car
  generalize qm_par w E t j = a at *
  generalize qm_par w F s j = b at *
  generalize w ^ j = P at *
  have absmul : ∀ {a b s t : Int}, 0 ≤ s → 0 ≤ t → -s ≤ a → a ≤ s → -t ≤ b → b ≤ t → -(s * t) ≤ a * b ∧ a * b ≤ s * t := by
    intro a b s t hs ht h1 h2 h3 h4
    have q1 : 0 ≤ (s - a) * (t + b) := Int.mul_nonneg (by omega) (by omega)
    have q2 : 0 ≤ (s + a) * (t - b) := Int.mul_nonneg (by omega) (by omega)
    have q3 : 0 ≤ (s - a) * (t - b) := Int.mul_nonneg (by omega) (by omega)
    have q4 : 0 ≤ (s + a) * (t + b) := Int.mul_nonneg (by omega) (by omega)
    have e1 : (s - a) * (t + b) + (s + a) * (t - b) = 2 * (s * t) - 2 * (a * b) := by grind
    have e2 : (s - a) * (t - b) + (s + a) * (t + b) = 2 * (s * t) + 2 * (a * b) := by grind
    omega
  have t1 := absmul (a := x) (b := a) (s := X) (t := P) hX (by omega) hx1 hx2 a1 (by omega)
  have t2 := absmul (a := y) (b := b) (s := Y) (t := P) (by omega) (by omega) (by omega) hy2 b1 (by omega)
  have e1 : P * (X + Y) = X * P + Y * P := by grind
  constructor
  · rw [Int.le_ediv_iff_mul_le hp]
    have : -(X + Y) * P = -(P * (X + Y)) := by grind
    omega
  · exact Int.ediv_le_of_le_mul hp (by have : (X + Y) * P = P * (X + Y) := by grind
                                       omega)
theorem qm_lim_bd {w : Int} (hw : 1 ≤ w) {E : Int} {t : Nat} (hE1 : -(w ^ t) ≤ E) (hE2 : E < w ^ t) (j : Nat) : -1 ≤ qm_lim w E t j ∧ qm_lim w E t j < w := by
  unfold qm_lim
  split
  · have a := Int.emod_nonneg (E / w ^ j) (show w ≠ 0 by omega)
    have b := Int.emod_lt_of_pos (E / w ^ j) (show 0 < w by omega)
    omega
  · split
    · have hp : 0 < w ^ t := Int.pow_pos (by omega)
      constructor
      · rw [Int.le_ediv_iff_mul_le hp]; omega
      · have : E / w ^ t < 1 := Int.ediv_lt_of_lt_mul hp (by omega)
        omega
    · omega
/-- the sign of a number by its digits -/
theorem qm_lim_neg {w : Int} (hw : 1 ≤ w) {E : Int} {t : Nat} : qm_lim w E t t < 0 ↔ E < 0 := by
  unfold qm_lim
  rw [if_neg (by omega), if_pos rfl]
  have hp : 0 < w ^ t := Int.pow_pos (by omega)
  constructor
  · intro h
    rcases Int.lt_or_le E 0 with q | q
    · exact q
    · have := Int.ediv_nonneg q (Int.le_of_lt hp)
      omega
  · intro h
    exact Int.ediv_neg_of_neg_of_pos h hp
theorem qm_par_0 {w : Int} (hw : 0 < w) {E : Int} {t : Nat} : ∀ j, (∀ i, i < j → qm_lim w E t i = 0) → qm_par w E t j = 0
  | 0, _ => by unfold qm_par; simp
  | j + 1, h => by
    rw [qm_par_s hw, qm_par_0 hw j (fun i hi => h i (by omega)), h j (by omega)]
    simp
theorem qm_lim_zero {w : Int} (hw : 1 ≤ w) {E : Int} {t : Nat} : (∀ j, j ≤ t → qm_lim w E t j = 0) ↔ E = 0 := by
  constructor
  · intro h
    have := qm_par_0 (w := w) (by omega) (E := E) (t := t) (t + 1) (fun i hi => h i (by omega))
    unfold qm_par at this
    rw [if_neg (by omega)] at this
    exact this
  · intro h j hj
    subst h
    unfold qm_lim
    split
    · simp
    · split <;> simp
