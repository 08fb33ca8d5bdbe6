/-! ===== the class's rates: rows ===== -/
theorem iL_mask (z : Int) : iL z &&& Int64.ofNat 1073741823 = iL (z % qw30) := by
  have := iL_and z 30 (by decide)
  rw [show ((2 : Int) ^ 30 - 1) = 1073741823 by decide, show ((2 : Int) ^ 30) = qw30 by decide] at this
  exact this
theorem iL_shr30 {z : Int} (h1 : -9223372036854775808 ≤ z) (h2 : z < 9223372036854775808) : iL z >>> ((30 : Int32).toInt64 &&& 63) = iL (z / qw30) := by
  have := iL_shr h1 h2 ((30 : Int32).toInt64 &&& 63) 30 (by decide)
  rw [show ((2 : Int) ^ 30) = qw30 by decide] at this
  exact this
theorem q_b11 {f : q_A} : q_b (Nat.beq 1 1) f = f := rfl
/-- the limits of what a row is made of -/
def qr_bx (x : Int) : Prop := -268435456 ≤ x ∧ x ≤ 268435456
def qr_by (y : Int) : Prop := 0 ≤ y ∧ y ≤ 4294967296
theorem qr_sumbd {x E y F : Int} {t s j : Nat} (hx : qr_bx x) (hy : qr_by y) (hE1 : -(qw30 ^ t) ≤ E) (hE2 : E < qw30 ^ t) (hF1 : -(qw30 ^ s) ≤ F) (hF2 : F < qw30 ^ s) : -9223372036854775808 ≤ qm_car qw30 x E y F t s j + x * qm_lim qw30 E t j - y * qm_lim qw30 F s j ∧ qm_car qw30 x E y F t s j + x * qm_lim qw30 E t j - y * qm_lim qw30 F s j < 9223372036854775808 := by
  have hc := qm_car_bd (w := qw30) (X := 268435456) (Y := 4294967296) (by decide) hE1 hE2 hF1 hF2 hx.1 hx.2 hy.1 hy.2 (by decide) j
  have l1 := qm_lim_bd (w := qw30) (by decide) hE1 hE2 j
  have l2 := qm_lim_bd (w := qw30) (by decide) hF1 hF2 j
  generalize qm_car qw30 x E y F t s j = c at *
  generalize qm_lim qw30 E t j = a at *
  generalize qm_lim qw30 F s j = b at *
  obtain ⟨x1, x2⟩ := hx
  obtain ⟨y1, y2⟩ := hy
  have hw : qw30 = 1073741824 := rfl
  have p1 : 0 ≤ (268435456 - x) * (1073741824 - a) := Int.mul_nonneg (by omega) (by omega)
  have p2 : 0 ≤ (268435456 + x) * (1073741824 - a) := Int.mul_nonneg (by omega) (by omega)
  have p3 : 0 ≤ (268435456 - x) * (1 + a) := Int.mul_nonneg (by omega) (by omega)
  have p4 : 0 ≤ (268435456 + x) * (1 + a) := Int.mul_nonneg (by omega) (by omega)
  have q1 : 0 ≤ y * (1073741824 - b) := Int.mul_nonneg y1 (by omega)
  have q2 : 0 ≤ y * (1 + b) := Int.mul_nonneg y1 (by omega)
  have e1 : (268435456 - x) * (1073741824 - a) = 268435456 * 1073741824 - 268435456 * a - x * 1073741824 + x * a := by grind
  have e2 : (268435456 + x) * (1073741824 - a) = 268435456 * 1073741824 - 268435456 * a + x * 1073741824 - x * a := by grind
  have e5 : y * (1073741824 - b) = 1073741824 * y - y * b := by grind
  have e6 : y * (1 + b) = y + y * b := by grind
  omega
theorem l39 (X : q_X) (O : q_O) (r s : Nat) (hr : r < 8) (hs : s ≤ r) (x E y F : Int) (hx : qr_bx x) (hy : qr_by y)
    (hE1 : -(qw30 ^ (max r 1)) ≤ E) (hE2 : E < qw30 ^ (max r 1)) (hF1 : -(qw30 ^ (max s 1)) ≤ F) (hF2 : F < qw30 ^ (max s 1)) (pE : qm_par qw30 E (max r 1) (r + 1) = E) (pF : y * qm_par qw30 F (max s 1) (r + 1) = y * F) (h0 : q_S) (hz : qr_z h0) :
    ∀ m n j h, j + m = r + 1 → m < n → qr_row h r E → qr_row h s F → qr_fr [48 + (r + 1)] h0 h → (∀ i, i < j → h.2.1 (48 + (r + 1)) i = iL (((x * E - y * F) / qw30 ^ i) % qw30)) → (∀ i, j ≤ i → h.2.1 (48 + (r + 1)) i = h0.2.1 (48 + (r + 1)) i) →
    ∃ h2, q_go e_39 X O n 42 [(1, .int (nI r)), (2, .long (iL x)), (4, .long (iL y)), (6, .ref (48 + r)), (7, .ref (48 + s)), (8, .ref (48 + (r + 1))), (9, .long (iL (qm_car qw30 x E y F (max r 1) (max s 1) j))), (11, .int (nI j))] [] h = some (h2, none) ∧ qr_row h2 (r + 1) (x * E - y * F) ∧ qr_fr [48 + (r + 1)] h0 h2 ∧ qr_z h2 := by
  intro m
  induction m with
  | zero =>
    intro n j h hj hn hE hF hf h1 h2
    obtain ⟨n, rfl⟩ : ∃ n2, n = n2 + 1 := ⟨n - 1, by omega⟩
    have e : j = r + 1 := by omega
    subst e
    have lb := q_lb (j := r + 1) (by omega)
    refine ⟨q_sl h (48 + (r + 1)) (r + 1) (iL (qm_car qw30 x E y F (max r 1) (max s 1) (r + 1))), ?_, ?_, qr_fr_tr hf (qr_fr_sl List.mem_cons_self), ?_⟩
    · rw [b39_42, if_pos (nI_lt (by omega) (by omega)), lb.2.1, lb.2.2, nI_p1, q_b11]
      rw [q_ix_n (by omega) (by decide)]
    · intro i hi
      rw [show max (r + 1) 1 = r + 1 by omega]
      unfold qm_lim
      rcases Nat.lt_trichotomy i (r + 1) with q | q | q
      · rw [if_pos q, qr_sl_ne (by omega)]; exact h1 i q
      · subst q
        rw [if_neg (by omega), if_pos rfl, qr_sl_eq]
        unfold qm_car
        rw [pE, pF]
      · rw [if_neg (by omega), if_neg (by omega), qr_sl_ne (by omega), h2 i (by omega)]
        exact hz (r + 1) i q hi
    · intro a i hai hi
      by_cases q : a = r + 1
      · subst q
        rw [qr_sl_ne (by omega), h2 i (by omega)]
        exact hz _ i hai hi
      · rw [qr_sl_ne (by omega), hf.2.2 (48 + a) (by simp; omega)]
        exact hz a i hai hi
  | succ m ih =>
    intro n j h hj hn hE hF hf h1 h2
    obtain ⟨n, rfl⟩ : ∃ n2, n = n2 + 1 := ⟨n - 1, by omega⟩
    have lb1 := q_lb (j := r) (by omega)
    have lb2 := q_lb (j := s) (by omega)
    have lb3 := q_lb (j := r + 1) (by omega)
    have bd := qr_sumbd (t := max r 1) (s := max s 1) (j := j) hx hy hE1 hE2 hF1 hF2
    obtain ⟨h3, g1, g2⟩ := ih n (j + 1) (q_sl h (48 + (r + 1)) j (iL (((x * E - y * F) / qw30 ^ j) % qw30))) (by omega) (by omega)
      (fun i hi => by rw [qr_sl_ne (by omega)]; exact hE i hi) (fun i hi => by rw [qr_sl_ne (by omega)]; exact hF i hi) (qr_fr_tr hf (qr_fr_sl List.mem_cons_self))
      (fun i hi => by
        rcases Nat.lt_or_ge i j with q | q
        · rw [qr_sl_ne (by omega)]; exact h1 i q
        · have : i = j := by omega
          subst this
          rw [qr_sl_eq])
      (fun i hi => by rw [qr_sl_ne (by omega)]; exact h2 i (by omega))
    refine ⟨h3, ?_, g2⟩
    rw [← g1, b39_42, if_neg (nI_nlt (by omega) (by omega)), lb1.2.1, lb1.2.2, lb2.2.1, lb2.2.2, lb3.2.1, lb3.2.2]
    rw [q_b11, q_ix_n (by omega) (by decide), q_b11, q_ix_n (by omega) (by decide), q_b11, q_ix_n (by omega) (by decide), hE j (by omega), hF j (by omega), iL_mul, iL_mul, iL_add, iL_sub, iL_shr30 bd.1 bd.2, iL_mask, qm_car_s (by decide), qm_dig (by decide), nI_p1]
theorem s39 (d : Nat) (h : q_S) (r : Nat) (hr : r < 8) (x E y F : Int) (hx : qr_bx x) (hy : qr_by y) (hy0 : r = 0 → y = 0) (hE1 : -(qw30 ^ (max r 1)) ≤ E) (hE2 : E < qw30 ^ (max r 1)) (hF1 : 0 < r → -(qw30 ^ (max (r - 1) 1)) ≤ F) (hF2 : 0 < r → F < qw30 ^ (max (r - 1) 1)) (hE0 : r = 0 → E = 1) (hz : qr_z h) (hE : qr_row h r E) (hF : 0 < r → qr_row h (r - 1) F) :
    ∃ h2, q_sem (d + 1) 39 h [.ref 43, .int (nI r), .long (iL x), .long (iL y)] = some (h2, none) ∧ qr_row h2 (r + 1) (x * E - y * F) ∧ qr_fr [48 + (r + 1)] h h2 ∧ qr_z h2 := by
  rcases Nat.eq_zero_or_pos r with e | e
  · subst e
    have hy0 := hy0 rfl
    have hE0 := hE0 rfl
    subst hy0 hE0
    obtain ⟨h2, g1, g2, g3, g4⟩ := l39 q_X0 (q_sem d) 0 0 (by omega) (by omega) x 1 0 1 hx hy hE1 hE2 hE1 hE2 (by decide) (by decide) h hz 1 998 0 h (by omega) (by omega) hE hE (qr_fr_rf _ _) (fun i hi => absurd hi (by omega)) (fun i _ => rfl)
    refine ⟨h2, ?_, ?_, g3, g4⟩
    · rw [m39]
      show q_ix (nI 0) _ _ = _
      rw [q_ix_n (by omega) (by decide), if_neg (by decide)]
      show q_go e_39 q_X0 (q_sem d) (998 + 1) _ _ _ _ = _
      rw [b39_23]
      show q_ix (nI 0) _ _ = _
      rw [q_ix_n (by omega) (by decide), nI_p1, q_ix_n (by omega) (by decide)]
      rw [qm_car_0] at g1
      exact g1
    · have e2 : x * 1 - 0 * F = x * 1 - 0 * 1 := by omega
      rw [e2]
      exact g2
  · obtain ⟨k, rfl⟩ : ∃ k, r = k + 1 := ⟨r - 1, by omega⟩
    rw [Nat.add_sub_cancel] at hF hF1 hF2
    obtain ⟨h2, g1, g2, g3, g4⟩ := l39 q_X0 (q_sem d) (k + 1) k hr (by omega) x E y F hx hy hE1 hE2 (hF1 e) (hF2 e) (by unfold qm_par; rw [if_neg (by omega)]) (by unfold qm_par; rw [if_neg (by omega)]) h hz (k + 2) 998 0 h (by omega) (by omega) hE (hF e) (qr_fr_rf _ _) (fun i hi => absurd hi (by omega)) (fun i _ => rfl)
    refine ⟨h2, ?_, g2, g3, g4⟩
    have lb1 := q_lb (j := k + 1) (by omega)
    have lb2 := q_lb (j := k) (by omega)
    have lb3 := q_lb (j := k + 1 + 1) (by omega)
    rw [m39, q_ix_n (by omega) (by decide), if_pos ((nI_pos_iff (by omega)).mpr e), lb1.1, nI_m1]
    show q_go e_39 q_X0 (q_sem d) (998 + 1) _ _ _ _ = _
    rw [b39_23, q_ix_n (by omega) (by decide), nI_p1, q_ix_n (by omega) (by decide), lb2.1, lb3.1]
    rw [qm_car_0] at g1
    exact g1
-- signs
theorem lg0_lt {z : Int} (h1 : -9223372036854775808 ≤ z) (h2 : z < 9223372036854775808) : lg_cmp (iL z) (Int64.ofNat 0) < 0 ↔ z < 0 := by
  have e1 : iL z > Int64.ofNat 0 ↔ 0 < z := iL_lt (a := 0) (b := z) (by omega) (by omega) h1 h2
  have e2 : iL z = iL 0 ↔ z = 0 := iL_eq h1 h2 (by omega) (by omega)
  rw [show Int64.ofNat 0 = iL 0 from rfl] at *
  unfold lg_cmp
  split
  · rename_i q
    have := e1.mp q
    constructor
    · intro z; exact absurd z (by decide)
    · intro z; omega
  · rename_i q
    have q : ¬ 0 < z := fun y => q (e1.mpr y)
    split
    · rename_i p
      have := e2.mp p
      constructor
      · intro z; exact absurd z (by decide)
      · intro z; omega
    · rename_i p
      have p : ¬ z = 0 := fun y => p (e2.mpr y)
      constructor
      · intro _; omega
      · intro _; decide
theorem lg0_eq {z : Int} (h1 : -9223372036854775808 ≤ z) (h2 : z < 9223372036854775808) : lg_cmp (iL z) (Int64.ofNat 0) = 0 ↔ z = 0 := by
  have e1 : iL z > Int64.ofNat 0 ↔ 0 < z := iL_lt (a := 0) (b := z) (by omega) (by omega) h1 h2
  have e2 : iL z = iL 0 ↔ z = 0 := iL_eq h1 h2 (by omega) (by omega)
  rw [show Int64.ofNat 0 = iL 0 from rfl] at *
  unfold lg_cmp
  split
  · rename_i q
    have := e1.mp q
    constructor
    · intro z; exact absurd z (by decide)
    · intro z; omega
  · rename_i q
    split
    · rename_i p
      exact ⟨fun _ => e2.mp p, fun _ => rfl⟩
    · rename_i p
      constructor
      · intro z; exact absurd z (by decide)
      · intro z; exact absurd (e2.mpr z) p
theorem l40 (X : q_X) (O : q_O) (h : q_S) (r : Nat) (hr : r < 9) (E : Int) (hE1 : -(qw30 ^ (max r 1)) ≤ E) (hE2 : E < qw30 ^ (max r 1)) (hE : qr_row h r E) (hn0 : ¬ E < 0) :
    ∀ m n j, j + m = r + 1 → m < n → (∀ i, i < j → qm_lim qw30 E (max r 1) i = 0) → q_go e_40 X O n 19 [(1, .int (nI r)), (2, .ref (48 + r)), (3, .int (nI j))] [] h = some (h, some (.int (if ∀ i, i < r + 1 → qm_lim qw30 E (max r 1) i = 0 then 0 else 1))) := by
  have lb := q_lb hr
  have hw : qw30 = 1073741824 := rfl
  intro m
  induction m with
  | zero =>
    intro n j hj hn hi
    obtain ⟨n, rfl⟩ : ∃ n2, n = n2 + 1 := ⟨n - 1, by omega⟩
    rw [b40_19, if_pos (nI_lt (by omega) (by omega)), if_pos (fun i hir => hi i (by omega))]
  | succ m ih =>
    intro n j hj hn hi
    obtain ⟨n, rfl⟩ : ∃ n2, n = n2 + 1 := ⟨n - 1, by omega⟩
    have bd := qm_lim_bd (w := qw30) (by decide) hE1 hE2 j
    rw [b40_19, if_neg (nI_nlt (by omega) (by omega)), lb.2.1, lb.2.2, q_b11, q_ix_n (by omega) (by decide), hE j (by omega)]
    by_cases q : qm_lim qw30 E (max r 1) j = 0
    · rw [if_pos ((lg0_eq (by omega) (by omega)).mpr q), nI_p1]
      exact ih n (j + 1) (by omega) (by omega) (fun i hij => by
        rcases Nat.lt_or_ge i j with p | p
        · exact hi i p
        · have : i = j := by omega
          rw [this]; exact q)
    · rw [if_neg (fun z => q ((lg0_eq (by omega) (by omega)).mp z)), if_neg (fun z => q (z j (by omega)))]
def qr_sgn (E : Int) : Int32 := if E < 0 then -1 else if E = 0 then 0 else 1
theorem s40 (d : Nat) (h : q_S) (r : Nat) (hr : r < 9) (E : Int) (hE1 : -(qw30 ^ (max r 1)) ≤ E) (hE2 : E < qw30 ^ (max r 1)) (h0 : r = 0 → E = 1) (hE : qr_row h r E) : q_sem (d + 1) 40 h [.ref 43, .int (nI r)] = some (h, some (.int (qr_sgn E))) := by
  have lb := q_lb hr
  have hw : qw30 = 1073741824 := rfl
  have bd := qm_lim_bd (w := qw30) (by decide) hE1 hE2 r
  have hneg : qm_lim qw30 E (max r 1) r < 0 ↔ E < 0 := by
    rcases Nat.eq_zero_or_pos r with e | e
    · subst e
      rw [h0 rfl]
      decide
    · rw [show max r 1 = r by omega]
      exact qm_lim_neg (by decide)
  have hzero : (∀ i, i < r + 1 → qm_lim qw30 E (max r 1) i = 0) ↔ E = 0 := by
    rcases Nat.eq_zero_or_pos r with e | e
    · subst e
      rw [h0 rfl]
      constructor
      · intro z
        have := z 0 (by omega)
        exact absurd this (by decide)
      · intro z; omega
    · rw [show max r 1 = r by omega]
      rw [← qm_lim_zero (w := qw30) (by decide) (E := E) (t := r)]
      exact ⟨fun z j hj => z j (by omega), fun z j hj => z j (by omega)⟩
  rw [m40, q_ix_n (by omega) (by decide), lb.1, lb.2.1, lb.2.2, q_b11, q_ix_n (by omega) (by decide), hE r (by omega)]
  unfold qr_sgn
  by_cases q : E < 0
  · rw [if_pos ((lg0_lt (by omega) (by omega)).mpr (hneg.mpr q)), if_pos q]
  · rw [if_neg (fun z => q (hneg.mp ((lg0_lt (by omega) (by omega)).mp z))), if_neg q]
    have := l40 q_X0 (q_sem d) h r hr E hE1 hE2 hE q (r + 1) 999 0 (by omega) (by omega) (fun i hi => absurd hi (by omega))
    rw [show (0 : Int32) = nI 0 from rfl, this]
    by_cases p : E = 0
    · rw [if_pos p, if_pos (hzero.mpr p)]
      rfl
    · rw [if_neg p, if_neg (fun z => p (hzero.mp z))]
