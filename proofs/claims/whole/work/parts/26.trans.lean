/-! ===== the reference: transfer ===== -/
abbrev qw28 : Int := 268435456
theorem iL_mask28 (z : Int) : iL z &&& Int64.ofNat 268435455 = iL (z % qw28) := by
  have := iL_and z 28 (by decide)
  rw [show ((2 : Int) ^ 28 - 1) = 268435455 by decide, show ((2 : Int) ^ 28) = qw28 by decide] at this
  exact this
theorem iL_shr28 {z : Int} (h1 : -9223372036854775808 ≤ z) (h2 : z < 9223372036854775808) : iL z >>> ((28 : Int32).toInt64 &&& 63) = iL (z / qw28) := by
  have := iL_shr h1 h2 ((28 : Int32).toInt64 &&& 63) 28 (by decide)
  rw [show ((2 : Int) ^ 28) = qw28 by decide] at this
  exact this
theorem qw_sumbd {x E y F : Int} {j : Nat} (hx : qr_bx x) (hy : qr_by y) (hE1 : -(qw28 ^ 9) ≤ E) (hE2 : E < qw28 ^ 9) (hF1 : -(qw28 ^ 9) ≤ F) (hF2 : F < qw28 ^ 9) : -9223372036854775808 ≤ qm_car qw28 x E y F 9 9 j + x * qm_lim qw28 E 9 j - y * qm_lim qw28 F 9 j ∧ qm_car qw28 x E y F 9 9 j + x * qm_lim qw28 E 9 j - y * qm_lim qw28 F 9 j < 9223372036854775808 := by
  have hc := qm_car_bd (w := qw28) (X := 268435456) (Y := 4294967296) (by decide) hE1 hE2 hF1 hF2 hx.1 hx.2 hy.1 hy.2 (by decide) j
  have l1 := qm_lim_bd (w := qw28) (by decide) hE1 hE2 j
  have l2 := qm_lim_bd (w := qw28) (by decide) hF1 hF2 j
  generalize qm_car qw28 x E y F 9 9 j = c at *
  generalize qm_lim qw28 E 9 j = a at *
  generalize qm_lim qw28 F 9 j = b at *
  have hw : qw28 = 268435456 := rfl
  obtain ⟨x1, x2⟩ := hx
  obtain ⟨y1, y2⟩ := hy
  have p1 : 0 ≤ (268435456 - x) * (268435456 - a) := Int.mul_nonneg (by omega) (by omega)
  have p2 : 0 ≤ (268435456 + x) * (268435456 - a) := Int.mul_nonneg (by omega) (by omega)
  have q1 : 0 ≤ y * (268435456 - b) := Int.mul_nonneg y1 (by omega)
  have q2 : 0 ≤ y * (1 + b) := Int.mul_nonneg y1 (by omega)
  have e1 : (268435456 - x) * (268435456 - a) = 268435456 * 268435456 - 268435456 * a - x * 268435456 + x * a := by grind
  have e2 : (268435456 + x) * (268435456 - a) = 268435456 * 268435456 - 268435456 * a + x * 268435456 - x * a := by grind
  have e5 : y * (268435456 - b) = 268435456 * y - y * b := by grind
  have e6 : y * (1 + b) = y + y * b := by grind
  omega
/-- the digits of E stand from b on -/
def qw_dig (h : q_S) (b : Nat) (E : Int) : Prop := ∀ k, k < 10 → h.2.1 78 (b + k) = iL (qm_lim qw28 E 9 k)
-- signAt
theorem l128 (X : q_X) (O : q_O) (h : q_S) (b : Nat) (hb : b ≤ 20) (E : Int) (hE1 : -(qw28 ^ 9) ≤ E) (hE2 : E < qw28 ^ 9) (hE : qw_dig h b E) :
    ∀ m n j (v : Int32), j + m = 10 → m < n → (v = 0 ∨ v = 1) → (v = 0 ↔ ∀ i, i < j → qm_lim qw28 E 9 i = 0) → q_go e_128 X O n 22 [(0, .ref 67), (1, .int (nI b)), (2, .int v), (3, .int (nI j))] [] h = some (h, some (.int (if E = 0 then 0 else 1))) := by
  have hw : qw28 = 268435456 := rfl
  have hz := qm_lim_zero (w := qw28) (by decide) (E := E) (t := 9)
  intro m
  induction m with
  | zero =>
    intro n j v hj hn hv hi
    obtain ⟨n, rfl⟩ : ∃ n2, n = n2 + 1 := ⟨n - 1, by omega⟩
    have : j = 10 := by omega
    subst this
    rw [b128_22, if_neg (show ¬ nI 10 < (10 : Int32) by decide)]
    have hq : v = 0 ↔ E = 0 := by
      rw [hi, ← hz]
      exact ⟨fun z i hi => z i (by omega), fun z i hi => z i (by omega)⟩
    by_cases q : E = 0
    · rw [if_pos (hq.mpr q), if_pos q]
    · rw [if_neg (fun z => q (hq.mp z)), if_neg q]
  | succ m ih =>
    intro n j v hj hn hv hi
    obtain ⟨n, rfl⟩ : ∃ n2, n = n2 + 1 := ⟨n - 1, by omega⟩
    have bd := qm_lim_bd (w := qw28) (by decide) hE1 hE2 j
    rw [b128_22, if_pos (show nI j < (10 : Int32) from nI_lt (b := 10) (by omega) (by decide)), nI_add, q_ix_n (by omega) (by decide), hE j (by omega), nI_p1]
    by_cases q : qm_lim qw28 E 9 j = 0
    · rw [if_pos ((lg0_eq (by omega) (by omega)).mpr q), show v ||| 0 = v by rcases hv with rfl | rfl <;> rfl]
      refine ih n (j + 1) v (by omega) (by omega) hv ?_
      rw [hi]
      exact ⟨fun z i hi => by
        rcases Nat.lt_or_ge i j with p | p
        · exact z i p
        · rw [show i = j by omega]; exact q, fun z i hi => z i (by omega)⟩
    · rw [if_neg (fun z => q ((lg0_eq (by omega) (by omega)).mp z)), show v ||| 1 = 1 by rcases hv with rfl | rfl <;> rfl]
      refine ih n (j + 1) 1 (by omega) (by omega) (Or.inr rfl) ?_
      exact ⟨fun z => absurd z (by decide), fun z => absurd (z j (by omega)) q⟩
theorem s128 (d : Nat) (h : q_S) (b : Nat) (hb : b ≤ 20) (E : Int) (hE1 : -(qw28 ^ 9) ≤ E) (hE2 : E < qw28 ^ 9) (hE : qw_dig h b E) : q_sem (d + 1) 128 h [.ref 67, .int (nI b)] = some (h, some (.int (qr_sgn E))) := by
  have hw : qw28 = 268435456 := rfl
  have bd := qm_lim_bd (w := qw28) (by decide) hE1 hE2 9
  have hn := qm_lim_neg (w := qw28) (by decide) (E := E) (t := 9)
  have e : nI b + 10 - 1 = nI (b + 9) := by
    rw [show (10 : Int32) = nI 10 from rfl, nI_add]
    exact nI_m1 _
  rw [m128, e, q_ix_n (by omega) (by decide), hE 9 (by omega)]
  unfold qr_sgn
  by_cases q : E < 0
  · rw [if_pos ((lg0_lt (by omega) (by omega)).mpr (hn.mpr q)), if_pos q]
  · rw [if_neg (fun z => q (hn.mp ((lg0_lt (by omega) (by omega)).mp z))), if_neg q]
    have := l128 q_X0 (q_sem d) h b hb E hE1 hE2 hE 10 999 0 0 (by omega) (by omega) (Or.inl rfl) ⟨fun _ i hi => absurd hi (by omega), fun _ => rfl⟩
    exact this
theorem iL_rem {z : Int} (h1 : -4611686018427387904 ≤ z) (h2 : z < 4611686018427387904) : iL z - iL z / Int64.ofNat 10007 * Int64.ofNat 10007 = iL (if z < 0 then -((-z) % 10007) else z % 10007) := by
  have hdiv : ∀ t, z.tdiv 10007 = t → iL z / Int64.ofNat 10007 = iL t := by
    intro t ht
    rw [← Int64.toInt_inj, Int64.toInt_div, iL_to (by omega) (by omega), show (Int64.ofNat 10007).toInt = 10007 by decide, ht]
    exact (Int64.toInt_ofInt ..).symm
  split
  · obtain ⟨w, rfl⟩ : ∃ w : Int, z = -w := ⟨-z, by omega⟩
    have e : (-w).tdiv 10007 = -(w / 10007) := by
      rw [Int.neg_tdiv, Int.tdiv_eq_ediv_of_nonneg (by omega)]
    rw [hdiv _ e, show Int64.ofNat 10007 = iL 10007 from rfl, iL_mul, iL_sub]
    congr 1
    omega
  · have e : z.tdiv 10007 = z / 10007 := Int.tdiv_eq_ediv_of_nonneg (by omega)
    rw [hdiv _ e, show Int64.ofNat 10007 = iL 10007 from rfl, iL_mul, iL_sub]
    congr 1
    omega
theorem s129 (d : Nat) (h : q_S) {z : Int} (h1 : -4611686018427387904 ≤ z) (h2 : z < 4611686018427387904) : q_sem (d + 1) 129 h [.long (iL z)] = some (h, some (.int (iI (z % 10007)))) := by
  have e : iL (if z < 0 then -((-z) % 10007) else z % 10007) + Int64.ofNat 10007 = iL ((if z < 0 then -((-z) % 10007) else z % 10007) + 10007) := iL_add _ 10007
  have hb : -10006 ≤ (if z < 0 then -((-z) % 10007) else z % 10007) ∧ (if z < 0 then -((-z) % 10007) else z % 10007) ≤ 10006 := by
    split <;> omega
  have e3 : ((if z < 0 then -((-z) % 10007) else z % 10007) + 10007) % 10007 = z % 10007 := by
    split <;> omega
  rw [m129, if_neg (by decide), if_neg (by decide), iL_rem h1 h2, e, iL_rem (by omega) (by omega), if_neg (by omega), iL_I (by omega) (by omega), e3]
-- one row: ten digits
theorem l172 (X : q_X) (O : q_O) (x E y F : Int) (hx : qr_bx x) (hy : qr_by y) (hE1 : -(qw28 ^ 9) ≤ E) (hE2 : E < qw28 ^ 9) (hF1 : -(qw28 ^ 9) ≤ F) (hF2 : F < qw28 ^ 9) (bi ba bs : Nat) (hbi : bi = 0 ∨ bi = 10 ∨ bi = 20) (hba : ba = 0 ∨ ba = 10 ∨ ba = 20) (hbs : bs = 0 ∨ bs = 10 ∨ bs = 20) (hd1 : bi ≠ ba) (hd2 : bi ≠ bs) (x1 x2 x3 x4 x5 x6 x7 x8 : Int32) (h0 : q_S) (f0 : Nat) :
    ∀ m j h, j + m = 10 → qw_dig h ba E → qw_dig h bs F → qw_sc h0 h → h.1 = h0.1 → (∀ i, (i < bi ∨ bi + 10 ≤ i) → h.2.1 78 i = h0.2.1 78 i) → (∀ i, i < j → h.2.1 78 (bi + i) = iL (qm_lim qw28 (x * E - y * F) 9 i)) →
    ∃ h3, q_go e_130 X O (f0 + m) 172 [(0, .ref 67), (1, .int x1), (2, .int x2), (3, .int x3), (4, .int x4), (5, .int x5), (6, .int x6), (7, .int x7), (8, .int x8), (9, .long (iL x)), (11, .long (iL y)), (13, .int (nI bi)), (14, .int (nI ba)), (15, .int (nI bs)), (16, .long (iL (qm_car qw28 x E y F 9 9 j))), (18, .int (nI j))] [] h = q_go e_130 X O f0 172 [(0, .ref 67), (1, .int x1), (2, .int x2), (3, .int x3), (4, .int x4), (5, .int x5), (6, .int x6), (7, .int x7), (8, .int x8), (9, .long (iL x)), (11, .long (iL y)), (13, .int (nI bi)), (14, .int (nI ba)), (15, .int (nI bs)), (16, .long (iL (qm_car qw28 x E y F 9 9 10))), (18, .int (nI 10))] [] h3 ∧ qw_dig h3 bi (x * E - y * F) ∧ qw_sc h0 h3 ∧ h3.1 = h0.1 ∧ (∀ i, (i < bi ∨ bi + 10 ≤ i) → h3.2.1 78 i = h0.2.1 78 i) := by
  intro m
  induction m with
  | zero =>
    intro j h hj hE hF hs hi ho hd
    have : j = 10 := by omega
    subst this
    exact ⟨h, rfl, hd, hs, hi, ho⟩
  | succ m ih =>
    intro j h hj hE hF hs hi ho hd
    have bd := qw_sumbd (j := j) hx hy hE1 hE2 hF1 hF2
    have e1 : x * qm_lim qw28 E 9 j - y * qm_lim qw28 F 9 j + qm_car qw28 x E y F 9 9 j = qm_car qw28 x E y F 9 9 j + x * qm_lim qw28 E 9 j - y * qm_lim qw28 F 9 j := by omega
    obtain ⟨h3, g1, g2⟩ := ih (j + 1) (q_sl h 78 (bi + j) (iL (qm_lim qw28 (x * E - y * F) 9 j))) (by omega) (fun k hk => by rw [qr_sl_ne (by omega)]; exact hE k hk) (fun k hk => by rw [qr_sl_ne (by omega)]; exact hF k hk) (qw_sc_tr hs qw_sc_sl) hi (fun i hi2 => by rw [qr_sl_ne (by omega)]; exact ho i hi2) (fun i hi2 => by
      rcases Nat.lt_or_ge i j with p | p
      · rw [qr_sl_ne (by omega)]; exact hd i p
      · rw [show i = j by omega, qr_sl_eq])
    refine ⟨h3, ?_, g2⟩
    rw [← g1, show f0 + (m + 1) = f0 + m + 1 by omega, b130_172, if_pos (show nI j < (10 : Int32) from nI_lt (b := 10) (by omega) (by decide)), nI_add, nI_add, nI_add, q_ix_n (by omega) (by decide), q_ix_n (by omega) (by decide), hE j (by omega), hF j (by omega), iL_mul, iL_mul, iL_sub, iL_add, e1, iL_shr28 bd.1 bd.2, qm_car_s (by decide), nI_p1]
    by_cases q : j = 9
    · subst q
      rw [if_pos (show nI 9 = (9 : Int32) from rfl), q_ix_n (by omega) (by decide), qm_sum (by decide)]
      unfold qm_lim qm_par
      rw [if_neg (by omega), if_neg (by omega), if_neg (by omega), if_pos rfl]
    · rw [if_neg (show ¬ nI j = (9 : Int32) from fun z => q ((nI_eq (a := j) (b := 9) (by omega) (by decide)).mp z)), q_ix_n (by omega) (by decide), iL_mask28, qm_dig (by decide)]
      unfold qm_lim
      rw [if_pos (by omega)]
def qF (l : qv_L) (p q a r : Nat) : Int := (qm_E (qd l p q a) (qcc l q a) r).2
theorem qE_sF (l : qv_L) (p q a r : Nat) : qE l p q a (r + 1) = qd l p q a r * qE l p q a r - qcc l q a r * qF l p q a r := rfl
theorem qF_s (l : qv_L) (p q a r : Nat) : qF l p q a (r + 1) = qE l p q a r := rfl
theorem qE_28 {l : qv_L} (hl : qv_ok l) {p q a n : Nat} (hp : p ≤ 10000) (hq : q ≤ 16) (hn : a + n ≤ l 0 0) {r : Nat} (hr : r ≤ n) : (-(qw28 ^ 9) ≤ qE l p q a r ∧ qE l p q a r < qw28 ^ 9) ∧ (-(qw28 ^ 9) ≤ qF l p q a r ∧ qF l p q a r < qw28 ^ 9) := by
  have h8 := hl.1
  have t : ∀ r, r < 9 → (268435456 : Int) ^ r < qw28 ^ 9 := by decide
  have k : ∀ r, r ≤ n → -(qw28 ^ 9) ≤ qE l p q a r ∧ qE l p q a r < qw28 ^ 9 := by
    intro r hr
    have h := qE_bd hl hp hq hn hr
    have := t r (by omega)
    omega
  refine ⟨k r hr, ?_⟩
  cases r with
  | zero =>
    show -(qw28 ^ 9) ≤ (0 : Int) ∧ (0 : Int) < qw28 ^ 9
    decide
  | succ r => exact k r (by omega)
theorem qw_base (r : Nat) : (10 * (r % 3) = 0 ∨ 10 * (r % 3) = 10 ∨ 10 * (r % 3) = 20) := by omega
theorem nI_mod3 {k : Nat} (hk : k < 100) : (10 : Int32) * (nI k - nI k / 3 * 3) = nI (10 * (k % 3)) := by
  rw [show (3 : Int32) = nI 3 from rfl, pk_rem (by omega) (by decide) (by decide), show (10 : Int32) = nI 10 from rfl, pk_mul]
def qw_st (h : q_S) (l : qv_L) (p q a r : Nat) : Prop := qw_dig h (10 * (r % 3)) (qE l p q a r) ∧ qw_dig h (10 * ((r + 2) % 3)) (qF l p q a r) ∧ (∀ i, i ≤ r → h.1 79 i = qr_sgn (qE l p q a i)) ∧ (∀ i, i ≤ r → h.1 80 i = iI (qE l p q a i % 10007))
theorem qw_rd_fr {h h2 : q_S} {l : qv_L} (h74 : h2.1 73 = h.1 73 ∧ h2.1 74 = h.1 74 ∧ h2.1 75 = h.1 75 ∧ h2.1 76 = h.1 76 ∧ h2.1 77 = h.1 77) (hr : qw_rd h l) : qw_rd h2 l := by
  intro i hi
  unfold qw_ri
  rw [h74.1, h74.2.1, h74.2.2.1, h74.2.2.2.1, h74.2.2.2.2]
  exact hr i hi
theorem qr_sgn_3 (E : Int) : qr_sgn E = -1 ∨ qr_sgn E = 0 ∨ qr_sgn E = 1 := by
  unfold qr_sgn
  split
  · exact Or.inl rfl
  · split
    · exact Or.inr (Or.inl rfl)
    · exact Or.inr (Or.inr rfl)
theorem qr_sgn_0 (E : Int) : qr_sgn E = 0 ↔ E = 0 := by
  unfold qr_sgn
  rcases Int.lt_trichotomy E 0 with q | q | q
  · rw [if_pos q]; exact ⟨fun z => absurd z (by decide), fun z => by omega⟩
  · rw [if_neg (by omega), if_pos q]; exact ⟨fun _ => q, fun _ => rfl⟩
  · rw [if_neg (by omega), if_neg (by omega)]; exact ⟨fun z => absurd z (by decide), fun z => by omega⟩
theorem qr_same (k : Nat) (E : Int) (h : E ≠ 0) : qr_sgn E = iI (qm_sg k) ↔ ¬ qm_sg k * E < 0 := by
  rw [iI_sg]
  unfold qr_sgn qm_sg
  by_cases hk : k % 2 = 0
  · rw [if_pos hk, if_pos hk]
    rcases Int.lt_trichotomy E 0 with q | q | q
    · rw [if_pos q]; exact ⟨fun z => absurd z (by decide), fun z => by omega⟩
    · exact absurd q h
    · rw [if_neg (by omega), if_neg (by omega)]; exact ⟨fun _ => by omega, fun _ => rfl⟩
  · rw [if_neg hk, if_neg hk]
    rcases Int.lt_trichotomy E 0 with q | q | q
    · rw [if_pos q]; exact ⟨fun _ => by omega, fun _ => rfl⟩
    · exact absurd q h
    · rw [if_neg (by omega), if_neg (by omega)]; exact ⟨fun z => absurd z (by decide), fun z => by omega⟩
