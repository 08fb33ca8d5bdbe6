/-! ===== fences ===== -/
def qv_f (l : qv_L) (k q : Nat) : Nat := qm_fn (fun p => decide (qB l p q 0 (l 0 0) ≤ k)) (qv_top l * q)
theorem qv_f_iff {l : qv_L} (hl : qv_ok l) {q k : Nat} (hq : 1 ≤ q) (hk : k < l 0 0) (p : Nat) : qB l p q 0 (l 0 0) ≤ k ↔ p ≤ qv_f l k q := by
  have h0 : decide (qB l 0 q 0 (l 0 0) ≤ k) = true := by rw [qB_low q (l 0 0) (Nat.le_refl _)]; simp
  have hm : ∀ a b, a ≤ b → decide (qB l b q 0 (l 0 0) ≤ k) = true → decide (qB l a q 0 (l 0 0) ≤ k) = true := by
    intro a b hab hb
    have := qB_mono hl (n := l 0 0) (a := 0) hq (by omega) hab
    have hb := of_decide_eq_true hb
    exact decide_eq_true (by omega)
  rcases Nat.le_total p (qv_top l * q) with hp | hp
  · have := qm_fn_iff h0 hm hp
    rw [decide_eq_true_iff] at this
    exact this
  · have h1 := qB_high hl hq
    have h2 := qB_mono hl (n := l 0 0) (a := 0) hq (by omega) hp
    have h3 := qm_fn_le (fun p => decide (qB l p q 0 (l 0 0) ≤ k)) (qv_top l * q)
    have h4 := qm_fn_yes (P := fun p => decide (qB l p q 0 (l 0 0) ≤ k)) h0 (qv_top l * q)
    have h4 := of_decide_eq_true h4
    constructor
    · intro z; omega
    · intro z
      have e : p = qv_f l k q := by unfold qv_f at *; omega
      rw [e]
      exact h4
theorem qv_f_le (l : qv_L) (k q : Nat) : qv_f l k q ≤ qv_top l * q := qm_fn_le _ _
theorem qv_f_bd {l : qv_L} (hl : qv_ok l) {q : Nat} (hq : q ≤ 16) (k : Nat) : qv_f l k q ≤ 9520 := by
  have h1 := qv_f_le l k q
  have h2 : qv_top l * q ≤ 595 * 16 := Nat.mul_le_mul (qv_top_le hl) hq
  omega
theorem qv_f_eq {l : qv_L} (hl : qv_ok l) {q k : Nat} (hq : 1 ≤ q) (hk : k < l 0 0) (p : Nat) : (qB l p q 0 (l 0 0) ≤ k ∧ k < qB l (p + 1) q 0 (l 0 0)) ↔ p = qv_f l k q := by
  have h1 := qv_f_iff hl hq hk p
  have h2 := qv_f_iff hl hq hk (p + 1)
  constructor
  · rintro ⟨a, b⟩
    have a := h1.mp a
    have b : ¬ p + 1 ≤ qv_f l k q := fun z => by have := h2.mpr z; omega
    omega
  · intro e
    refine ⟨h1.mpr (by omega), ?_⟩
    rcases Nat.lt_or_ge k (qB l (p + 1) q 0 (l 0 0)) with z | z
    · exact z
    · have := h2.mp z
      omega
theorem l43 (X : q_X) (d : Nat) (l : qv_L) (hl : qv_ok l) (k q : Nat) (hq1 : 1 ≤ q) (hq : q ≤ 16) (hk : k < l 0 0) (h0 : q_S) : ∀ m f p h, m ≤ 14 → m < f → p ≤ qv_f l k q → qv_f l k q < p + 2 ^ m → qr_at h l → qr_z h → qr_fr qr_S h0 h →
    ∃ h2, q_go e_43 X (q_sem (d + 3)) f 15 [(0, .ref 43), (1, .int (nI k)), (2, .int (nI q)), (3, .int (nI (qv_top l * q))), (4, .int (nI p)), (5, .int (nI (2 ^ m / 2)))] [] h = some (h2, some (.int (nI (qv_f l k q)))) ∧ qr_fr qr_S h0 h2 ∧ qr_z h2 := by
  have h8 := hl.1
  have hfb := qv_f_bd hl hq k
  have htop : qv_top l * q ≤ 595 * 16 := Nat.mul_le_mul (qv_top_le hl) hq
  have hfl := qv_f_le l k q
  intro m
  induction m with
  | zero =>
    intro f p h hm hf h1 h2 ha hz hfr
    obtain ⟨f, rfl⟩ : ∃ f2, f = f2 + 1 := ⟨f - 1, by omega⟩
    refine ⟨h, ?_, hfr, hz⟩
    have e : p = qv_f l k q := by omega
    rw [b43_15, if_neg (by decide), e]
  | succ m ih =>
    intro f p h hm hf h1 h2 ha hz hfr
    obtain ⟨f, rfl⟩ : ∃ f2, f = f2 + 1 := ⟨f - 1, by omega⟩
    have hpw : 2 ^ m ≤ 8192 := by
      have : 2 ^ m ≤ 2 ^ 13 := Nat.pow_le_pow_right (by decide) (by omega)
      exact this
    have hp0 : 0 < 2 ^ m := Nat.pow_pos (by decide)
    have e2 : 2 ^ (m + 1) / 2 = 2 ^ m := by rw [Nat.pow_succ]; omega
    have e3 : 2 ^ (m + 1) = 2 ^ m + 2 ^ m := by rw [Nat.pow_succ]; omega
    rw [e2]
    have esh : nI (2 ^ m) >>> ((1 : Int32) &&& 31) = nI (2 ^ m / 2) := by
      have := pk_shrN (n := 2 ^ m) (by omega) ((1 : Int32) &&& 31) 1 (by decide)
      exact this
    rw [b43_15, if_pos ((nI_pos_iff (by omega)).mpr hp0), nI_add, esh]
    by_cases z : qv_top l * q < p + 2 ^ m
    · rw [if_pos (nI_lt z (by omega))]
      exact ih f p h (by omega) (by omega) h1 (by omega) ha hz hfr
    · rw [if_neg (nI_nlt (by omega) (by omega))]
      obtain ⟨h2', g1, g2, g3, -⟩ := s37 d h l hl (p + 2 ^ m) q (by omega) hq ha hz
      have hb := qB_le l (p + 2 ^ m) q 0 (l 0 0)
      rw [g1, q_c1_s]
      have hi := qv_f_iff hl hq1 hk (p + 2 ^ m)
      by_cases y : k < qB l (p + 2 ^ m) q 0 (l 0 0)
      · rw [if_pos (nI_lt y (by omega))]
        have : ¬ p + 2 ^ m ≤ qv_f l k q := fun w => by have := hi.mpr w; omega
        exact ih f p h2' (by omega) (by omega) h1 (by omega) (qr_at_fr g2 ha) g3 (qr_fr_tr hfr g2)
      · rw [if_neg (nI_nlt (by omega) (by omega))]
        have := hi.mp (by omega)
        exact ih f (p + 2 ^ m) h2' (by omega) (by omega) this (by omega) (qr_at_fr g2 ha) g3 (qr_fr_tr hfr g2)
theorem s43 (d : Nat) (h : q_S) (l : qv_L) (hl : qv_ok l) (k q : Nat) (hq1 : 1 ≤ q) (hq : q ≤ 16) (hk : k < l 0 0) (ha : qr_at h l) (hz : qr_z h) :
    ∃ h2, q_sem (d + 4) 43 h [.ref 43, .int (nI k), .int (nI q)] = some (h2, some (.int (nI (qv_f l k q)))) ∧ qr_fr qr_S h h2 ∧ qr_z h2 := by
  have hfb := qv_f_bd hl hq k
  obtain ⟨h2, g1, g2⟩ := l43 q_X0 d l hl k q hq1 hq hk h 14 999 0 h (by omega) (by omega) (by omega) (by omega) ha hz (qr_fr_rf _ _)
  refine ⟨h2, ?_, g2⟩
  rw [m43, s42 (d + 1) h l hl ha, q_c1_s, pk_mul]
  exact g1
theorem iL_all (v : Int64) : v = iL v.toInt := (Int64.ofInt_toInt v).symm
theorem iL_rng (v : Int64) : -9223372036854775808 ≤ v.toInt ∧ v.toInt < 9223372036854775808 := by
  have h1 := Int64.le_toInt v
  have h2 := Int64.toInt_lt v
  omega
theorem s44 (d : Nat) (h : q_S) (l : qv_L) (hl : qv_ok l) (k q : Nat) (hq1 : 1 ≤ q) (hq : q ≤ 16) (hk : k < l 0 0) (v : Int64) (ha : qr_at h l) (hz : qr_z h) :
    ∃ h2, q_sem (d + 4) 44 h [.ref 43, .int (nI k), .int (nI q), .long v] = some (h2, some (.int (if v = iL (qv_f l k q) then 1 else 0))) ∧ qr_fr qr_S h h2 ∧ qr_z h2 := by
  have h8 := hl.1
  have hfb := qv_f_bd hl hq k
  obtain ⟨r1, r2⟩ := iL_rng v
  have hv := iL_all v
  generalize v.toInt = z at *
  subst hv
  have hne : ∀ y : Int, (iL z = iL (qv_f l k q : Nat) ↔ z = (qv_f l k q : Nat)) := fun _ => iL_eq r1 r2 (by omega) (by omega)
  have hne := hne 0
  by_cases z1 : z < 0
  · refine ⟨h, ?_, qr_fr_rf _ _, hz⟩
    rw [m44, if_pos ((lg0_lt r1 r2).mpr z1), if_neg (fun y => by have := hne.mp y; omega)]
  · by_cases z2 : 9999 < z
    · refine ⟨h, ?_, qr_fr_rf _ _, hz⟩
      rw [m44, if_neg (fun y => z1 ((lg0_lt r1 r2).mp y)), show Int64.ofNat 9999 = iL 9999 from rfl, if_pos ((lg_gt r1 r2 (by omega) (by omega)).mpr z2), if_neg (fun y => by have := hne.mp y; omega)]
    · obtain ⟨p, rfl⟩ : ∃ p : Nat, z = p := ⟨z.toNat, by omega⟩
      have e : (iL (p : Int)).toInt32 = nI p := iL_I r1 r2
      rw [m44, if_neg (fun y => z1 ((lg0_lt r1 r2).mp y)), show Int64.ofNat 9999 = iL 9999 from rfl, if_neg (fun y => z2 ((lg_gt r1 r2 (by omega) (by omega)).mp y)), e, nI_p1]
      obtain ⟨h2, g1, g2, g3, -⟩ := s37 d h l hl p q (by omega) hq ha hz
      have hb := qB_le l p q 0 (l 0 0)
      have hb2 := qB_le l (p + 1) q 0 (l 0 0)
      rw [g1, q_c1_s]
      have key := qv_f_eq hl hq1 hk p
      by_cases y : k < qB l p q 0 (l 0 0)
      · refine ⟨h2, ?_, g2, g3⟩
        rw [if_pos (nI_lt y (by omega)), if_neg (fun w => by have := key.mpr (by have := hne.mp w; omega); omega)]
      · rw [if_neg (nI_nlt (by omega) (by omega))]
        obtain ⟨h3, k1, k2, k3, -⟩ := s37 d h2 l hl (p + 1) q (by omega) hq (qr_at_fr g2 ha) g3
        refine ⟨h3, ?_, qr_fr_tr g2 k2, k3⟩
        rw [k1, q_c1_s]
        by_cases w : k < qB l (p + 1) q 0 (l 0 0)
        · rw [if_pos (nI_lt w (by omega)), if_pos]
          have := key.mp ⟨by omega, w⟩
          rw [← this]
        · rw [if_neg (nI_nlt (by omega) (by omega)), if_neg (fun u => by have := key.mpr (by have := hne.mp u; omega); omega)]
theorem s45 (d : Nat) (h : q_S) (l : qv_L) (hl : qv_ok l) (a b q : Nat) (hab : a ≤ b) (hb : b ≤ 10000) (hq1 : 1 ≤ q) (hq : q ≤ 16) (ha : qr_at h l) (hz : qr_z h) :
    ∃ h2, q_sem (d + 4) 45 h [.ref 43, .int (nI a), .int (nI b), .int (nI q)] = some (h2, some (.int (nI (qB l b q 0 (l 0 0) - qB l a q 0 (l 0 0))))) ∧ qr_fr qr_S h h2 ∧ qr_z h2 := by
  obtain ⟨h2, g1, g2, g3, -⟩ := s37 d h l hl b q hb hq ha hz
  obtain ⟨h3, k1, k2, k3, -⟩ := s37 d h2 l hl a q (by omega) hq (qr_at_fr g2 ha) g3
  refine ⟨h3, ?_, qr_fr_tr g2 k2, k3⟩
  have := qB_mono hl (n := l 0 0) (a := 0) hq1 (by omega) hab
  rw [m45, g1, q_c1_s, k1, q_c1_s, pk_sub this]
-- rests
theorem lxor_neg {z : Int} (h1 : -9223372036854775808 ≤ z) (h2 : z < 9223372036854775808) : lg_cmp (iL z ^^^ Int64.ofNat 10007) (Int64.ofNat 0) < 0 ↔ z < 0 := by
  obtain ⟨r1, r2⟩ := iL_rng (iL z ^^^ Int64.ofNat 10007)
  rw [iL_all (iL z ^^^ Int64.ofNat 10007), lg0_lt r1 r2]
  have e1 : (iL z ^^^ Int64.ofNat 10007).toInt < 0 ↔ (iL z ^^^ Int64.ofNat 10007).toBitVec.msb = true := by
    rw [BitVec.msb_eq_toInt, decide_eq_true_iff]
    rfl
  have e2 : z < 0 ↔ (iL z).toBitVec.msb = true := by
    rw [BitVec.msb_eq_toInt, decide_eq_true_iff]
    show z < 0 ↔ (iL z).toInt < 0
    rw [iL_to h1 h2]
  rw [e1, e2, Int64.toBitVec_xor, BitVec.msb_xor, show (Int64.ofNat 10007).toBitVec.msb = false by decide, Bool.xor_false]
theorem s209 (d : Nat) (h : q_S) {z : Int} (h1 : -4611686018427387904 ≤ z) (h2 : z < 4611686018427387904) : q_sem (d + 1) 209 h [.long (iL z), .long (Int64.ofNat 10007)] = some (h, some (.long (iL (z % 10007)))) := by
  have hx := lxor_neg (z := z) (by omega) (by omega)
  have hdiv : ∀ t, z.tdiv 10007 = t → iL z / Int64.ofNat 10007 = iL t := by
    intro t ht
    rw [← Int64.toInt_inj, Int64.toInt_div, iL_to (by omega) (by omega), show (Int64.ofNat 10007).toInt = 10007 by decide, ht]
    exact (Int64.toInt_ofInt ..).symm
  rw [m209, if_neg (by decide)]
  rcases Int.lt_or_le z 0 with q | q
  · obtain ⟨w, rfl⟩ : ∃ w : Int, z = -w := ⟨-z, by omega⟩
    have e : (-w).tdiv 10007 = -(w / 10007) := by
      rw [Int.neg_tdiv, Int.tdiv_eq_ediv_of_nonneg (by omega)]
    have er : iL (-w) - iL (-w) / Int64.ofNat 10007 * Int64.ofNat 10007 = iL (-(w % 10007)) := by
      rw [hdiv _ e, show Int64.ofNat 10007 = iL 10007 from rfl, iL_mul, iL_sub]
      congr 1
      omega
    rw [if_pos (hx.mpr q), er]
    by_cases y : w % 10007 = 0
    · rw [if_pos ((lg0_eq (by omega) (by omega)).mpr (by omega)), show -(w % 10007) = (-w) % 10007 by omega]
    · rw [if_neg (fun u => y (by have := (lg0_eq (by omega) (by omega)).mp u; omega)), show Int64.ofNat 10007 = iL 10007 from rfl, iL_add, show -(w % 10007) + 10007 = (-w) % 10007 by omega]
  · have e : z.tdiv 10007 = z / 10007 := Int.tdiv_eq_ediv_of_nonneg q
    have er : iL z - iL z / Int64.ofNat 10007 * Int64.ofNat 10007 = iL (z % 10007) := by
      rw [hdiv _ e, show Int64.ofNat 10007 = iL 10007 from rfl, iL_mul, iL_sub]
      congr 1
      omega
    rw [if_neg (fun y => by have := hx.mp y; omega), er]
theorem iL_shl30 (z : Int) : iL z <<< ((30 : Int32).toInt64 &&& 63) = iL (z * qw30) := by
  rw [← Int64.toBitVec_inj]
  show (Int64.shiftLeft _ _).toBitVec = _
  have e : (((30 : Int32).toInt64 &&& 63).toBitVec.smod 64).toNat = 30 := by decide
  show (iL z).toBitVec <<< ((((30 : Int32).toInt64 &&& 63).toBitVec.smod 64)) = _
  rw [BitVec.shiftLeft_eq', e, Int64.toBitVec_ofInt, Int64.toBitVec_ofInt]
  rw [BitVec.shiftLeft_eq_mul_twoPow, BitVec.ofInt_mul]
  congr 1
theorem l41 (X : q_X) (d : Nat) (h : q_S) (r : Nat) (hr : r < 9) (E : Int) (hE1 : -(qw30 ^ (max r 1)) ≤ E) (hE2 : E < qw30 ^ (max r 1)) (h0 : r = 0 → E = 1) (hE : qr_row h r E) :
    ∀ j f, j ≤ r + 1 → j + 1 < f → q_go e_41 X (q_sem (d + 1)) f 5 [(0, .ref 43), (1, .int (nI r)), (2, .long (iL (if j = r + 1 then 0 else (E / qw30 ^ j) % 10007))), (4, .int (iI ((j : Int) - 1)))] [] h = some (h, some (.int (iI (E % 10007)))) := by
  have lb := q_lb hr
  have hw : qw30 = 1073741824 := rfl
  intro j
  induction j with
  | zero =>
    intro f hj hf
    obtain ⟨f, rfl⟩ : ∃ f2, f = f2 + 1 := ⟨f - 1, by omega⟩
    rw [b41_5, if_pos (by decide), if_neg (by omega), Int.pow_zero, Int.ediv_one, iL_I (by omega) (by omega)]
  | succ j ih =>
    intro f hj hf
    obtain ⟨f, rfl⟩ : ∃ f2, f = f2 + 1 := ⟨f - 1, by omega⟩
    have bd := qm_lim_bd (w := qw30) (by decide) hE1 hE2 j
    have ej : iI (((j + 1 : Nat) : Int) - 1) = nI j := by
      rw [nI_iI]
      congr 1
      omega
    have ej2 : nI j + (-1) = iI ((j : Int) - 1) := by
      rw [nI_iI, show (-1 : Int32) = iI (-1) from rfl, iI_add]
      congr 1
    rw [ej, b41_5, if_neg (nI_pos (by omega)), q_ix_n (by omega) (by decide), lb.1, lb.2.1, lb.2.2, q_b11, q_ix_n (by omega) (by decide), hE j (by omega), iL_shl30, iL_add, ej2]
    have hrest : ∀ x : Int, 0 ≤ x → x < 10007 → (x * qw30 + qm_lim qw30 E (max r 1) j) % 10007 = (E / qw30 ^ j) % 10007 → ∃ y, q_sem (d + 1) 209 h [.long (iL (x * qw30 + qm_lim qw30 E (max r 1) j)), .long (Int64.ofNat 10007)] = some (h, some (.long (iL y))) ∧ y = (E / qw30 ^ j) % 10007 := by
      intro x x1 x2 x3
      have ex : x * qw30 = x * 1073741824 := rfl
      exact ⟨_, s209 d h (by omega) (by omega), x3⟩
    have ihj := ih f (by omega) (by omega)
    rw [if_neg (by omega)] at ihj
    by_cases q : j = r
    · subst q
      rw [if_pos rfl]
      obtain ⟨y, g1, g2⟩ := hrest 0 (by omega) (by omega) (by
        rw [Int.zero_mul, Int.zero_add]
        rcases Nat.eq_zero_or_pos j with e | e
        · subst e
          rw [h0 rfl]
          decide
        · unfold qm_lim
          rw [show max j 1 = j by omega, if_neg (by omega), if_pos rfl])
      rw [g1, q_c3_s, g2]
      exact ihj
    · rw [if_neg (by omega)]
      obtain ⟨y, g1, g2⟩ := hrest ((E / qw30 ^ (j + 1)) % 10007) (Int.emod_nonneg _ (by decide)) (Int.emod_lt_of_pos _ (by decide)) (by
        have e1 : qm_lim qw30 E (max r 1) j = (E / qw30 ^ j) % qw30 := by
          unfold qm_lim
          rw [if_pos (by omega)]
        have e2 : E / qw30 ^ j / qw30 = E / qw30 ^ (j + 1) := by
          rw [Int.pow_succ, Int.ediv_ediv_of_nonneg (Int.le_of_lt (Int.pow_pos (by decide)))]
        rw [e1, ← e2]
        generalize E / qw30 ^ j = z
        show (z / 1073741824 % 10007 * 1073741824 + z % 1073741824) % 10007 = z % 10007
        omega)
      rw [g1, q_c3_s, g2]
      exact ihj
theorem s41 (d : Nat) (h : q_S) (r : Nat) (hr : r < 9) (E : Int) (hE1 : -(qw30 ^ (max r 1)) ≤ E) (hE2 : E < qw30 ^ (max r 1)) (h0 : r = 0 → E = 1) (hE : qr_row h r E) : q_sem (d + 2) 41 h [.ref 43, .int (nI r)] = some (h, some (.int (iI (E % 10007)))) := by
  have := l41 q_X0 d h r hr E hE1 hE2 h0 hE (r + 1) 999 (by omega) (by omega)
  rw [if_pos rfl, show iI (((r + 1 : Nat) : Int) - 1) = nI r by rw [nI_iI]; congr 1; omega] at this
  rw [m41]
  exact this
