/-! ===== the class's rates: all of them, top, fences ===== -/
theorem qr_fr_sc {h h2 : q_S} (hf : qr_fr qr_S h h2) : qr_sc h h2 := ⟨fun a j _ => by rw [hf.1], hf.2.1, fun a ha => hf.2.2 a (fun q => by
  have t : ∀ x ∈ qr_S, 44 ≤ x ∧ x ≤ 56 := by decide
  have := t a q
  omega)⟩
theorem s37 (d : Nat) (h : q_S) (l : qv_L) (hl : qv_ok l) (p q : Nat) (hp : p ≤ 10000) (hq : q ≤ 16) (ha : qr_at h l) (hz : qr_z h) :
    ∃ h2, q_sem (d + 3) 37 h [.ref 43, .int (nI p), .int (nI q)] = some (h2, some (.int (nI (qB l p q 0 (l 0 0))))) ∧ qr_fr qr_S h h2 ∧ qr_z h2 ∧ ∀ i, i ≤ l 0 0 → qr_row h2 i (qE l p q 0 i) := by
  obtain ⟨h2, g1, g2⟩ := s38 d h l hl p q 0 (l 0 0) hp hq (by omega) ha hz
  refine ⟨h2, ?_, g2⟩
  have e : h.1 43 0 - 1 = iI ((0 + l 0 0 : Nat) - 1) := by
    rw [ha.1, nI_iI, show (1 : Int32) = iI 1 from rfl, iI_sub, Nat.zero_add]
  rw [m37, e, show (0 : Int32) = nI 0 from rfl, g1, q_c1_s]
theorem lg_lt {a b : Int} (ha1 : -9223372036854775808 ≤ a) (ha2 : a < 9223372036854775808) (hb1 : -9223372036854775808 ≤ b) (hb2 : b < 9223372036854775808) : lg_cmp (iL a) (iL b) < 0 ↔ a < b := by
  have e1 : iL a > iL b ↔ b < a := iL_lt hb1 hb2 ha1 ha2
  have e2 : iL a = iL b ↔ a = b := iL_eq ha1 ha2 hb1 hb2
  unfold lg_cmp
  split
  · rename_i q
    have := e1.mp q
    constructor
    · intro z; exact absurd z (by decide)
    · intro z; omega
  · rename_i q
    have q : ¬ b < a := fun y => q (e1.mpr y)
    split
    · rename_i p
      have := e2.mp p
      constructor
      · intro z; exact absurd z (by decide)
      · intro z; omega
    · rename_i p
      have p : ¬ a = b := fun y => p (e2.mpr y)
      constructor
      · intro _; omega
      · intro _; decide
theorem lg_gt {a b : Int} (ha1 : -9223372036854775808 ≤ a) (ha2 : a < 9223372036854775808) (hb1 : -9223372036854775808 ≤ b) (hb2 : b < 9223372036854775808) : 0 < lg_cmp (iL a) (iL b) ↔ b < a := by
  have e1 : iL a > iL b ↔ b < a := iL_lt hb1 hb2 ha1 ha2
  unfold lg_cmp
  split
  · rename_i q
    exact ⟨fun _ => e1.mp q, fun _ => by decide⟩
  · rename_i q
    have q : ¬ b < a := fun y => q (e1.mpr y)
    split
    · exact ⟨fun z => absurd z (by decide), fun z => absurd z q⟩
    · exact ⟨fun z => absurd z (by decide), fun z => absurd z q⟩
theorem s210 (d : Nat) (h : q_S) (a b : Nat) (ha : a < 9223372036854775808) (hb : b < 9223372036854775808) : q_sem (d + 1) 210 h [.long (iL a), .long (iL b)] = some (h, some (.long (iL (max a b : Nat)))) := by
  rw [m210]
  have e := lg_lt (a := a) (b := b) (by omega) (by omega) (by omega) (by omega)
  by_cases q : a < b
  · rw [if_pos (e.mpr (by omega)), show max a b = b by omega]
  · rw [if_neg (fun z => q (by have := e.mp z; omega)), show max a b = a by omega]
def qv_mx (l : qv_L) : Nat → Nat
  | 0 => 0
  | i + 1 => max (qv_mx l i) (2 * qv_H l i / qv_I l i)
def qv_top (l : qv_L) : Nat := if l 0 0 = 0 then 0 else 1 + qv_mx l (l 0 0)
/-- HOLDS by INERTIA is no more than 297 -/
theorem qv_HI {l : qv_L} (hl : qv_ok l) {i : Nat} (hi : i < l 0 0) : qv_H l i ≤ 297 * qv_I l i := by
  have h8 := hl.1
  have hm := hl.2.2.2.1 i (by omega)
  have hw := qv_wg_bd (kind := l 1 i) (spin := l 0 1) (hl.2.2.2.2.1 i hi) hm.2.1
  have hn := qv_in_bd (way := l 0 2) hl.2.1 hw.1 hw.2
  have hf := qv_fac_36 hl hi
  have hI : qv_fac l i ≤ qv_I l i := by
    unfold qv_I qv_w
    exact Nat.le_mul_of_pos_left _ hn.1
  have hG : qv_G l i ≤ 99 * qv_fac l i := Nat.mul_le_mul_right _ hm.2.2.1
  have hK1 : (if i + 1 < l 0 0 then qv_K l i else 0) ≤ 99 * qv_fac l i := by
    split
    · exact Nat.mul_le_mul_right _ hm.2.2.2.1
    · omega
  have hK0 : (if 0 < i then qv_K l (i - 1) else 0) ≤ 99 * qv_fac l i := by
    split
    · have h2 := hl.2.2.2.1 (i - 1) (by omega)
      have hr : qv_rat l (i - 1) ≤ qv_rat l i := by
        have := qv_rat_le hl (i - 1) 1 (by omega)
        rw [show i - 1 + 1 = i by omega] at this
        exact this
      have hff : qv_fac l (i - 1) ≤ qv_fac l i := Nat.mul_le_mul hr hr
      exact Nat.mul_le_mul h2.2.2.2.1 hff
    · omega
  unfold qv_H
  omega
theorem qv_mx_le {l : qv_L} (hl : qv_ok l) : ∀ i, i ≤ l 0 0 → qv_mx l i ≤ 594
  | 0, _ => by unfold qv_mx; omega
  | i + 1, h => by
    have ih := qv_mx_le hl i (by omega)
    have h1 := qv_HI hl (i := i) (by omega)
    have h2 := qv_I_bd hl (i := i) (by omega)
    have : 2 * qv_H l i / qv_I l i ≤ 594 := by
      apply Nat.div_le_of_le_mul
      have : qv_I l i * 594 = 2 * (297 * qv_I l i) := by omega
      omega
    unfold qv_mx
    omega
theorem qv_mx_ge {l : qv_L} {i : Nat} : ∀ n, i < n → 2 * qv_H l i / qv_I l i ≤ qv_mx l n
  | 0, h => by omega
  | n + 1, h => by
    unfold qv_mx
    rcases Nat.lt_or_ge i n with q | q
    · have := qv_mx_ge (l := l) n q
      omega
    · have : i = n := by omega
      subst this
      omega
theorem qv_top_le {l : qv_L} (hl : qv_ok l) : qv_top l ≤ 595 := by
  have := qv_mx_le hl (l 0 0) (Nat.le_refl _)
  unfold qv_top
  split <;> omega
theorem l42 (X : q_X) (d : Nat) (l : qv_L) (hl : qv_ok l) (h : q_S) (ha : qr_at h l) : ∀ m f i, i + m = l 0 0 → m < f → q_go e_42 X (q_sem (d + 1)) f 13 [(0, .ref 43), (1, .long (iL (qv_mx l i))), (3, .int (nI i))] [] h = some (h, some (.int (nI (1 + qv_mx l (l 0 0))))) := by
  have h8 := hl.1
  intro m
  induction m with
  | zero =>
    intro f i hi hf
    obtain ⟨f, rfl⟩ : ∃ f2, f = f2 + 1 := ⟨f - 1, by omega⟩
    have e : i = l 0 0 := by omega
    subst e
    have := qv_mx_le hl (l 0 0) (Nat.le_refl _)
    rw [b42_13, ha.1, if_neg (nI_nlt (Nat.le_refl _) (by omega)), show Int64.ofNat 1 = iL 1 from rfl, iL_add, iL_I (by omega) (by omega), nI_iI]
    congr 4
  | succ m ih =>
    intro f i hi hf
    obtain ⟨f, rfl⟩ : ∃ f2, f = f2 + 1 := ⟨f - 1, by omega⟩
    have hil : i < l 0 0 := by omega
    have bI := qv_I_bd hl hil
    have bH := qv_H_bd hl hil
    obtain ⟨aI, aH, -⟩ := ha.2 i hil
    have bm := qv_mx_le hl i (by omega)
    have hpos : 0 < lg_cmp (h.2.1 44 i) (Int64.ofNat 0) := by
      rw [aI, show Int64.ofNat 0 = iL 0 from rfl, lg_gt (by omega) (by omega) (by omega) (by omega)]
      omega
    have hne : ¬ h.2.1 44 i = 0 := by
      rw [aI, show (0 : Int64) = iL 0 from rfl, iL_eq (by omega) (by omega) (by omega) (by omega)]
      omega
    have ediv : Int64.ofNat 2 * h.2.1 45 i / h.2.1 44 i = iL (2 * qv_H l i / qv_I l i : Nat) := by
      rw [aI, aH, show Int64.ofNat 2 = iL 2 from rfl, iL_mul]
      have := pk_lDiv (a := 2 * qv_H l i) (b := qv_I l i) (by omega) (by omega) (by omega)
      exact this
    have hd : 2 * qv_H l i / qv_I l i ≤ 2 * qv_H l i := Nat.div_le_self _ _
    rw [b42_13, ha.1, if_pos (nI_lt hil (by omega)), q_ix_n (by omega) (by decide), if_pos hpos, q_ix_n (by omega) (by decide), q_ix_n (by omega) (by decide), if_neg hne, ediv, s210 d h _ _ (by omega) (by omega), q_c3_s, nI_p1]
    exact ih f (i + 1) (by omega) (by omega)
theorem s42 (d : Nat) (h : q_S) (l : qv_L) (hl : qv_ok l) (ha : qr_at h l) : q_sem (d + 2) 42 h [.ref 43] = some (h, some (.int (nI (qv_top l)))) := by
  have h8 := hl.1
  rw [m42, ha.1]
  unfold qv_top
  by_cases q : l 0 0 = 0
  · rw [if_pos (by rw [q]; rfl), if_pos q]
    rfl
  · rw [if_neg (nI_ne0 (by omega) (by omega)), if_neg q]
    exact l42 q_X0 d l hl h ha (l 0 0) 999 0 (by omega) (by omega)
-- the mathematics of fences
theorem qd_mono {l : qv_L} (p p' q a : Nat) (h : p ≤ p') (r : Nat) : qd l p' q a r ≤ qd l p q a r := by
  unfold qd
  have : (p : Int) * (qv_I l (a + r) : Int) ≤ (p' : Int) * (qv_I l (a + r) : Int) := Int.mul_le_mul_of_nonneg_right (by omega) (by omega)
  omega
/-- beyond the discs: a coupling that is not 0, so that the mathematics goes through -/
def qc1 (l : qv_L) (q a n : Nat) (r : Nat) : Int := if r < n then qcc l q a r else 1
theorem qB_c1 (l : qv_L) (p q a n : Nat) : qB l p q a n = qm_B (qd l p q a) (qc1 l q a n) n := by
  unfold qB qm_B
  rw [qm_st_cong (fun _ _ => rfl) (fun i hi => (show qcc l q a i = qc1 l q a n i by unfold qc1; rw [if_pos hi]))]
theorem qB_mono {l : qv_L} (hl : qv_ok l) {p p' q a n : Nat} (hq : 1 ≤ q) (hn : a + n ≤ l 0 0) (h : p ≤ p') : qB l p q a n ≤ qB l p' q a n := by
  rw [qB_c1, qB_c1]
  refine qm_mono' (fun i hi => ?_) ?_ (fun i _ => qd_mono p p' q a h i)
  · unfold qc1
    split
    · exact qcc_pos hl hq hi (by omega)
    · decide
  · unfold qc1 qcc
    split <;> simp
def qkk (l : qv_L) (q a n : Nat) (i : Nat) : Int := if i + 1 < n then (q : Int) * (qv_K l (a + i) : Int) else 0
theorem qB_low {l : qv_L} (q n : Nat) (hn : n ≤ l 0 0) : qB l 0 q 0 n = 0 := by
  have hk : ∀ i, 0 ≤ qkk l q 0 n i := by
    intro i
    unfold qkk
    split
    · exact Int.mul_nonneg (by omega) (by omega)
    · omega
  have e : qB l 0 q 0 n = qm_B (qd l 0 q 0) (fun r => if r = 0 then 0 else qkk l q 0 n (r - 1) * qkk l q 0 n (r - 1)) n := by
    unfold qB qm_B
    rw [qm_st_cong (fun _ _ => rfl) (fun i hi => ?_)]
    unfold qcc qkk
    by_cases z : i = 0
    · rw [if_pos z, if_pos z]
    · rw [if_neg z, if_neg z, if_pos (by omega), show 0 + i - 1 = 0 + (i - 1) by omega]
  rw [e]
  refine (qm_low hk (fun i => ?_) (by simp) (fun h0 => ?_) (fun i hi => ?_) n (Nat.le_refl n)).1
  · rw [if_neg (by omega), Nat.add_sub_cancel]
  · unfold qkk qd qv_H
    rw [if_neg (show ¬ 0 < 0 + 0 by omega)]
    split
    · rename_i z
      rw [if_pos (by omega)]
      have : (q : Int) * (qv_K l (0 + 0) : Int) ≤ (q : Int) * ((qv_G l (0 + 0) + 0 + qv_K l (0 + 0) : Nat) : Int) := Int.mul_le_mul_of_nonneg_left (by omega) (by omega)
      omega
    · have : 0 ≤ (q : Int) * ((qv_G l (0 + 0) + 0 + (if 0 + 0 + 1 < l 0 0 then qv_K l (0 + 0) else 0) : Nat) : Int) := Int.mul_nonneg (by omega) (by omega)
      omega
  · unfold qkk qd qv_H
    rw [if_pos (show i + 1 < n by omega), if_pos (show 0 < 0 + (i + 1) by omega), show 0 + (i + 1) - 1 = 0 + i by omega]
    split
    · rename_i z
      rw [if_pos (by omega)]
      have : (q : Int) * (qv_K l (0 + i) : Int) + (q : Int) * (qv_K l (0 + (i + 1)) : Int) ≤ (q : Int) * ((qv_G l (0 + (i + 1)) + qv_K l (0 + i) + qv_K l (0 + (i + 1)) : Nat) : Int) := by
        rw [← Int.mul_add]
        exact Int.mul_le_mul_of_nonneg_left (by omega) (by omega)
      omega
    · have : (q : Int) * (qv_K l (0 + i) : Int) ≤ (q : Int) * ((qv_G l (0 + (i + 1)) + qv_K l (0 + i) + (if 0 + (i + 1) + 1 < l 0 0 then qv_K l (0 + (i + 1)) else 0) : Nat) : Int) := Int.mul_le_mul_of_nonneg_left (by omega) (by omega)
      omega
theorem qB_high {l : qv_L} (hl : qv_ok l) {q : Nat} (hq : 1 ≤ q) : qB l (qv_top l * q) q 0 (l 0 0) = l 0 0 := by
  have hk : ∀ i, 0 ≤ qkk l q 0 (l 0 0) i := by
    intro i
    unfold qkk
    split
    · exact Int.mul_nonneg (by omega) (by omega)
    · omega
  have e : qB l (qv_top l * q) q 0 (l 0 0) = qm_B (qd l (qv_top l * q) q 0) (fun r => if r = 0 then 0 else qkk l q 0 (l 0 0) (r - 1) * qkk l q 0 (l 0 0) (r - 1)) (l 0 0) := by
    unfold qB qm_B
    rw [qm_st_cong (fun _ _ => rfl) (fun i hi => ?_)]
    unfold qcc qkk
    by_cases z : i = 0
    · rw [if_pos z, if_pos z]
    · rw [if_neg z, if_neg z, if_pos (by omega), show 0 + i - 1 = 0 + (i - 1) by omega]
  -- each diagonal lies below minus what holds
  have hd : ∀ i, i < l 0 0 → qd l (qv_top l * q) q 0 i < -((q : Int) * (qv_H l (0 + i) : Int)) := by
    intro i hi
    have hI := qv_I_bd hl (i := 0 + i) (by omega)
    have hm := qv_mx_ge (l := l) (i := 0 + i) (l 0 0) (by omega)
    have ht : qv_top l = 1 + qv_mx l (l 0 0) := by unfold qv_top; rw [if_neg (by omega)]
    have h1 : 2 * qv_H l (0 + i) < qv_top l * qv_I l (0 + i) := by
      have h2 := Nat.div_add_mod (2 * qv_H l (0 + i)) (qv_I l (0 + i))
      have h3 := Nat.mod_lt (2 * qv_H l (0 + i)) (show 0 < qv_I l (0 + i) by omega)
      have h4 : qv_I l (0 + i) * (2 * qv_H l (0 + i) / qv_I l (0 + i)) + qv_I l (0 + i) ≤ qv_top l * qv_I l (0 + i) := by
        have : qv_I l (0 + i) * (2 * qv_H l (0 + i) / qv_I l (0 + i) + 1) ≤ qv_I l (0 + i) * qv_top l := Nat.mul_le_mul_left _ (by omega)
        rw [Nat.mul_add, Nat.mul_one, Nat.mul_comm _ (qv_top l)] at this
        exact this
      omega
    have h2 : q * (2 * qv_H l (0 + i)) < q * (qv_top l * qv_I l (0 + i)) := Nat.mul_lt_mul_of_pos_left h1 hq
    unfold qd
    have e1 : ((qv_top l * q : Nat) : Int) * (qv_I l (0 + i) : Int) = ((q * (qv_top l * qv_I l (0 + i)) : Nat) : Int) := by
      rw [← Int.natCast_mul]
      congr 1
      rw [Nat.mul_comm (qv_top l) q, Nat.mul_assoc]
    have e2 : ((q * (2 * qv_H l (0 + i)) : Nat) : Int) = 2 * ((q : Int) * (qv_H l (0 + i) : Int)) := by
      rw [← Int.natCast_mul, Nat.mul_left_comm]
      omega
    rw [e1]
    omega
  rw [e]
  refine (qm_high hk (fun i => ?_) (by simp) (fun h0 => ?_) (fun i hi => ?_) (l 0 0) (Nat.le_refl _)).1
  · rw [if_neg (by omega), Nat.add_sub_cancel]
  · have := hd 0 h0
    have h2 : qkk l q 0 (l 0 0) 0 ≤ (q : Int) * (qv_H l (0 + 0) : Int) := by
      unfold qkk
      split
      · rename_i z
        refine Int.mul_le_mul_of_nonneg_left ?_ (by omega)
        unfold qv_H
        rw [if_pos z]
        omega
      · exact Int.mul_nonneg (by omega) (by omega)
    omega
  · have := hd (i + 1) hi
    have h2 : qkk l q 0 (l 0 0) i + qkk l q 0 (l 0 0) (i + 1) ≤ (q : Int) * (qv_H l (0 + (i + 1)) : Int) := by
      unfold qkk
      rw [if_pos hi]
      unfold qv_H
      rw [if_pos (show 0 < 0 + (i + 1) by omega), show 0 + (i + 1) - 1 = 0 + i by omega]
      split
      · rename_i z
        rw [if_pos (by omega), ← Int.mul_add]
        exact Int.mul_le_mul_of_nonneg_left (by omega) (by omega)
      · rw [Int.add_zero]
        exact Int.mul_le_mul_of_nonneg_left (by omega) (by omega)
    omega
