/-! ===== the class's rates: below, fences ===== -/
theorem q_ix_0 {n : Nat} {f : Nat → q_A} (h : 0 < n) : q_ix 0 n f = f 0 := by
  unfold q_ix
  rw [if_neg]
  · rfl
  · rintro (q | q)
    · exact absurd q (by decide)
    · exact absurd (Nat.lt_of_lt_of_le h q) (by decide)
def qd (l : qv_L) (p q a : Nat) (r : Nat) : Int := (q : Int) * (qv_H l (a + r) : Int) - (p : Int) * (qv_I l (a + r) : Int)
def qcc (l : qv_L) (q a : Nat) (r : Nat) : Int := if r = 0 then 0 else ((q : Int) * (qv_K l (a + r - 1) : Int)) * ((q : Int) * (qv_K l (a + r - 1) : Int))
def qE (l : qv_L) (p q a r : Nat) : Int := (qm_E (qd l p q a) (qcc l q a) r).1
def qB (l : qv_L) (p q a r : Nat) : Nat := qm_B (qd l p q a) (qcc l q a) r
theorem qd_bd {l : qv_L} (hl : qv_ok l) {p q a r : Nat} (hp : p ≤ 10000) (hq : q ≤ 16) (hr : a + r < l 0 0) : -137160000 ≤ qd l p q a r ∧ qd l p q a r ≤ 137160000 := by
  have h1 := qv_H_bd hl hr
  have h2 := qv_I_bd hl hr
  have e1 : q * qv_H l (a + r) ≤ 16 * 10692 := Nat.mul_le_mul hq h1
  have e2 : p * qv_I l (a + r) ≤ 10000 * 13716 := Nat.mul_le_mul hp h2.2
  unfold qd
  rw [← Int.natCast_mul, ← Int.natCast_mul]
  omega
theorem qcc_bd {l : qv_L} (hl : qv_ok l) {q a r : Nat} (hq : q ≤ 16) (hr : a + r < l 0 0) : 0 ≤ qcc l q a r ∧ qcc l q a r ≤ 3251736576 := by
  unfold qcc
  split
  · omega
  · have h1 := qv_K_bd hl (i := a + r - 1) (by omega)
    have e1 : q * qv_K l (a + r - 1) ≤ 16 * 3564 := Nat.mul_le_mul hq h1.2
    have e2 := Nat.mul_le_mul e1 e1
    rw [← Int.natCast_mul, ← Int.natCast_mul]
    omega
theorem qcc_pos {l : qv_L} (hl : qv_ok l) {q a r : Nat} (hq : 1 ≤ q) (h0 : 0 < r) (hr : a + r < l 0 0) : 0 < qcc l q a r := by
  unfold qcc
  rw [if_neg (by omega)]
  have h1 := qv_K_bd hl (i := a + r - 1) (by omega)
  have e1 : 0 < q * qv_K l (a + r - 1) := Nat.mul_pos hq h1.1
  have e2 := Nat.mul_pos e1 e1
  rw [← Int.natCast_mul, ← Int.natCast_mul]
  omega
theorem qE_bd {l : qv_L} (hl : qv_ok l) {p q a n : Nat} (hp : p ≤ 10000) (hq : q ≤ 16) (hn : a + n ≤ l 0 0) {r : Nat} (hr : r ≤ n) : -((268435456 : Int) ^ r) ≤ qE l p q a r ∧ qE l p q a r ≤ (268435456 : Int) ^ r :=
  (qm_bd (M := 137160000) (C := 3251736576) (B := 268435456) (n := n) (by decide) (fun i hi => qd_bd hl hp hq (by omega)) (fun i hi => qcc_bd hl hq (by omega)) (by decide) (by decide) (by decide) r hr).1
theorem qE_30 {l : qv_L} (hl : qv_ok l) {p q a n : Nat} (hp : p ≤ 10000) (hq : q ≤ 16) (hn : a + n ≤ l 0 0) {r : Nat} (hr : r ≤ n) : -(qw30 ^ (max r 1)) ≤ qE l p q a r ∧ qE l p q a r < qw30 ^ (max r 1) := by
  have h := qE_bd hl hp hq hn hr
  have h8 := hl.1
  have t : ∀ r, r < 9 → (268435456 : Int) ^ r < qw30 ^ (max r 1) := by decide
  have := t r (by omega)
  omega
theorem qE_0 (l : qv_L) (p q a : Nat) : qE l p q a 0 = 1 := rfl
theorem qE_s (l : qv_L) (p q a r : Nat) : qE l p q a (r + 1) = qd l p q a r * qE l p q a r - qcc l q a r * qE l p q a (r - 1) := by
  unfold qE
  cases r with
  | zero => simp [qm_E, qcc]
  | succ r => rfl
theorem qB_s (l : qv_L) (p q a r : Nat) : qB l p q a (r + 1) = if qm_sg (qB l p q a r) * qE l p q a (r + 1) < 0 then qB l p q a r + 1 else qB l p q a r := by
  have h := qm_E_st (qd l p q a) (qcc l q a) r
  have e : qm_sg (qB l p q a r) * qE l p q a (r + 1) = qd l p q a r * (qm_st (qd l p q a) (qcc l q a) r).1 - qcc l q a r * (qm_st (qd l p q a) (qcc l q a) r).2.1 := by
    unfold qE qB
    simp only [qm_E]
    rw [h.1, h.2]
    have s := qm_sg_sq (qm_B (qd l p q a) (qcc l q a) r)
    generalize qm_sg (qm_B (qd l p q a) (qcc l q a) r) = g at *
    grind
  rw [e]
  unfold qB qm_B
  simp only [qm_st]
  split <;> rfl
theorem qB_le (l : qv_L) (p q a r : Nat) : qB l p q a r ≤ r := qm_B_le ..
def qr_S : List Nat := [48, 49, 50, 51, 52, 53, 54, 55, 56]
theorem qr_at_fr {h h2 : q_S} {l : qv_L} (hf : qr_fr qr_S h h2) (ha : qr_at h l) : qr_at h2 l := by
  unfold qr_at
  rw [hf.1, hf.2.2 44 (by decide), hf.2.2 45 (by decide), hf.2.2 46 (by decide)]
  exact ha
theorem iI_sg (k : Nat) : iI (qm_sg k) = if k % 2 = 0 then 1 else -1 := by
  unfold qm_sg
  split <;> rfl
theorem qr_turn (k : Nat) (E : Int) : qr_sgn E = -iI (qm_sg k) ↔ qm_sg k * E < 0 := by
  rw [iI_sg]
  unfold qr_sgn qm_sg
  by_cases hk : k % 2 = 0
  · rw [if_pos hk, if_pos hk]
    rcases Int.lt_trichotomy E 0 with q | q | q
    · rw [if_pos q]; constructor <;> intro <;> first | omega | decide
    · rw [if_neg (by omega), if_pos q]; constructor
      · intro z; exact absurd z (by decide)
      · intro z; omega
    · rw [if_neg (by omega), if_neg (by omega)]; constructor
      · intro z; exact absurd z (by decide)
      · intro z; omega
  · rw [if_neg hk, if_neg hk]
    rcases Int.lt_trichotomy E 0 with q | q | q
    · rw [if_pos q]; constructor
      · intro z; exact absurd z (by decide)
      · intro z; omega
    · rw [if_neg (by omega), if_pos q]; constructor
      · intro z; exact absurd z (by decide)
      · intro z; omega
    · rw [if_neg (by omega), if_neg (by omega)]; constructor <;> intro <;> first | omega | decide
theorem l38 (X : q_X) (d : Nat) (l : qv_L) (hl : qv_ok l) (p q a n : Nat) (hp : p ≤ 10000) (hq : q ≤ 16) (hn : a + n ≤ l 0 0) (h0 : q_S) : ∀ m f r h, r + m = n → 2 * m < f → qr_at h l → qr_z h → qr_fr qr_S h0 h → (∀ i, i ≤ r → qr_row h i (qE l p q a i)) →
    ∃ h2, q_go e_38 X (q_sem (d + 1)) f 18 [(0, .ref 43), (1, .int (nI a)), (2, .int (iI ((a + n : Nat) - 1))), (3, .int (nI p)), (4, .int (nI q)), (5, .int (nI (qB l p q a r))), (6, .int (iI (qm_sg (qB l p q a r)))), (7, .int (nI (a + r)))] [] h = some (h2, some (.int (nI (qB l p q a n)))) ∧ qr_fr qr_S h0 h2 ∧ qr_z h2 ∧ ∀ i, i ≤ n → qr_row h2 i (qE l p q a i) := by
  have h8 := hl.1
  intro m
  induction m with
  | zero =>
    intro f r h hr hf ha hz hfr hrow
    obtain ⟨f, rfl⟩ : ∃ f2, f = f2 + 1 := ⟨f - 1, by omega⟩
    have e : r = n := by omega
    subst e
    refine ⟨h, ?_, hfr, hz, hrow⟩
    rw [b38_18, if_pos]
    rw [nI_iI, iI_lt (by omega) (by omega) (by omega) (by omega)]
    omega
  | succ m ih =>
    intro f r h hr hf ha hz hfr hrow
    obtain ⟨f, rfl⟩ : ∃ f2, f = f2 + 2 := ⟨f - 2, by omega⟩
    have hlt : a + r < l 0 0 := by omega
    have bI := qv_I_bd hl hlt
    have bH := qv_H_bd hl hlt
    obtain ⟨aI, aH, aK⟩ := ha.2 (a + r) hlt
    have hB := qB_le l p q a r
    have ebd := qE_30 hl hp hq hn (r := r) (by omega)
    have ebd1 := qE_30 hl hp hq hn (r := r - 1) (by omega)
    have ebd2 := qE_30 hl hp hq hn (r := r + 1) (by omega)
    have dbd := qd_bd hl hp hq hlt
    have cbd := qcc_bd hl hq hlt
    obtain ⟨h2, g1, g2, g3, g4⟩ := s39 d h r (by omega) (qd l p q a r) (qE l p q a r) (qcc l q a r) (qE l p q a (r - 1)) ⟨by omega, by omega⟩ ⟨by omega, by omega⟩ (fun e => by subst e; rfl) ebd.1 ebd.2 (fun _ => ebd1.1) (fun _ => ebd1.2) (fun e => by subst e; rfl) hz (hrow r (Nat.le_refl _)) (fun _ => hrow (r - 1) (by omega))
    rw [← qE_s] at g2
    have hS : ∀ x ∈ [48 + (r + 1)], x ∈ qr_S := by
      intro x hx
      have hx : x = 48 + (r + 1) := List.mem_singleton.mp hx
      have t : ∀ i, i < 9 → 48 + i ∈ qr_S := by decide
      rw [hx]
      exact t (r + 1) (by omega)
    have g3' := qr_fr_mono g3 hS
    have g5 := s40 d h2 (r + 1) (by omega) (qE l p q a (r + 1)) ebd2.1 ebd2.2 (fun e => absurd e (by omega)) g2
    have hrow2 : ∀ i, i ≤ r + 1 → qr_row h2 i (qE l p q a i) := by
      intro i hi
      rcases Nat.lt_or_ge i (r + 1) with z | z
      · intro j hj
        rw [g3.2.2 (48 + i) (by simp; omega)]
        exact hrow i (by omega) j hj
      · have : i = r + 1 := by omega
        rw [this]
        exact g2
    have et : (nI q).toInt64 * h.2.1 45 (a + r) - (nI p).toInt64 * h.2.1 44 (a + r) = iL (qd l p q a r) := by
      rw [aI, aH, nI_L (by omega), nI_L (by omega), iL_mul, iL_mul, iL_sub]
      rfl
    have hge : ¬ iI ((a + n : Nat) - 1) < nI (a + r) := by
      rw [nI_iI, iI_lt (by omega) (by omega) (by omega) (by omega)]
      omega
    have hidx : nI (a + r) - nI a = nI r := by
      rw [pk_sub (by omega)]
      congr 1
      omega
    -- behind the link: one row more
    have key : ∀ s : Int64, s * s = iL (qcc l q a r) → ∃ h3, q_go e_38 X (q_sem (d + 1)) (f + 1) 71 [(0, .ref 43), (1, .int (nI a)), (2, .int (iI ((a + n : Nat) - 1))), (3, .int (nI p)), (4, .int (nI q)), (5, .int (nI (qB l p q a r))), (6, .int (iI (qm_sg (qB l p q a r)))), (7, .int (nI (a + r))), (8, .long (iL (qd l p q a r)))] [.long s] h = some (h3, some (.int (nI (qB l p q a n)))) ∧ qr_fr qr_S h0 h3 ∧ qr_z h3 ∧ ∀ i, i ≤ n → qr_row h3 i (qE l p q a i) := by
      intro s hs
      obtain ⟨h3, k1, k2⟩ := ih f (r + 1) h2 (by omega) (by omega) (qr_at_fr g3' ha) g4 (qr_fr_tr hfr g3') hrow2
      refine ⟨h3, ?_, k2⟩
      rw [← k1, b38_71, hs, hidx, g1, q_c0_s, nI_p1, g5, q_c1_s]
      have hb := qB_s l p q a r
      have ht := qr_turn (qB l p q a r) (qE l p q a (r + 1))
      by_cases z : qm_sg (qB l p q a r) * qE l p q a (r + 1) < 0
      · rw [if_pos z] at hb
        rw [if_pos (ht.mpr z), ht.mpr z, hb, qm_sg_s, iI_neg, nI_p1, nI_p1]
        rfl
      · rw [if_neg z] at hb
        rw [if_neg (fun y => z (ht.mp y)), hb, nI_p1]
        rfl
    rw [b38_18, if_neg hge, q_ix_n (by omega) (by decide), q_ix_n (by omega) (by decide)]
    by_cases z : 0 < r
    · rw [if_pos (nI_lt (by omega) (by omega))]
      obtain ⟨k, rfl⟩ : ∃ k, r = k + 1 := ⟨r - 1, by omega⟩
      have bK := qv_K_bd hl (i := a + k) (by omega)
      have aK := (ha.2 (a + k) (by omega)).2.2 (by omega)
      rw [show nI (a + (k + 1)) - 1 = nI (a + k) from nI_m1 _, q_ix_n (by omega) (by decide), et]
      have es : ((nI q).toInt64 * h.2.1 46 (a + k)) * ((nI q).toInt64 * h.2.1 46 (a + k)) = iL (qcc l q a (k + 1)) := by
        rw [aK, nI_L (by omega), iL_mul, iL_mul]
        unfold qcc
        rw [if_neg (by omega)]
        rfl
      exact key _ es
    · have z0 : r = 0 := by omega
      subst z0
      rw [if_neg (nI_nlt (by omega) (by omega)), et]
      exact key _ (by rfl)
theorem s38 (d : Nat) (h : q_S) (l : qv_L) (hl : qv_ok l) (p q a n : Nat) (hp : p ≤ 10000) (hq : q ≤ 16) (hn : a + n ≤ l 0 0) (ha : qr_at h l) (hz : qr_z h) :
    ∃ h2, q_sem (d + 2) 38 h [.ref 43, .int (nI a), .int (iI ((a + n : Nat) - 1)), .int (nI p), .int (nI q)] = some (h2, some (.int (nI (qB l p q a n)))) ∧ qr_fr qr_S h h2 ∧ qr_z h2 ∧ ∀ i, i ≤ n → qr_row h2 i (qE l p q a i) := by
  have h8 := hl.1
  have hf1 : qr_fr qr_S h (q_sl h 48 0 (Int64.ofNat 1)) := qr_fr_sl (by decide)
  have hz1 : qr_z (q_sl h 48 0 (Int64.ofNat 1)) := by
    intro r j hj h9
    rw [qr_sl_ne (by omega)]
    exact hz r j hj h9
  obtain ⟨h2, g1, g2⟩ := l38 q_X0 d l hl p q a n hp hq hn h n 999 0 (q_sl h 48 0 (Int64.ofNat 1)) (by omega) (by omega) (qr_at_fr hf1 ha) hz1 hf1 (fun i hi => by
    have : i = 0 := by omega
    subst this
    exact qr_row0 hz1 (by simp [q_sl]; rfl))
  refine ⟨h2, ?_, g2⟩
  rw [m38]
  have lb := q_lb (j := 0) (by omega)
  rw [q_ix_0 (by decide), lb.1, lb.2.1, lb.2.2, q_b11, q_ix_0 (by decide)]
  exact g1
/-- none: the last ahead of the first -/
theorem s38n (d : Nat) (h : q_S) (p q : Int32) (a : Nat) (z : Int) (ha : a ≤ 8) (hz : z < a) (hz2 : -10 ≤ z) (hzz : qr_z h) : ∃ h2, q_sem (d + 2) 38 h [.ref 43, .int (nI a), .int (iI z), .int p, .int q] = some (h2, some (.int 0)) ∧ qr_fr qr_S h h2 ∧ qr_z h2 ∧ qr_row h2 0 1 := by
  have hz1 : qr_z (q_sl h 48 0 (Int64.ofNat 1)) := by
    intro r j hj h9
    rw [qr_sl_ne (by omega)]
    exact hzz r j hj h9
  refine ⟨q_sl h 48 0 (Int64.ofNat 1), ?_, qr_fr_sl (by decide), hz1, qr_row0 hz1 (by simp [q_sl]; rfl)⟩
  rw [m38]
  have lb := q_lb (j := 0) (by omega)
  rw [q_ix_0 (by decide), lb.1, lb.2.1, lb.2.2, q_b11, q_ix_0 (by decide)]
  show q_go e_38 q_X0 (q_sem (d + 1)) (998 + 1) _ _ _ _ = _
  rw [b38_18, if_pos]
  rw [nI_iI, iI_lt (by omega) (by omega) (by omega) (by omega)]
  exact hz
