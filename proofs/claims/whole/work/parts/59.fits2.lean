theorem l175 (X : q_X) (d : Nat) (l : qv_L) (hl : qv_ok l) (q m : Nat) (hm : m ≤ l 0 0) (hq1 : 1 ≤ q) (hq : q ≤ 16) (r : Nat) (hr : r < 3) (P : Nat → Int64) (h0 : q_S) : ∀ n f k h, k + n = m → n < f → qw_at h l → (∀ i, i < 40 → h.2.1 87 (40 * r + i) = P i) → qw_sc h0 h → ∃ h2, q_go e_175 X (q_sem (d + 4)) f 3 [(0, .ref 67), (1, .int (nI r)), (2, .int (nI m)), (3, .int (nI q)), (4, .int (nI k))] [] h = some (h2, some (.int (q_so l q P n k))) ∧ qw_sc h0 h2 := by
  have h8 := hl.1
  intro n
  induction n with
  | zero =>
    intro f k h hn hf e0 ep e3
    obtain ⟨f, rfl⟩ : ∃ g, f = g + 1 := ⟨f - 1, by omega⟩
    exact ⟨h, by rw [b175_3, if_neg (by rw [nI_lt_iff (by omega) (by omega)]; omega), if_pos (by rw [show k = m by omega])]; rfl, e3⟩
  | succ n ih =>
    intro f k h hn hf e0 ep e3
    obtain ⟨f, rfl⟩ : ∃ g, f = g + 1 := ⟨f - 1, by omega⟩
    obtain ⟨h2, g1, g2⟩ := s133 d h l hl k q hq1 hq (by omega) e0
    have hb := qv_f_bd hl hq k
    have ep2 : ∀ i, i < 40 → h2.2.1 87 (40 * r + i) = P i := fun i hi => (congrFun (g2.2.2 87 (by decide)) _).trans (ep i hi)
    rw [b175_3, if_pos (by rw [nI_lt_iff (by omega) (by omega)]; omega), g1, q_c1_s, show (40 : Int32) = nI 40 from rfl, pk_mul, nI_add, q_ix_n (by omega) (by decide), ep2 k (by omega), nI_L (by omega), nI_p1, q_so]
    by_cases w : P k = iL (qv_f l k q)
    · rw [if_pos ((lg_eq0 _ _).mpr w.symm), if_pos w]
      exact ih f (k + 1) h2 (by omega) (by omega) (qw_sc_at g2 e0) ep2 (qw_sc_tr e3 g2)
    · rw [if_neg (fun e => w ((lg_eq0 _ _).mp e).symm), if_neg w, if_neg (by rw [nI_eq_iff (by omega) (by omega)]; omega)]
      exact ⟨h2, rfl, qw_sc_tr e3 g2⟩
theorem s175 (d : Nat) (l : qv_L) (hl : qv_ok l) (q m : Nat) (hm : m ≤ l 0 0) (hq1 : 1 ≤ q) (hq : q ≤ 16) (r : Nat) (hr : r < 3) (P : Nat → Int64) (h : q_S) (a : qw_at h l) (ep : ∀ i, i < 40 → h.2.1 87 (40 * r + i) = P i) : ∃ h2, q_sem (d + 5) 175 h [.ref 67, .int (nI r), .int (nI m), .int (nI q)] = some (h2, some (.int (q_so l q P m 0))) ∧ qw_sc h h2 := by
  have h8 := hl.1
  rw [m175]
  exact l175 q_X0 d l hl q m hm hq1 hq r hr P h m 999 0 h (by omega) (by omega) a ep (qw_sc_rf h)
