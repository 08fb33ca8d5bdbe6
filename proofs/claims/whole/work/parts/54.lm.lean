/-! ===== the least mass within ===== -/
/-- how many masses have the fence above p -/
def q_lm (l : qv_L) (k r p q : Nat) : Nat := qm_fn (fun v => decide (v = 0 ∨ p < qv_f (ql l 2 k v) r q)) 99
theorem q_lm_le (l : qv_L) (k r p q : Nat) : q_lm l k r p q ≤ 99 := qm_fn_le _ _
theorem q_lm_iff {l : qv_L} (hl : qv_ok l) {k r p q : Nat} (hk : k < l 0 0) (hr : r < l 0 0) (hq : 1 ≤ q) {v : Nat} (h1 : 1 ≤ v) (h2 : v ≤ 99) : p < qv_f (ql l 2 k v) r q ↔ v ≤ q_lm l k r p q := by
  constructor
  · intro h
    rcases Nat.lt_or_ge (q_lm l k r p q) v with z | z
    · have := qm_fn_no (fun v => decide (v = 0 ∨ p < qv_f (ql l 2 k v) r q)) 99 v z h2
      simp at this
      omega
    · exact z
  · intro h
    have y := qm_fn_yes (P := fun v => decide (v = 0 ∨ p < qv_f (ql l 2 k v) r q)) (by simp) 99
    have y : q_lm l k r p q = 0 ∨ p < qv_f (ql l 2 k (q_lm l k r p q)) r q := by
      have := of_decide_eq_true y
      exact this
    rcases y with y | y
    · omega
    · have := ms_f (ok_mass hl hk h1 h2) (ok_mass hl hk (v := q_lm l k r p q) (by omega) (q_lm_le l k r p q)) h hq hr
      omega
theorem l114 (X : q_X) (d : Nat) (l : qv_L) (hl : qv_ok l) (k r p q : Nat) (hk : k < l 0 0) (hr : r < l 0 0) (hp : p ≤ 9999) (hq1 : 1 ≤ q) (hq : q ≤ 16) (h0 : q_S) : ∀ m f u x h, m ≤ 7 → m < f → u ≤ q_lm l k r p q → q_lm l k r p q < u + 2 ^ m → qv_at h 18 (ql l 2 k x) → qr_z h → qc_sc h0 h → ∃ h2 y, q_go e_114 X (q_sem (d + 6)) f 7 [(0, .ref 0), (1, .int (nI k)), (2, .int (nI r)), (3, .int (nI p)), (4, .int (nI q)), (5, .int (nI u)), (6, .int (nI (2 ^ m / 2)))] [] h = some (h2, some (.int (nI (q_lm l k r p q + 1)))) ∧ qv_at h2 18 (ql l 2 k y) ∧ qr_z h2 ∧ qc_sc h0 h2 := by
  have h8 := hl.1
  have h99 := q_lm_le l k r p q
  intro m
  induction m with
  | zero =>
    intro f u x h hm hf h1 h2 ha hz hs
    obtain ⟨f, rfl⟩ : ∃ f2, f = f2 + 1 := ⟨f - 1, by omega⟩
    refine ⟨h, x, ?_, ha, hz, hs⟩
    have e : u = q_lm l k r p q := by omega
    rw [b114_7, if_neg (by decide), e, nI_p1]
  | succ m ih =>
    intro f u x h hm hf h1 h2 ha hz hs
    obtain ⟨f, rfl⟩ : ∃ f2, f = f2 + 1 := ⟨f - 1, by omega⟩
    have hpw : 2 ^ m ≤ 64 := by
      have : 2 ^ m ≤ 2 ^ 6 := Nat.pow_le_pow_right (by decide) (by omega)
      exact this
    have hp0 : 0 < 2 ^ m := Nat.pow_pos (by decide)
    have e2 : 2 ^ (m + 1) / 2 = 2 ^ m := by rw [Nat.pow_succ]; omega
    have e3 : 2 ^ (m + 1) = 2 ^ m + 2 ^ m := by rw [Nat.pow_succ]; omega
    rw [e2]
    have esh : nI (2 ^ m) >>> ((1 : Int32) &&& 31) = nI (2 ^ m / 2) := by
      have := pk_shrN (n := 2 ^ m) (by omega) ((1 : Int32) &&& 31) 1 (by decide)
      exact this
    rw [b114_7, if_pos ((nI_pos_iff (by omega)).mpr hp0), nI_add, esh]
    by_cases z : 99 < u + 2 ^ m
    · rw [if_pos (by rw [show (99 : Int32) = nI 99 from rfl, nI_lt_iff (by omega) (by omega)]; exact z)]
      exact ih f u x h (by omega) (by omega) h1 (by omega) ha hz hs
    · rw [if_neg (by rw [show (99 : Int32) = nI 99 from rfl, nI_lt_iff (by omega) (by omega)]; exact z), q_ix_n (by omega) (by decide)]
      have a1 : qv_at (q_si h 20 k (nI (u + 2 ^ m))) 18 (ql l 2 k (u + 2 ^ m)) := by
        have := at_a (o := 18) (b := 2) (k := k) (v := u + 2 ^ m) (by omega) ha
        rwa [ql_ql2] at this
      have ok := ok_mass hl hk (show 1 ≤ u + 2 ^ m by omega) (show u + 2 ^ m ≤ 99 by omega)
      have e00 : ql l 2 k (u + 2 ^ m) 0 0 = l 0 0 := ql_ne (by omega)
      obtain ⟨h2', g1, g2, g3, g4⟩ := s36z (d + 1) (q_si h 20 k (nI (u + 2 ^ m))) _ ok (Or.inr rfl) a1 hz
      obtain ⟨h3, j1, j2, j3, -⟩ := s37 (d + 3) h2' _ ok (p + 1) q (by omega) hq g2 g4
      have sc := qc_sc_tr hs (qc_sc_tr (qc_si (h := h) (a := 20) (i := k) (x := nI (u + 2 ^ m)) (by omega)) (qc_sc_tr (qc_of g3) (qc_of (qr_fr_sc j2))))
      have a3 := qr_sc_at (qr_sc_tr g3 (qr_fr_sc j2)) (Or.inr (Or.inl rfl)) a1
      have hb := qB_le (ql l 2 k (u + 2 ^ m)) (p + 1) q 0 (ql l 2 k (u + 2 ^ m) 0 0)
      have hi := qv_f_iff ok hq1 (k := r) (by omega) (p + 1)
      have hv := q_lm_iff hl hk hr hq1 (p := p) (show 1 ≤ u + 2 ^ m by omega) (show u + 2 ^ m ≤ 99 by omega)
      rw [g1, q_c0_s, nI_p1 p, j1, q_c1_s]
      by_cases y : r < qB (ql l 2 k (u + 2 ^ m)) (p + 1) q 0 (ql l 2 k (u + 2 ^ m) 0 0)
      · rw [if_pos (nI_lt y (by omega))]
        have n1 : ¬ u + 2 ^ m ≤ q_lm l k r p q := fun w => by
          have := hi.mpr (hv.mpr w)
          omega
        exact ih f u (u + 2 ^ m) h3 (by omega) (by omega) h1 (by omega) a3 j3 sc
      · rw [if_neg (nI_nlt (by omega) (by omega))]
        have := hv.mp (hi.mp (by omega))
        exact ih f (u + 2 ^ m) (u + 2 ^ m) h3 (by omega) (by omega) this (by omega) a3 j3 sc
