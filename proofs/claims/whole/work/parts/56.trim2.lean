theorem tr_D {l : qv_L} {k r p q v : Nat} (h : p ≤ qv_f (ql l 2 k v) r q) : q_ds l k r p q v = qv_f (ql l 2 k v) r q - p := by
  unfold q_ds
  rw [if_neg (by omega)]
theorem tr_E {l : qv_L} {k r p q v : Nat} (h : qv_f (ql l 2 k v) r q ≤ p) : q_ds l k r p q v = p - qv_f (ql l 2 k v) r q := by
  unfold q_ds
  split <;> omega
theorem tr_A {l : qv_L} (hl : qv_ok l) {k r p q : Nat} (hk : k < l 0 0) (hr : r < l 0 0) (hq : 1 ≤ q) (h99 : q_lm l k r p q + 1 ≤ 99) (hc : q_lm l k r p q = 0 ∨ p - qv_f (ql l 2 k (q_lm l k r p q + 1)) r q < qv_f (ql l 2 k (q_lm l k r p q)) r q - p) : q_am (q_ds l k r p q) 99 = q_lm l k r p q + 1 ∧ q_ds l k r p q (q_lm l k r p q + 1) = p - qv_f (ql l 2 k (q_lm l k r p q + 1)) r q := by
  have iff := fun v (h1 : 1 ≤ v) (h2 : v ≤ 99) => q_lm_iff hl hk hr hq (p := p) h1 h2
  have mono := fun v v' (h1 : 1 ≤ v) (h2 : v ≤ v') (h3 : v' ≤ 99) => ms_f (ok_mass hl hk h1 (by omega)) (ok_mass hl hk (show 1 ≤ v' by omega) h3) h2 hq hr
  generalize q_lm l k r p q = c at *
  have fM : qv_f (ql l 2 k (c + 1)) r q ≤ p := by
    have := iff (c + 1) (by omega) h99
    omega
  have eM := tr_E fM
  refine ⟨q_am_eq _ (by omega) h99 (fun v h1 h2 => ?_) (fun v h1 h2 => ?_), eM⟩
  · rw [eM]
    by_cases z : v ≤ c
    · have a := (iff v h1 h2).mpr z
      have b := mono v c h1 z (by omega)
      rw [tr_D (by omega)]
      omega
    · have b := mono (c + 1) v (by omega) (by omega) h2
      rw [tr_E (by omega)]
      omega
  · rw [eM]
    have a := (iff v h1 (by omega)).mpr (by omega)
    have b := mono v c h1 (by omega) (by omega)
    rw [tr_D (by omega)]
    omega
theorem tr_B {l : qv_L} (hl : qv_ok l) {k r p q : Nat} (hk : k < l 0 0) (hr : r < l 0 0) (hq : 1 ≤ q) (c : Nat) (ec : c = q_lm l k r p q) (h1c : 1 ≤ c) (hc : c = 99 ∨ qv_f (ql l 2 k c) r q - p ≤ p - qv_f (ql l 2 k (c + 1)) r q) : q_am (q_ds l k r p q) 99 = q_lm l k r (qv_f (ql l 2 k c) r q) q + 1 ∧ q_ds l k r p q (q_lm l k r (qv_f (ql l 2 k c) r q) q + 1) = qv_f (ql l 2 k c) r q - p := by
  have c99 : c ≤ 99 := by rw [ec]; exact q_lm_le ..
  have iff : ∀ v, 1 ≤ v → v ≤ 99 → (p < qv_f (ql l 2 k v) r q ↔ v ≤ c) := fun v h1 h2 => by rw [ec]; exact q_lm_iff hl hk hr hq h1 h2
  have mono := fun v v' (h1 : 1 ≤ v) (h2 : v ≤ v') (h3 : v' ≤ 99) => ms_f (ok_mass hl hk h1 (by omega)) (ok_mass hl hk (show 1 ≤ v' by omega) h3) h2 hq hr
  have iff2 := fun v (h1 : 1 ≤ v) (h2 : v ≤ 99) => q_lm_iff hl hk hr hq (p := qv_f (ql l 2 k c) r q) h1 h2
  have fc := (iff c h1c c99).mpr (Nat.le_refl _)
  generalize eo : qv_f (ql l 2 k c) r q = o at *
  generalize q_lm l k r o q = b at *
  have b1 : b + 1 ≤ c := by
    have := iff2 c h1c c99
    omega
  have f1 := iff2 (b + 1) (by omega) (by omega)
  have f2 := mono (b + 1) c (by omega) b1 c99
  have fb : qv_f (ql l 2 k (b + 1)) r q = o := by omega
  have eM : q_ds l k r p q (b + 1) = o - p := by rw [tr_D (by omega), fb]
  refine ⟨q_am_eq _ (by omega) (by omega) (fun v h1 h2 => ?_) (fun v h1 h2 => ?_), eM⟩
  · rw [eM]
    by_cases z : v ≤ c
    · have a := (iff v h1 h2).mpr z
      have d := mono v c h1 z c99
      rw [tr_D (by omega)]
      omega
    · have d := mono (c + 1) v (by omega) (by omega) h2
      have a := iff (c + 1) (by omega) (by omega)
      rw [tr_E (by omega)]
      omega
  · rw [eM]
    have a := (iff2 v h1 (by omega)).mpr (by omega)
    rw [tr_D (by omega)]
    omega
theorem s113 (d : Nat) (l : qv_L) (hl : qv_ok l) {k r q v x : Nat} (hk : k < l 0 0) (hr : r < l 0 0) (h1 : 1 ≤ v) (h2 : v ≤ 99) (hq1 : 1 ≤ q) (hq : q ≤ 16) {h : q_S} (a : qv_at h 18 (ql l 2 k x)) (hz : qr_z h) : ∃ h2, q_sem (d + 7) 113 h [.ref 0, .int (nI k), .int (nI v), .int (nI r), .int (nI q)] = some (h2, some (.int (nI (qv_f (ql l 2 k v) r q)))) ∧ qv_at h2 18 (ql l 2 k v) ∧ qr_z h2 ∧ qc_sc h h2 := by
  have h8 := hl.1
  have a1 : qv_at (q_si h 20 k (nI v)) 18 (ql l 2 k v) := by
    have := at_a (o := 18) (b := 2) (k := k) (v := v) (by omega) a
    rwa [ql_ql2] at this
  have e00 : ql l 2 k v 0 0 = l 0 0 := ql_ne (by omega)
  obtain ⟨h3, g1, g2, g3⟩ := s112t d (q_si h 20 k (nI v)) _ (ok_mass hl hk h1 h2) r q hq1 hq (by omega) a1 hz
  exact ⟨h3, by rw [m113, q_ix_n (by omega) (by decide), g1, q_c1_s], qr_sc_at g2 (Or.inr (Or.inl rfl)) a1, g3, qc_sc_tr (qc_si (by omega)) (qc_of g2)⟩
theorem s114 (d : Nat) (l : qv_L) (hl : qv_ok l) {k r p q x : Nat} (hk : k < l 0 0) (hr : r < l 0 0) (hp : p ≤ 9999) (hq1 : 1 ≤ q) (hq : q ≤ 16) {h : q_S} (a : qv_at h 18 (ql l 2 k x)) (hz : qr_z h) : ∃ h2 y, q_sem (d + 7) 114 h [.ref 0, .int (nI k), .int (nI r), .int (nI p), .int (nI q)] = some (h2, some (.int (nI (q_lm l k r p q + 1)))) ∧ qv_at h2 18 (ql l 2 k y) ∧ qr_z h2 ∧ qc_sc h h2 := by
  have h99 := q_lm_le l k r p q
  obtain ⟨h2, y, g1, g2⟩ := l114 q_X0 d l hl k r p q hk hr hp hq1 hq h 7 999 0 x h (by omega) (by omega) (by omega) (by omega) a hz (qc_sc_rf h)
  refine ⟨h2, y, ?_, g2⟩
  rw [m114]
  exact g1
