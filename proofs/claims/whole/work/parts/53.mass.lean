/-! ===== fences never rise with mass ===== -/
theorem wg_mono {k m m' s : Nat} (h : m ≤ m') : qv_wg k m s ≤ qv_wg k m' s := by
  unfold qv_wg
  split
  · omega
  split
  · omega
  split
  · omega
  split
  · omega
  · exact h
theorem in_mono {w s v v' : Nat} (hs : s ≤ 9) (h : v ≤ v') : qv_in w s v ≤ qv_in w s v' := by
  obtain ⟨t, rfl⟩ : ∃ t, v' = v + t := ⟨v' - v, by omega⟩
  have e : (v + t) * s = v * s + t * s := Nat.add_mul ..
  have y : t * s ≤ t * 9 := Nat.mul_le_mul_left t hs
  unfold qv_in
  rw [e]
  generalize v * s = a at *
  generalize t * s = b at *
  split
  · omega
  split
  · omega
  · exact h
section QM
variable {l : qv_L} {k v v' : Nat}
theorem ms_fac (i : Nat) : qv_fac (ql l 2 k v) i = qv_fac l i := by
  unfold qv_fac
  rw [ql_rat (by omega)]
theorem ms_K (i : Nat) : qv_K (ql l 2 k v) i = qv_K l i := by
  unfold qv_K
  rw [ms_fac, ql_ne (by omega)]
theorem ms_G (i : Nat) : qv_G (ql l 2 k v) i = qv_G l i := by
  unfold qv_G
  rw [ms_fac, ql_ne (by omega)]
theorem ms_H (i : Nat) : qv_H (ql l 2 k v) i = qv_H l i := by
  unfold qv_H
  rw [ms_G, ms_K, ms_K, ql_ne (by omega)]
theorem ms_I (hs : l 0 1 ≤ 9) (h : v ≤ v') (i : Nat) : qv_I (ql l 2 k v) i ≤ qv_I (ql l 2 k v') i := by
  unfold qv_I qv_w
  rw [ms_fac, ms_fac, ql_ne (a := 2) (b := 0) (by omega), ql_ne (a := 2) (b := 0) (by omega), ql_ne (a := 2) (b := 1) (by omega), ql_ne (a := 2) (b := 0) (by omega), ql_ne (a := 2) (b := 0) (by omega), ql_ne (a := 2) (b := 1) (by omega)]
  refine Nat.mul_le_mul_right _ (in_mono hs (wg_mono ?_))
  simp only [ql]
  split
  · exact h
  · exact Nat.le_refl _
theorem ms_d (hs : l 0 1 ≤ 9) (h : v ≤ v') (p q a r : Nat) : qd (ql l 2 k v') p q a r ≤ qd (ql l 2 k v) p q a r := by
  unfold qd
  rw [ms_H, ms_H]
  have := ms_I (l := l) (k := k) hs h (a + r)
  have : (p : Int) * (qv_I (ql l 2 k v) (a + r) : Int) ≤ (p : Int) * (qv_I (ql l 2 k v') (a + r) : Int) := Int.mul_le_mul_of_nonneg_left (by omega) (by omega)
  omega
theorem ms_c (q a r : Nat) : qcc (ql l 2 k v') q a r = qcc (ql l 2 k v) q a r := by
  unfold qcc
  rw [ms_K, ms_K]
end QM
theorem ms_B {l : qv_L} {k v v' : Nat} (hl : qv_ok (ql l 2 k v)) (h : v ≤ v') {p q : Nat} (hq : 1 ≤ q) : qB (ql l 2 k v) p q 0 (l 0 0) ≤ qB (ql l 2 k v') p q 0 (l 0 0) := by
  have hs : l 0 1 ≤ 9 := by
    have := hl.2.1
    rwa [ql_ne (by omega)] at this
  have e00 : ql l 2 k v 0 0 = l 0 0 := ql_ne (by omega)
  rw [qB_c1, qB_c1]
  have ec : qc1 (ql l 2 k v') q 0 (l 0 0) = qc1 (ql l 2 k v) q 0 (l 0 0) := by
    funext r
    unfold qc1
    rw [ms_c (v := v) (v' := v')]
  rw [ec]
  refine qm_mono' (fun i hi => ?_) ?_ (fun i _ => ms_d hs h p q 0 i)
  · unfold qc1
    split
    · exact qcc_pos hl hq hi (by omega)
    · decide
  · unfold qc1 qcc
    split <;> simp
theorem ms_f {l : qv_L} {k v v' : Nat} (hl : qv_ok (ql l 2 k v)) (hl' : qv_ok (ql l 2 k v')) (h : v ≤ v') {r q : Nat} (hq : 1 ≤ q) (hr : r < l 0 0) : qv_f (ql l 2 k v') r q ≤ qv_f (ql l 2 k v) r q := by
  have e00 : ql l 2 k v 0 0 = l 0 0 := ql_ne (by omega)
  have e00' : ql l 2 k v' 0 0 = l 0 0 := ql_ne (by omega)
  have a := (qv_f_iff hl' hq (k := r) (by omega) (qv_f (ql l 2 k v') r q)).mpr (Nat.le_refl _)
  rw [e00'] at a
  refine (qv_f_iff hl hq (k := r) (by omega) _).mp ?_
  rw [e00]
  exact Nat.le_trans (ms_B hl h hq) a
