/-! ===== read: the class takes an act ===== -/
def tp_C (h : q_S) (n : Nat) (X : Nat → Int32) : Prop := h.1 57 1 = nI n ∧ ∀ i, i < n → h.1 58 i = X i
theorem tc_fr {h h2 : q_S} {n : Nat} {X : Nat → Int32} (t : tp_C h n X) (u : ∀ b c, (b = 57 ∧ c = 1) ∨ b = 58 → h2.1 b c = h.1 b c) : tp_C h2 n X := ⟨(u _ _ (by omega)).trans t.1, fun i hi => (u _ _ (by omega)).trans (t.2 i hi)⟩
theorem e60 {X : Nat → Int32} {n : Nat} (hn : n ≤ 80) (hX : ∀ i, n ≤ i → X i = -1) (d f : Nat) {h : q_S} (t : tp_C h n X) {i : Nat} (hi : i ≤ n) (e : h.1 57 2 = nI i) (g : ¬ qg_f (X i)) (x : Int32) : q_go e_60 q_X0 (q_sem (d + 1)) (f + 1) 2 [(0, .ref 57), (1, .int x)] [] h = some (q_si h 57 2 (nI (i + 1)), some (.int x)) := by
  rw [b60_2, e, t.1]
  by_cases il : i < n
  · rw [if_pos (by rw [nI_lt_iff (by omega) (by omega)]; exact il), q_ix_n (by omega) (by decide), t.2 i il, s57n _ _ g, q_c1_s, if_pos rfl, e, nI_p1]
  · rw [if_neg (by rw [nI_lt_iff (by omega) (by omega)]; exact il), nI_p1]
theorem f60 {X : Nat → Int32} {n : Nat} (hn : n ≤ 80) (hX : ∀ i, n ≤ i → X i = -1) (d f : Nat) {h : q_S} (t : tp_C h n X) {i : Nat} (e : h.1 57 2 = nI i) (g : qg_f (X i)) (x : Int32) : q_go e_60 q_X0 (q_sem (d + 1)) (f + 1) 2 [(0, .ref 57), (1, .int x)] [] h = q_go e_60 q_X0 (q_sem (d + 1)) f 2 [(0, .ref 57), (1, .int (x * 10 + X i - 48))] [] (q_si h 57 2 (nI (i + 1))) := by
  have il := f_lt hX g
  rw [b60_2, e, t.1, if_pos (by rw [nI_lt_iff (by omega) (by omega)]; exact il), q_ix_n (by omega) (by decide), t.2 i il, s57p _ _ g, q_c1_s, if_neg (by decide), e, q_ix_n (by omega) (by decide), t.2 i il, nI_p1]
theorem s60 {X : Nat → Int32} {n : Nat} (hn : n ≤ 80) (hX : ∀ i, n ≤ i → X i = -1) (d : Nat) {h : q_S} (t : tp_C h n X) {i : Nat} (e : h.1 57 2 = nI i) (g : qg_f (X i)) (ge : ¬ qg_f (X (qd_ne X i))) : ∃ h2, q_sem (d + 2) 60 h [.ref 57] = some (h2, some (.int (qd_nv X i))) ∧ h2.1 57 2 = nI (qd_ne X i + 1) ∧ (∀ b c, ¬ (b = 57 ∧ c = 2) → h2.1 b c = h.1 b c) ∧ h2.2 = h.2 := by
  have il := f_lt hX g
  have t2 : tp_C (q_si h 57 2 (nI (i + 1))) n X := tc_fr t (fun b c q => qw_si_ne (by omega))
  by_cases g2 : qg_f (X (i + 1))
  · have il2 := f_lt hX g2
    have t3 : tp_C (q_si (q_si h 57 2 (nI (i + 1))) 57 2 (nI (i + 1 + 1))) n X := tc_fr t2 (fun b c q => qw_si_ne (by omega))
    rw [ne_p g2] at ge ⊢
    refine ⟨q_si (q_si (q_si h 57 2 (nI (i + 1))) 57 2 (nI (i + 1 + 1))) 57 2 (nI (i + 2 + 1)), ?_, qw_si_eq .., fun b c q => by rw [qw_si_ne (by omega), qw_si_ne (by omega), qw_si_ne (by omega)], rfl⟩
    rw [m60, f60 hn hX d 998 t e g, f60 hn hX d 997 t2 (qw_si_eq ..) g2, e60 hn hX d 996 t3 (i := i + 2) (by omega) (qw_si_eq ..) ge, qd_nv, if_pos g2, Int32.zero_mul, Int32.zero_add, Int32.mul_comm]
  · rw [ne_n g2] at ge ⊢
    refine ⟨q_si (q_si h 57 2 (nI (i + 1))) 57 2 (nI (i + 1 + 1)), ?_, qw_si_eq .., fun b c q => by rw [qw_si_ne (by omega), qw_si_ne (by omega)], rfl⟩
    rw [m60, f60 hn hX d 998 t e g, e60 hn hX d 997 t2 (i := i + 1) (by omega) (qw_si_eq ..) ge, qd_nv, if_neg g2, Int32.zero_mul, Int32.zero_add]
def fr_C (h h2 : q_S) (j : Nat) : Prop := (∀ b c, ¬ (b = 57 ∧ c = 2) → ¬ (b = 59 ∧ j ≤ c) → h2.1 b c = h.1 b c) ∧ h2.2 = h.2
theorem l59 {X : Nat → Int32} {n : Nat} (hn : n ≤ 80) (hX : ∀ i, n ≤ i → X i = -1) (d K : Nat) (hK : K ≤ 3) (x1 : Int32) : ∀ m j i f h e, j + (m + 1) = K → m + 2 < f → tp_C h n X → h.1 57 2 = nI i → qd_ns X (m + 1) i = .inr e → ¬ qg_f (X e) → ∃ h2, q_go e_59 q_X0 (q_sem (d + 2)) f 27 [(0, .ref 57), (1, .int x1), (2, .int (nI K)), (3, .int (nI j))] [] h = some (h2, some (.int x1)) ∧ h2.1 57 2 = nI (e + 1) ∧ (∀ u, u ≤ m → h2.1 59 (j + u) = qd_nw X u i) ∧ fr_C h h2 j := by
  have kn : 1 ≤ K → ¬ nI K = 0 := fun q => by rw [show (0 : Int32) = nI 0 from rfl, nI_eq_iff (by omega) (by omega)]; omega
  have go : ∀ (j f : Nat) (h h1 : q_S) (v : Int32), j < K → q_sem (d + 2) 60 h [.ref 57] = some (h1, some (.int v)) → q_go e_59 q_X0 (q_sem (d + 2)) (f + 1) 27 [(0, .ref 57), (1, .int x1), (2, .int (nI K)), (3, .int (nI j))] [] h = q_go e_59 q_X0 (q_sem (d + 2)) f 27 [(0, .ref 57), (1, .int x1), (2, .int (nI K)), (3, .int (nI (j + 1)))] [] (q_si h1 59 j v) := by
    intro j f h h1 v hj s
    rw [b59_27, if_pos (by rw [nI_lt_iff (by omega) (by omega)]; exact hj), if_pos (by rw [show Int32.ofNat 3 = nI 3 from rfl, nI_lt_iff (by omega) (by omega)]; omega), s, q_c1_s, q_ix_n (by omega) (by decide), nI_p1]
  intro m
  induction m with
  | zero =>
    intro j i f h e hj hf t e2 hs ge
    rw [qd_ns] at hs
    by_cases g : qg_f (X i)
    · rw [if_pos g, if_pos rfl] at hs
      injection hs with hs
      subst hs
      obtain ⟨h1, s1, s2, s3, s4⟩ := s60 hn hX d t e2 g ge
      obtain ⟨f, rfl⟩ : ∃ g, f = g + 1 + 1 + 1 := ⟨f - 3, by omega⟩
      refine ⟨q_si h1 59 j (qd_nv X i), ?_, by rw [qw_si_ne (by omega), s2], fun u hu => ?_, fun b c p q => by rw [qw_si_ne (by omega), s3 _ _ (by omega)], s4⟩
      · rw [go j (f + 1 + 1) h h1 _ (by omega) s1, b59_27, if_neg (by rw [nI_lt_iff (by omega) (by omega)]; omega), b59_57, if_neg (kn (by omega))]
      · have : u = 0 := by omega
        subst this
        rw [Nat.add_zero, qw_si_eq]
        rfl
    · rw [if_neg g] at hs
      cases hs
  | succ m ih =>
    intro j i f h e hj hf t e2 hs ge
    rw [qd_ns] at hs
    by_cases g : qg_f (X i)
    · rw [if_pos g, if_neg (by omega)] at hs
      by_cases q : X (qd_ne X i) = 44
      · rw [if_pos q] at hs
        obtain ⟨h1, s1, s2, s3, s4⟩ := s60 hn hX d t e2 g (by rw [q]; exact nf_44)
        obtain ⟨f, rfl⟩ : ∃ g, f = g + 1 := ⟨f - 1, by omega⟩
        obtain ⟨h2, i1, i2, i3, i4⟩ := ih (j + 1) (qd_ne X i + 1) f (q_si h1 59 j (qd_nv X i)) e (by omega) (by omega) (tc_fr t (fun b c q => by rw [qw_si_ne (by omega), s3 _ _ (by omega)])) (by rw [qw_si_ne (by omega), s2]) hs ge
        refine ⟨h2, ?_, i2, fun u hu => ?_, fun b c p q => by rw [i4.1 _ _ p (by omega), qw_si_ne (by omega), s3 _ _ (by omega)], i4.2.trans s4⟩
        · rw [go j f h h1 _ (by omega) s1]
          exact i1
        · cases u with
          | zero =>
            rw [i4.1 _ _ (by omega) (by omega), Nat.add_zero, qw_si_eq]
            rfl
          | succ u =>
            rw [show j + (u + 1) = j + 1 + u by omega, i3 u (by omega)]
            rfl
      · rw [if_neg q] at hs
        cases hs
    · rw [if_neg g] at hs
      cases hs
theorem s59 {X : Nat → Int32} {n : Nat} (hn : n ≤ 80) (hX : ∀ i, n ≤ i → X i = -1) (d : Nat) {h : q_S} (t : tp_C h n X) {i e : Nat} (e2 : h.1 57 2 = nI i) (hq : qd_ac X i = .inr e) (ge : ¬ qg_f (X e)) : ∃ h2, q_sem (d + 3) 59 h [.ref 57] = some (h2, some (.int (X i))) ∧ h2.1 57 2 = nI (e + 1) ∧ (∀ u, u < qd_nk (X i) → h2.1 59 u = qd_nw X u (i + 1)) ∧ fr_C h h2 0 := by
  have bd := ac_bd hX hq
  have k3 : qd_nk (X i) ≤ 3 := by
    rcases nk_le (X i) with q | q
    · exact absurd q bd.1
    · exact q
  rw [qd_ac, if_neg bd.1] at hq
  have t2 : tp_C (q_si h 57 2 (nI (i + 1))) n X := tc_fr t (fun b c q => qw_si_ne (by omega))
  have start : ∀ res : Option (q_S × Option Value), q_go e_59 q_X0 (q_sem (d + 2)) 999 27 [(0, .ref 57), (1, .int (X i)), (2, .int (nI (qd_nk (X i)))), (3, .int (nI 0))] [] (q_si h 57 2 (nI (i + 1))) = res → q_sem (d + 3) 59 h [.ref 57] = res := by
    intro res r
    rw [m59, e2, q_ix_n (by omega) (by decide), t.2 i bd.2.1, s56, q_c1_s, qd_nb, if_neg bd.1, e2, nI_p1]
    exact r
  rcases Nat.eq_zero_or_pos (qd_nk (X i)) with k0 | k0
  · rw [k0, qd_ns] at hq
    injection hq with hq
    subst hq
    rw [k0] at start
    refine ⟨q_si (q_si h 57 2 (nI (i + 1))) 57 2 (nI (i + 1 + 1)), start _ ?_, qw_si_eq .., fun u hu => by omega, fun b c p q => by rw [qw_si_ne (by omega), qw_si_ne (by omega)], rfl⟩
    rw [b59_27, if_neg (by decide), b59_57, if_pos (by decide), qw_si_eq, nI_p1]
  · obtain ⟨m, hm⟩ : ∃ m, qd_nk (X i) = m + 1 := ⟨qd_nk (X i) - 1, by omega⟩
    rw [hm] at hq start
    obtain ⟨h2, i1, i2, i3, i4⟩ := l59 hn hX d (m + 1) (by omega) (X i) m 0 (i + 1) 999 _ e (by omega) (by omega) t2 (qw_si_eq ..) hq ge
    refine ⟨h2, start _ i1, i2, fun u hu => ?_, fun b c p q => by rw [i4.1 _ _ p q, qw_si_ne (by omega)], i4.2⟩
    have := i3 u (by omega)
    rwa [Nat.zero_add] at this
