/-! ===== does ===== -/
/-- what a call of both comes to, for all calls -/
def qs_su (y y' : Nat) (as : List Value) : Prop := ∀ s, qs_ok s → ∃ v s', qs_ok s' ∧ (∀ (d : Nat) (h : q_S), qs_C h s → ∃ h1, q_sem (d + 20) y h (.ref 0 :: as) = some (h1, some v) ∧ qs_C h1 s') ∧ (∀ (d : Nat) (h : q_S), qs_R h s → ∃ h1, q_sem (d + 20) y' h (.ref 67 :: as) = some (h1, some v) ∧ qs_R h1 s')
theorem qs_st_su {y y' : Nat} {as : List Value} (k : qs_st y y' as) : qs_su y y' as := by
  intro s hs
  obtain ⟨v, s', a, b, c⟩ := k s hs
  exact ⟨v, s', a, fun d h hc => b (d + 6) h hc, fun d h hc => c (d + 6) h hc⟩
theorem qk_rf (s : qs) : qk s s := ⟨rfl, rfl, fun _ _ _ => rfl⟩
theorem qk_tr {a b c : qs} (h1 : qk a b) (h2 : qk b c) : qk a c := ⟨h2.1.trans h1.1, h2.2.1.trans h1.2.1, fun x j q => (h2.2.2 x j q).trans (h1.2.2 x j q)⟩
theorem l85 : ∀ (m i w : Nat) (s : qs), i + m = w → w ≤ 8 → s.2.2.1 0 0 = nI w → qs_ok s → ∃ (n : Nat) (s' : qs), qs_ok s' ∧ qk s s' ∧ (∀ (d f c : Nat) (h : q_S), m < f → qs_C h s → ∃ h2, q_go e_85 q_X0 (q_sem (d + 14)) f 4 [(0, .ref 0), (1, .int (nI c)), (2, .int (nI i))] [] h = some (q_si h2 30 3 0, some (.int (nI (c + n)))) ∧ qs_C h2 s') ∧ (∀ (d f c : Nat) (h : q_S), m < f → qs_R h s → ∃ h2, q_go e_182 q_X0 (q_sem (d + 14)) f 4 [(0, .ref 67), (1, .int (nI c)), (2, .int (nI i))] [] h = some (q_si h2 67 26 0, some (.int (nI (c + n)))) ∧ qs_R h2 s') := by
  intro m
  induction m with
  | zero =>
    intro i w s hi hw e hs
    refine ⟨0, s, hs, qk_rf s, fun d f c h hf hc => ⟨h, ?_, hc⟩, fun d f c h hf hc => ⟨h, ?_, hc⟩⟩
    · obtain ⟨f, rfl⟩ : ∃ g, f = g + 1 := ⟨f - 1, by omega⟩
      rw [b85_4, hc.2.2.1.1, e, if_neg (by rw [nI_lt_iff (by omega) (by omega)]; omega), Nat.add_zero]
    · obtain ⟨f, rfl⟩ : ∃ g, f = g + 1 := ⟨f - 1, by omega⟩
      rw [b182_4, hc.2.2.1.1, e, if_neg (by rw [nI_lt_iff (by omega) (by omega)]; omega), Nat.add_zero]
  | succ m ih =>
    intro i w s hi hw e hs
    obtain ⟨v, s1, k1, k2, k3, k4⟩ := k64 (s.2.2.1 1 i) (s.2.2.1 2 i) (s.2.2.1 3 i) s hs
    obtain ⟨n, s2, j1, j2, j3, j4⟩ := ih (i + 1) w s1 (by omega) hw ((k2.2.2 0 0 (by omega)).trans e) k1
    refine ⟨(if v < 0 then 0 else 1) + n, s2, j1, qk_tr k2 j2, fun d f c h hf hc => ?_, fun d f c h hf hc => ?_⟩
    · obtain ⟨f, rfl⟩ : ∃ g, f = g + 1 := ⟨f - 1, by omega⟩
      obtain ⟨h1, a1, a2⟩ := k3 d h hc
      have b := hc.2.2.1
      rw [b85_4, b.1, e, if_pos (by rw [nI_lt_iff (by omega) (by omega)]; omega), q_ix_n (by omega) (by decide), q_ix_n (by omega) (by decide), q_ix_n (by omega) (by decide), b.2 0 i (by omega) (by omega), b.2 1 i (by omega) (by omega), b.2 2 i (by omega) (by omega), a1, q_c1_s, nI_p1 i]
      by_cases z : v < 0
      · obtain ⟨h2, c1, c2⟩ := j3 d f c h1 (by omega) a2
        rw [if_pos z, if_pos z, c1, Nat.zero_add]
        exact ⟨h2, rfl, c2⟩
      · obtain ⟨h2, c1, c2⟩ := j3 d f (c + 1) h1 (by omega) a2
        rw [if_neg z, if_neg z, nI_p1 c, c1, Nat.add_assoc]
        exact ⟨h2, rfl, c2⟩
    · obtain ⟨f, rfl⟩ : ∃ g, f = g + 1 := ⟨f - 1, by omega⟩
      obtain ⟨h1, a1, a2⟩ := k4 d h hc
      have b := hc.2.2.1
      rw [b182_4, b.1, e, if_pos (by rw [nI_lt_iff (by omega) (by omega)]; omega), q_ix_n (by omega) (by decide), q_ix_n (by omega) (by decide), q_ix_n (by omega) (by decide), b.2 0 i (by omega) (by omega), b.2 1 i (by omega) (by omega), b.2 2 i (by omega) (by omega), a1, q_c1_s, nI_p1 i]
      by_cases z : v < 0
      · obtain ⟨h2, c1, c2⟩ := j4 d f c h1 (by omega) a2
        rw [if_pos z, if_pos z, show nI c + 0 = nI c from Int32.add_zero _, c1, Nat.zero_add]
        exact ⟨h2, rfl, c2⟩
      · obtain ⟨h2, c1, c2⟩ := j4 d f (c + 1) h1 (by omega) a2
        rw [if_neg z, if_neg z, nI_p1 c, c1, Nat.add_assoc]
        exact ⟨h2, rfl, c2⟩
theorem c85 : qs_su 85 182 [] := by
  intro s0 hs0
  obtain ⟨w, hw, e, -⟩ := hs0.2.2.1
  obtain ⟨n, s, hs, -, k3, k4⟩ := l85 w 0 w s0 (by omega) hw e hs0
  obtain ⟨o1, o2, o3, o4, o5, o6, o7⟩ := hs
  refine ⟨.int (nI n), (s.1, s.2.1, qt s.2.2.1 0 0 0, s.2.2.2), mk_ok (o1) (f_im (fun a j q => qt_ne (by omega)) o2) (⟨0, by omega, show qt s.2.2.1 0 0 0 0 0 = 0 from qt_eq, fun i hi => absurd hi (by omega)⟩) (f_ch (fun a j q => qt_ne (by omega)) o4) (f_tp (fun a j q => qt_ne (by omega)) o5) (f_rw (fun a j q => qt_ne (by omega)) o6) (f_tc (fun a j q => qt_ne (by omega)) o7), ?_, ?_⟩
  · intro d h0 hc0
    obtain ⟨h, a1, a2⟩ := k3 (d + 5) 999 0 h0 (by omega) hc0
    obtain ⟨c1, c2, c3, c4, c5, c6, c7, c8⟩ := a2
    rw [Nat.zero_add] at a1
    exact ⟨_, (m85 (d + 19) h0).trans a1, mk_C (f_c1 (fun a j q => qw_si_ne (by omega)) c1) (f_c2 (fun a j q => qw_si_ne (by omega)) (fun a j q => qt_ne (by omega)) c2) (⟨(qw_si_eq _ _ _ _).trans qt_eq.symm, fun a i x y => (qw_si_ne (by omega)).trans ((c3.2 a i x y).trans (qt_ne (by omega)).symm)⟩) (f_c4 (fun a j q => qw_si_ne (by omega)) (fun a j q => qt_ne (by omega)) c4) (f_c5 (fun a j q => qw_si_ne (by omega)) (fun a j q => qt_ne (by omega)) c5) (f_c6 (fun a j q => qw_si_ne (by omega)) (fun _ _ _ => rfl) (fun a j q => qt_ne (by omega)) c6) (f_c7 (fun a j q => qw_si_ne (by omega)) rfl (fun a j q => qt_ne (by omega)) c7) (c8)⟩
  · intro d h0 hc0
    obtain ⟨h, a1, a2⟩ := k4 (d + 5) 999 0 h0 (by omega) hc0
    obtain ⟨c1, c2, c3, c4, c5, c6, c7⟩ := a2
    rw [Nat.zero_add] at a1
    exact ⟨_, (m182 (d + 19) h0).trans a1, mk_R (f_r1 (fun a j q => qw_si_ne (by omega)) c1) (f_r2 (fun a j q => qw_si_ne (by omega)) (fun a j q => qt_ne (by omega)) c2) (⟨(qw_si_eq _ _ _ _).trans qt_eq.symm, fun a i x y => (qw_si_ne (by omega)).trans ((c3.2 a i x y).trans (qt_ne (by omega)).symm)⟩) (f_r4 (fun a j q => qw_si_ne (by omega)) (fun a j q => qt_ne (by omega)) c4) (f_r5 (fun a j q => qw_si_ne (by omega)) (fun a j q => qt_ne (by omega)) c5) (f_r6 (fun a j q => qw_si_ne (by omega)) (fun _ _ _ => rfl) (fun a j q => qt_ne (by omega)) c6) (f_r7 (fun a j q => qw_si_ne (by omega)) (fun a j q => qt_ne (by omega)) c7)⟩
