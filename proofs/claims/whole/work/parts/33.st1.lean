/-! ===== wipe, drop, feed, order, cut, clear ===== -/
theorem c90 : qs_st 90 185 [] := by
  intro s hs
  obtain ⟨o1, o2, o3, o4, o5, o6, o7⟩ := hs
  refine ⟨.int (s.2.2.1 0 3), (s.1, s.2.1, qt s.2.2.1 0 3 0, s.2.2.2), mk_ok (o1) (f_im (fun a j q => qt_ne (by omega)) o2) (f_or (fun a j q => qt_ne (by omega)) o3) (f_ch (fun a j q => qt_ne (by omega)) o4) (⟨0, by omega, show qt s.2.2.1 0 3 0 0 3 = 0 from qt_eq, fun i hi => absurd hi (by omega)⟩) (f_rw (fun a j q => qt_ne (by omega)) o6) (f_tc (fun a j q => qt_ne (by omega)) o7), ?_, ?_⟩
  · rintro d h ⟨c1, c2, c3, c4, c5, c6, c7, c8⟩
    exact ⟨_, by rw [m90, c5.1], mk_C (f_c1 (fun a j q => qw_si_ne (by omega)) c1) (f_c2 (fun a j q => qw_si_ne (by omega)) (fun a j q => qt_ne (by omega)) c2) (f_c3 (fun a j q => qw_si_ne (by omega)) (fun a j q => qt_ne (by omega)) c3) (f_c4 (fun a j q => qw_si_ne (by omega)) (fun a j q => qt_ne (by omega)) c4) (⟨(qw_si_eq _ _ _ _).trans qt_eq.symm, fun i x => (qw_si_ne (by omega)).trans ((c5.2 i x).trans (qt_ne (by omega)).symm)⟩) (f_c6 (fun a j q => qw_si_ne (by omega)) (fun _ _ _ => rfl) (fun a j q => qt_ne (by omega)) c6) (f_c7 (fun a j q => qw_si_ne (by omega)) rfl (fun a j q => qt_ne (by omega)) c7) (c8)⟩
  · rintro d h ⟨c1, c2, c3, c4, c5, c6, c7⟩
    exact ⟨_, by rw [m185, c5.1], mk_R (f_r1 (fun a j q => qw_si_ne (by omega)) c1) (f_r2 (fun a j q => qw_si_ne (by omega)) (fun a j q => qt_ne (by omega)) c2) (f_r3 (fun a j q => qw_si_ne (by omega)) (fun a j q => qt_ne (by omega)) c3) (f_r4 (fun a j q => qw_si_ne (by omega)) (fun a j q => qt_ne (by omega)) c4) (⟨(qw_si_eq _ _ _ _).trans qt_eq.symm, fun i x => (qw_si_ne (by omega)).trans ((c5.2 i x).trans (qt_ne (by omega)).symm)⟩) (f_r6 (fun a j q => qw_si_ne (by omega)) (fun _ _ _ => rfl) (fun a j q => qt_ne (by omega)) c6) (f_r7 (fun a j q => qw_si_ne (by omega)) (fun a j q => qt_ne (by omega)) c7)⟩
theorem c86 : qs_st 86 183 [] := by
  intro s hs
  obtain ⟨o1, o2, o3, o4, o5, o6, o7⟩ := hs
  refine ⟨.int (s.2.2.1 0 0), (s.1, s.2.1, qt s.2.2.1 0 0 0, s.2.2.2), mk_ok (o1) (f_im (fun a j q => qt_ne (by omega)) o2) (⟨0, by omega, show qt s.2.2.1 0 0 0 0 0 = 0 from qt_eq, fun i hi => absurd hi (by omega)⟩) (f_ch (fun a j q => qt_ne (by omega)) o4) (f_tp (fun a j q => qt_ne (by omega)) o5) (f_rw (fun a j q => qt_ne (by omega)) o6) (f_tc (fun a j q => qt_ne (by omega)) o7), ?_, ?_⟩
  · rintro d h ⟨c1, c2, c3, c4, c5, c6, c7, c8⟩
    exact ⟨_, by rw [m86, c3.1], mk_C (f_c1 (fun a j q => qw_si_ne (by omega)) c1) (f_c2 (fun a j q => qw_si_ne (by omega)) (fun a j q => qt_ne (by omega)) c2) (⟨(qw_si_eq _ _ _ _).trans qt_eq.symm, fun a i x y => (qw_si_ne (by omega)).trans ((c3.2 a i x y).trans (qt_ne (by omega)).symm)⟩) (f_c4 (fun a j q => qw_si_ne (by omega)) (fun a j q => qt_ne (by omega)) c4) (f_c5 (fun a j q => qw_si_ne (by omega)) (fun a j q => qt_ne (by omega)) c5) (f_c6 (fun a j q => qw_si_ne (by omega)) (fun _ _ _ => rfl) (fun a j q => qt_ne (by omega)) c6) (f_c7 (fun a j q => qw_si_ne (by omega)) rfl (fun a j q => qt_ne (by omega)) c7) (c8)⟩
  · rintro d h ⟨c1, c2, c3, c4, c5, c6, c7⟩
    exact ⟨_, by rw [m183, c3.1], mk_R (f_r1 (fun a j q => qw_si_ne (by omega)) c1) (f_r2 (fun a j q => qw_si_ne (by omega)) (fun a j q => qt_ne (by omega)) c2) (⟨(qw_si_eq _ _ _ _).trans qt_eq.symm, fun a i x y => (qw_si_ne (by omega)).trans ((c3.2 a i x y).trans (qt_ne (by omega)).symm)⟩) (f_r4 (fun a j q => qw_si_ne (by omega)) (fun a j q => qt_ne (by omega)) c4) (f_r5 (fun a j q => qw_si_ne (by omega)) (fun a j q => qt_ne (by omega)) c5) (f_r6 (fun a j q => qw_si_ne (by omega)) (fun _ _ _ => rfl) (fun a j q => qt_ne (by omega)) c6) (f_r7 (fun a j q => qw_si_ne (by omega)) (fun a j q => qt_ne (by omega)) c7)⟩
theorem c89 (x : Int32) : qs_st 89 184 [.int x] := by
  intro s hs
  by_cases g : ¬ x < 32 ∧ ¬ 126 < x
  · obtain ⟨n, hn, e, f⟩ := hs.2.2.2.2.1
    by_cases w : n = 80
    · refine qs_no (.int (-3)) hs ?_ ?_
      · intro d h hc
        rw [m89, if_neg g.1, if_neg g.2, hc.2.2.2.2.1.1, e, if_neg (by rw [w]; decide)]
      · intro d h hr
        rw [m184, s120p _ _ g.1 g.2, q_c1_s, if_neg (by decide), hr.2.2.2.2.1.1, e, if_pos (by rw [w]; decide)]
    · obtain ⟨c, hc1, hc2, hx⟩ : ∃ c, 32 ≤ c ∧ c ≤ 126 ∧ x = nI c := by
        have h0 : ¬ x < 0 := by
          intro a
          refine g.1 ?_
          rw [Int32.lt_iff_toInt_lt] at a ⊢
          have e0 : (0 : Int32).toInt = 0 := rfl
          have e1 : (32 : Int32).toInt = 32 := rfl
          omega
        obtain ⟨c, hc, rfl⟩ := qg_nat h0
        have a := g.1
        have b := g.2
        rw [show (32 : Int32) = nI 32 from rfl, nI_lt_iff hc (by decide)] at a
        rw [show (126 : Int32) = nI 126 from rfl, nI_lt_iff (by decide) hc] at b
        exact ⟨c, by omega, by omega, rfl⟩
      obtain ⟨o1, o2, o3, o4, o5, o6, o7⟩ := hs
      refine ⟨.int (nI (n + 1)), (s.1, s.2.1, qt (qt s.2.2.1 8 n x) 0 3 (nI (n + 1)), s.2.2.2), mk_ok (o1) (f_im (fun a j q => (qt_ne (by omega)).trans (qt_ne (by omega))) o2) (f_or (fun a j q => (qt_ne (by omega)).trans (qt_ne (by omega))) o3) (f_ch (fun a j q => (qt_ne (by omega)).trans (qt_ne (by omega))) o4) (⟨n + 1, by omega, qt_eq, fun i hi => by
        show ∃ c, 32 ≤ c ∧ c ≤ 126 ∧ qt (qt s.2.2.1 8 n x) 0 3 (nI (n + 1)) 8 i = nI c
        rw [qt_ne (by omega)]
        by_cases z : i = n
        · exact ⟨c, hc1, hc2, by rw [z, qt_eq, hx]⟩
        · rw [qt_ne (by omega)]
          exact f i (by omega)⟩) (f_rw (fun a j q => (qt_ne (by omega)).trans (qt_ne (by omega))) o6) (f_tc (fun a j q => (qt_ne (by omega)).trans (qt_ne (by omega))) o7), ?_, ?_⟩
      · rintro d h ⟨c1, c2, c3, c4, c5, c6, c7, c8⟩
        exact ⟨_, by rw [m89, if_neg g.1, if_neg g.2, c5.1, e, if_pos (by rw [show (80 : Int32) = nI 80 from rfl, nI_lt_iff (by omega) (by omega)]; omega), m55, c5.1, e, q_ix_n (by omega) (by decide), q_c1_s, nI_p1], mk_C (f_c1 (fun a j q => (qw_si_ne (by omega)).trans (qw_si_ne (by omega))) c1) (f_c2 (fun a j q => (qw_si_ne (by omega)).trans (qw_si_ne (by omega))) (fun a j q => (qt_ne (by omega)).trans (qt_ne (by omega))) c2) (f_c3 (fun a j q => (qw_si_ne (by omega)).trans (qw_si_ne (by omega))) (fun a j q => (qt_ne (by omega)).trans (qt_ne (by omega))) c3) (f_c4 (fun a j q => (qw_si_ne (by omega)).trans (qw_si_ne (by omega))) (fun a j q => (qt_ne (by omega)).trans (qt_ne (by omega))) c4) (⟨(qw_si_eq _ _ _ _).trans qt_eq.symm, fun i x => by
      rw [qw_si_ne (by omega), qt_ne (by omega)]
      by_cases z : i = n
      · rw [z, qw_si_eq, qt_eq]
      · rw [qw_si_ne (by omega), qt_ne (by omega)]
        exact c5.2 i x⟩) (f_c6 (fun a j q => (qw_si_ne (by omega)).trans (qw_si_ne (by omega))) (fun _ _ _ => rfl) (fun a j q => (qt_ne (by omega)).trans (qt_ne (by omega))) c6) (f_c7 (fun a j q => (qw_si_ne (by omega)).trans (qw_si_ne (by omega))) rfl (fun a j q => (qt_ne (by omega)).trans (qt_ne (by omega))) c7) (c8)⟩
      · rintro d h ⟨c1, c2, c3, c4, c5, c6, c7⟩
        exact ⟨_, by rw [m184, s120p _ _ g.1 g.2, q_c1_s, if_neg (by decide), c5.1, e, if_neg (by rw [show (80 : Int32) = nI 80 from rfl, nI_eq_iff (by omega) (by omega)]; omega), q_ix_n (by omega) (by decide), nI_p1], mk_R (f_r1 (fun a j q => (qw_si_ne (by omega)).trans (qw_si_ne (by omega))) c1) (f_r2 (fun a j q => (qw_si_ne (by omega)).trans (qw_si_ne (by omega))) (fun a j q => (qt_ne (by omega)).trans (qt_ne (by omega))) c2) (f_r3 (fun a j q => (qw_si_ne (by omega)).trans (qw_si_ne (by omega))) (fun a j q => (qt_ne (by omega)).trans (qt_ne (by omega))) c3) (f_r4 (fun a j q => (qw_si_ne (by omega)).trans (qw_si_ne (by omega))) (fun a j q => (qt_ne (by omega)).trans (qt_ne (by omega))) c4) (⟨(qw_si_eq _ _ _ _).trans qt_eq.symm, fun i x => by
      rw [qw_si_ne (by omega), qt_ne (by omega)]
      by_cases z : i = n
      · rw [z, qw_si_eq, qt_eq]
      · rw [qw_si_ne (by omega), qt_ne (by omega)]
        exact c5.2 i x⟩) (f_r6 (fun a j q => (qw_si_ne (by omega)).trans (qw_si_ne (by omega))) (fun _ _ _ => rfl) (fun a j q => (qt_ne (by omega)).trans (qt_ne (by omega))) c6) (f_r7 (fun a j q => (qw_si_ne (by omega)).trans (qw_si_ne (by omega))) (fun a j q => (qt_ne (by omega)).trans (qt_ne (by omega))) c7)⟩
  · refine qs_no (.int (-1)) hs ?_ ?_
    · intro d h hc
      rw [m89]
      by_cases a : x < 32
      · rw [if_pos a]
      · rw [if_neg a, if_pos (Classical.byContradiction fun b => g ⟨a, b⟩)]
    · intro d h hr
      rw [m184, s120n _ _ g, q_c1_s, if_pos rfl]
theorem c83 (x y z : Int32) : qs_st 83 180 [.int x, .int y, .int z] := by
  intro s hs
  by_cases g : ¬ x < 0 ∧ ¬ 5 < x
  · obtain ⟨n, hn, e, f⟩ := hs.2.2.1
    by_cases w : n = 8
    · refine qs_no (.int (-3)) hs ?_ ?_
      · intro d h hc
        rw [m83, if_neg g.1, if_neg g.2, hc.2.2.1.1, e, if_neg (by rw [w]; decide)]
      · intro d h hr
        rw [m180, s120p _ _ g.1 g.2, q_c1_s, if_neg (by decide), hr.2.2.1.1, e, if_pos (by rw [w]; decide)]
    · obtain ⟨c, hc2, hx⟩ : ∃ c, c ≤ 5 ∧ x = nI c := by
        obtain ⟨c, hc, rfl⟩ := qg_nat g.1
        have b := g.2
        rw [show (5 : Int32) = nI 5 from rfl, nI_lt_iff (by decide) hc] at b
        exact ⟨c, by omega, rfl⟩
      obtain ⟨o1, o2, o3, o4, o5, o6, o7⟩ := hs
      refine ⟨.int (nI (n + 1)), (s.1, s.2.1, qt (qt (qt (qt s.2.2.1 1 n x) 2 n y) 3 n z) 0 0 (nI (n + 1)), s.2.2.2), mk_ok (o1) (f_im (fun a j q => (qt_ne (by omega)).trans ((qt_ne (by omega)).trans ((qt_ne (by omega)).trans (qt_ne (by omega))))) o2) (⟨n + 1, by omega, qt_eq, fun i hi => by
        show ∃ k, k ≤ 5 ∧ qt (qt (qt (qt s.2.2.1 1 n x) 2 n y) 3 n z) 0 0 (nI (n + 1)) 1 i = nI k
        rw [qt_ne (by omega), qt_ne (by omega), qt_ne (by omega)]
        by_cases w : i = n
        · exact ⟨c, hc2, by rw [w, qt_eq, hx]⟩
        · rw [qt_ne (by omega)]
          exact f i (by omega)⟩) (f_ch (fun a j q => (qt_ne (by omega)).trans ((qt_ne (by omega)).trans ((qt_ne (by omega)).trans (qt_ne (by omega))))) o4) (f_tp (fun a j q => (qt_ne (by omega)).trans ((qt_ne (by omega)).trans ((qt_ne (by omega)).trans (qt_ne (by omega))))) o5) (f_rw (fun a j q => (qt_ne (by omega)).trans ((qt_ne (by omega)).trans ((qt_ne (by omega)).trans (qt_ne (by omega))))) o6) (f_tc (fun a j q => (qt_ne (by omega)).trans ((qt_ne (by omega)).trans ((qt_ne (by omega)).trans (qt_ne (by omega))))) o7), ?_, ?_⟩
      · rintro d h ⟨c1, c2, c3, c4, c5, c6, c7, c8⟩
        exact ⟨_, by rw [m83, if_neg g.1, if_neg g.2, c3.1, e, if_pos (by rw [show (8 : Int32) = nI 8 from rfl, nI_lt_iff (by omega) (by omega)]; omega), m34, c3.1, e, q_ix_n (by omega) (by decide), q_ix_n (by omega) (by decide), q_ix_n (by omega) (by decide), q_c1_s, nI_p1], mk_C (f_c1 (fun a j q => (qw_si_ne (by omega)).trans ((qw_si_ne (by omega)).trans ((qw_si_ne (by omega)).trans (qw_si_ne (by omega))))) c1) (f_c2 (fun a j q => (qw_si_ne (by omega)).trans ((qw_si_ne (by omega)).trans ((qw_si_ne (by omega)).trans (qw_si_ne (by omega))))) (fun a j q => (qt_ne (by omega)).trans ((qt_ne (by omega)).trans ((qt_ne (by omega)).trans (qt_ne (by omega))))) c2) (⟨(qw_si_eq _ _ _ _).trans qt_eq.symm, fun a i ha x => by
          rw [qw_si_ne (by omega), qt_ne (by omega)]
          have e3 := c3.2 a i ha x
          by_cases z : i = n
          · subst z
            rcases (by omega : a = 0 ∨ a = 1 ∨ a = 2) with q | q | q
            · subst q
              rw [qw_si_ne (by omega), qw_si_ne (by omega), qw_si_eq, qt_ne (by omega), qt_ne (by omega), qt_eq]
            · subst q
              rw [qw_si_ne (by omega), qw_si_eq, qt_ne (by omega), qt_eq]
            · subst q
              rw [qw_si_eq, qt_eq]
          · rw [qw_si_ne (by omega), qw_si_ne (by omega), qw_si_ne (by omega), qt_ne (by omega), qt_ne (by omega), qt_ne (by omega)]
            exact e3⟩) (f_c4 (fun a j q => (qw_si_ne (by omega)).trans ((qw_si_ne (by omega)).trans ((qw_si_ne (by omega)).trans (qw_si_ne (by omega))))) (fun a j q => (qt_ne (by omega)).trans ((qt_ne (by omega)).trans ((qt_ne (by omega)).trans (qt_ne (by omega))))) c4) (f_c5 (fun a j q => (qw_si_ne (by omega)).trans ((qw_si_ne (by omega)).trans ((qw_si_ne (by omega)).trans (qw_si_ne (by omega))))) (fun a j q => (qt_ne (by omega)).trans ((qt_ne (by omega)).trans ((qt_ne (by omega)).trans (qt_ne (by omega))))) c5) (f_c6 (fun a j q => (qw_si_ne (by omega)).trans ((qw_si_ne (by omega)).trans ((qw_si_ne (by omega)).trans (qw_si_ne (by omega))))) (fun _ _ _ => rfl) (fun a j q => (qt_ne (by omega)).trans ((qt_ne (by omega)).trans ((qt_ne (by omega)).trans (qt_ne (by omega))))) c6) (f_c7 (fun a j q => (qw_si_ne (by omega)).trans ((qw_si_ne (by omega)).trans ((qw_si_ne (by omega)).trans (qw_si_ne (by omega))))) rfl (fun a j q => (qt_ne (by omega)).trans ((qt_ne (by omega)).trans ((qt_ne (by omega)).trans (qt_ne (by omega))))) c7) (c8)⟩
      · rintro d h ⟨c1, c2, c3, c4, c5, c6, c7⟩
        exact ⟨_, by rw [m180, s120p _ _ g.1 g.2, q_c1_s, if_neg (by decide), c3.1, e, if_neg (by rw [show (8 : Int32) = nI 8 from rfl, nI_eq_iff (by omega) (by omega)]; omega), q_ix_n (by omega) (by decide), q_ix_n (by omega) (by decide), q_ix_n (by omega) (by decide), nI_p1], mk_R (f_r1 (fun a j q => (qw_si_ne (by omega)).trans ((qw_si_ne (by omega)).trans ((qw_si_ne (by omega)).trans (qw_si_ne (by omega))))) c1) (f_r2 (fun a j q => (qw_si_ne (by omega)).trans ((qw_si_ne (by omega)).trans ((qw_si_ne (by omega)).trans (qw_si_ne (by omega))))) (fun a j q => (qt_ne (by omega)).trans ((qt_ne (by omega)).trans ((qt_ne (by omega)).trans (qt_ne (by omega))))) c2) (⟨(qw_si_eq _ _ _ _).trans qt_eq.symm, fun a i ha x => by
          rw [qw_si_ne (by omega), qt_ne (by omega)]
          have e3 := c3.2 a i ha x
          by_cases z : i = n
          · subst z
            rcases (by omega : a = 0 ∨ a = 1 ∨ a = 2) with q | q | q
            · subst q
              rw [qw_si_ne (by omega), qw_si_ne (by omega), qw_si_eq, qt_ne (by omega), qt_ne (by omega), qt_eq]
            · subst q
              rw [qw_si_ne (by omega), qw_si_eq, qt_ne (by omega), qt_eq]
            · subst q
              rw [qw_si_eq, qt_eq]
          · rw [qw_si_ne (by omega), qw_si_ne (by omega), qw_si_ne (by omega), qt_ne (by omega), qt_ne (by omega), qt_ne (by omega)]
            exact e3⟩) (f_r4 (fun a j q => (qw_si_ne (by omega)).trans ((qw_si_ne (by omega)).trans ((qw_si_ne (by omega)).trans (qw_si_ne (by omega))))) (fun a j q => (qt_ne (by omega)).trans ((qt_ne (by omega)).trans ((qt_ne (by omega)).trans (qt_ne (by omega))))) c4) (f_r5 (fun a j q => (qw_si_ne (by omega)).trans ((qw_si_ne (by omega)).trans ((qw_si_ne (by omega)).trans (qw_si_ne (by omega))))) (fun a j q => (qt_ne (by omega)).trans ((qt_ne (by omega)).trans ((qt_ne (by omega)).trans (qt_ne (by omega))))) c5) (f_r6 (fun a j q => (qw_si_ne (by omega)).trans ((qw_si_ne (by omega)).trans ((qw_si_ne (by omega)).trans (qw_si_ne (by omega))))) (fun _ _ _ => rfl) (fun a j q => (qt_ne (by omega)).trans ((qt_ne (by omega)).trans ((qt_ne (by omega)).trans (qt_ne (by omega))))) c6) (f_r7 (fun a j q => (qw_si_ne (by omega)).trans ((qw_si_ne (by omega)).trans ((qw_si_ne (by omega)).trans (qw_si_ne (by omega))))) (fun a j q => (qt_ne (by omega)).trans ((qt_ne (by omega)).trans ((qt_ne (by omega)).trans (qt_ne (by omega))))) c7)⟩
  · refine qs_no (.int (-1)) hs ?_ ?_
    · intro d h hc
      rw [m83]
      by_cases a : x < 0
      · rw [if_pos a]
      · rw [if_neg a, if_pos (Classical.byContradiction fun b => g ⟨a, b⟩)]
    · intro d h hr
      rw [m180, s120n _ _ g, q_c1_s, if_pos rfl]
