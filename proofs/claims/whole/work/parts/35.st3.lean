/-! ===== disc ===== -/
theorem ok_join {l : qv_L} (h : qv_ok l) {k m s : Nat} (h8 : l 0 0 < 8) (hk : k ≤ 4) (hm1 : 1 ≤ m) (hm : m ≤ 99) (hs : 0 < l 0 0 → 1 ≤ s ∧ s ≤ 99) (l2 : qv_L) (e0 : l2 0 0 = l 0 0 + 1) (e01 : l2 0 1 = l 0 1) (e02 : l2 0 2 = l 0 2) (e1 : ∀ i, l2 1 i = if i = l 0 0 then k else l 1 i) (e2 : ∀ i, l2 2 i = if i = l 0 0 then m else l 2 i) (e3 : ∀ i, l2 3 i = if i = l 0 0 then 0 else l 3 i) (e4 : ∀ i, l2 4 i = if i + 1 = l 0 0 then s else l 4 i) (e5 : ∀ i, l2 5 i = if i + 1 = l 0 0 then 1 else l 5 i) : qv_ok l2 := by
  have hok := h
  obtain ⟨a, b, c, d, e, f, g⟩ := h
  refine ⟨by omega, by omega, by omega, fun i hi => ?_, fun i hi => ?_, fun i hi => ?_, ?_⟩
  · have d := d i hi
    rw [e1, e2, e3, e4, e5]
    refine ⟨by split <;> omega, by split <;> omega, by split <;> omega, ?_, by split <;> omega⟩
    split
    · exact (hs (by omega)).2
    · omega
  · rw [e2]
    split
    · exact hm1
    · exact e i (by omega)
  · rw [e4, e5]
    by_cases z : i + 1 = l 0 0
    · rw [if_pos z, if_pos z]
      exact ⟨(hs (by omega)).1, by omega⟩
    · rw [if_neg z, if_neg z]
      exact f i (by omega)
  · have r : ∀ j, j + 1 ≤ l 0 0 → qv_rat l2 j = qv_rat l j := by
      intro j
      induction j with
      | zero => intro _; rfl
      | succ j ih =>
        intro hj
        rw [qv_rat, qv_rat, ih (by omega), e5, if_neg (by omega)]
    rw [e0, Nat.add_sub_cancel]
    rcases Nat.eq_zero_or_pos (l 0 0) with z | z
    · rw [z]
      exact (by omega : 1 ≤ 6)
    · obtain ⟨n, hn⟩ : ∃ n, l 0 0 = n + 1 := ⟨l 0 0 - 1, by omega⟩
      rw [hn, qv_rat, e5, if_pos hn.symm, Nat.mul_one, r n (by omega)]
      exact (qv_rat_6 hok (by omega)).2
theorem s135p (d : Nat) (h : q_S) {x : Int32} (g : ¬ x < 1 ∧ ¬ 99 < x) : q_sem (d + 1) 120 h [.int x, .int 1, .int 99] = some (h, some (.int 1)) := s120p _ _ g.1 g.2
theorem k61 (x y z : Int32) : qs_sk 61 135 [.int x, .int y, .int z] := by
  intro s hs
  have h8 := hs.1.1
  by_cases g1 : ¬ x < 0 ∧ ¬ 4 < x
  · by_cases g2 : qg_v 0 y
    · by_cases zz0 : s.1 0 0 = 0
      · obtain ⟨k, hk, rfl⟩ : ∃ k, k ≤ 4 ∧ x = nI k := by
          obtain ⟨c, hc, rfl⟩ := qg_nat g1.1
          have b := g1.2
          rw [show (4 : Int32) = nI 4 from rfl, nI_lt_iff (by decide) hc] at b
          exact ⟨c, by omega, rfl⟩
        obtain ⟨m, hm1, hm, rfl⟩ := qg_vN g2
        have hm1 : 1 ≤ m := hm1
        have hm : m ≤ 99 := hm
        obtain ⟨n, hn⟩ : ∃ n, s.1 0 0 = n := ⟨_, rfl⟩
        have zz : n = 0 := by omega
        have w : Nat := 1
        obtain ⟨o1, o2, o3, o4, o5, o6, o7⟩ := hs
        refine ⟨nI n, (ql (ql (ql (ql s.1 1 n k) 2 n m) 3 n 0) 0 0 (n + 1), s.2.1, qt (qt s.2.2.1 0 1 0) 0 2 0, s.2.2.2), mk_ok (ok_join (k := k) (m := m) (s := w) o1 (by omega) hk hm1 hm (fun q => absurd q (by omega)) (ql (ql (ql (ql s.1 1 n k) 2 n m) 3 n 0) 0 0 (n + 1)) (by rw [hn]; exact ql_eq) (by simp [ql]) (by simp [ql]) (fun i => by rw [hn]; simp [ql]) (fun i => by rw [hn]; simp [ql]) (fun i => by rw [hn]; simp [ql]) (fun i => by rw [if_neg (by omega)]; simp [ql]) (fun i => by rw [if_neg (by omega)]; simp [ql])) (f_im (fun a j q => (qt_ne (by omega)).trans (qt_ne (by omega))) o2) (f_or (fun a j q => (qt_ne (by omega)).trans (qt_ne (by omega))) o3) (qs_ch0 ((qt_ne (by omega)).trans qt_eq) qt_eq) (f_tp (fun a j q => (qt_ne (by omega)).trans (qt_ne (by omega))) o5) (f_rw (fun a j q => (qt_ne (by omega)).trans (qt_ne (by omega))) o6) (f_tc (fun a j q => (qt_ne (by omega)).trans (qt_ne (by omega))) o7), ⟨rfl, rfl, fun a j q => (qt_ne (by omega)).trans (qt_ne (by omega))⟩, ?_, ?_⟩
        · rintro d h ⟨c1, c2, c3, c4, c5, c6, c7, c8⟩
          have b1 : (q_si (q_si h 38 4 0) 38 5 0).1 12 6 = nI n := by rw [qw_si_ne (by omega), qw_si_ne (by omega), c1.1, hn]
          have b2 : (q_si (q_si (q_si (q_si (q_si h 38 4 0) 38 5 0) 13 n (nI k)) 14 n (nI m)) 15 n (nI 0)).1 12 6 = nI n := by rw [qw_si_ne (by omega), qw_si_ne (by omega), qw_si_ne (by omega), b1]
          refine ⟨q_si (q_si (q_si (q_si (q_si (q_si h 38 4 0) 38 5 0) 13 n (nI k)) 14 n (nI m)) 15 n (nI 0)) 12 6 (nI (n + 1)), ?_, ?_⟩
          · rw [m61, s104p _ _ g1, q_c1_s, if_neg (by decide), show (0 : Int32) = nI 0 from rfl, s105p _ _ (by omega) g2, q_c1_s, c1.1]
            rw [if_neg (show ¬ (1 : Int32) = nI 0 by decide)]
            show (if (0 : Int32) < nI (s.1 0 0) then _ else _) = _
            rw [if_neg (by rw [hn, zz]; decide), b61_37, c1.1, if_pos (by rw [hn, show (8 : Int32) = nI 8 from rfl, nI_lt_iff (by omega) (by omega)]; omega), m0, q_c0_s, m17, b1, q_ix_n (by omega) (by decide), q_ix_n (by omega) (by decide), q_ix_n (by omega) (by decide)]
            rw [if_neg (by rw [zz]; decide), b17_61]
            show q_c1 (some (q_si (q_si (q_si (q_si (q_si (q_si h 38 4 0) 38 5 0) 13 n (nI k)) 14 n (nI m)) 15 n (nI 0)) 12 6 ((q_si (q_si (q_si (q_si (q_si h 38 4 0) 38 5 0) 13 n (nI k)) 14 n (nI m)) 15 n (nI 0)).1 12 6 + 1), some (.int ((q_si (q_si (q_si (q_si (q_si h 38 4 0) 38 5 0) 13 n (nI k)) 14 n (nI m)) 15 n (nI 0)).1 12 6 + 1 - 1)))) _ = _
            rw [b2, nI_p1, nI_m1, q_c1_s]
            rfl
          · exact mk_C (at_0 (at_a (o := 12) (b := 3) (by omega) (at_a (o := 12) (b := 2) (by omega) (at_a (o := 12) (b := 1) (by omega) (f_c1 (fun a j q => (qw_si_ne (by omega)).trans (qw_si_ne (by omega))) c1))))) (f_c2 (fun a j q => (qw_si_ne (by omega)).trans ((qw_si_ne (by omega)).trans ((qw_si_ne (by omega)).trans ((qw_si_ne (by omega)).trans ((qw_si_ne (by omega)).trans (qw_si_ne (by omega))))))) (fun a j q => (qt_ne (by omega)).trans (qt_ne (by omega))) c2) (f_c3 (fun a j q => (qw_si_ne (by omega)).trans ((qw_si_ne (by omega)).trans ((qw_si_ne (by omega)).trans ((qw_si_ne (by omega)).trans ((qw_si_ne (by omega)).trans (qw_si_ne (by omega))))))) (fun a j q => (qt_ne (by omega)).trans (qt_ne (by omega))) c3) (⟨by rw [qw_si_ne (by omega), qw_si_ne (by omega), qw_si_ne (by omega), qw_si_ne (by omega), qw_si_ne (by omega), qw_si_eq, qt_ne (by omega), qt_eq], by rw [qw_si_ne (by omega), qw_si_ne (by omega), qw_si_ne (by omega), qw_si_ne (by omega), qw_si_eq, qt_eq], fun a i x y => by rw [qw_si_ne (by omega), qw_si_ne (by omega), qw_si_ne (by omega), qw_si_ne (by omega), qw_si_ne (by omega), qw_si_ne (by omega), qt_ne (by omega), qt_ne (by omega)]; exact c4.2.2 a i x y⟩) (f_c5 (fun a j q => (qw_si_ne (by omega)).trans ((qw_si_ne (by omega)).trans ((qw_si_ne (by omega)).trans ((qw_si_ne (by omega)).trans ((qw_si_ne (by omega)).trans (qw_si_ne (by omega))))))) (fun a j q => (qt_ne (by omega)).trans (qt_ne (by omega))) c5) (f_c6 (fun a j q => (qw_si_ne (by omega)).trans ((qw_si_ne (by omega)).trans ((qw_si_ne (by omega)).trans ((qw_si_ne (by omega)).trans ((qw_si_ne (by omega)).trans (qw_si_ne (by omega))))))) (fun _ _ _ => rfl) (fun a j q => (qt_ne (by omega)).trans (qt_ne (by omega))) c6) (f_c7 (fun a j q => (qw_si_ne (by omega)).trans ((qw_si_ne (by omega)).trans ((qw_si_ne (by omega)).trans ((qw_si_ne (by omega)).trans ((qw_si_ne (by omega)).trans (qw_si_ne (by omega))))))) rfl (fun a j q => (qt_ne (by omega)).trans (qt_ne (by omega))) c7) (c8)
        · rintro d h ⟨c1, c2, c3, c4, c5, c6, c7⟩
          have b2 : (q_si (q_si (q_si (q_si (q_si h 68 n (nI k)) 69 n (nI m)) 70 n (nI 0)) 67 20 0) 67 21 0).1 67 0 = nI n := by rw [qw_si_ne (by omega), qw_si_ne (by omega), qw_si_ne (by omega), qw_si_ne (by omega), qw_si_ne (by omega), c1.1, hn]
          refine ⟨q_si (q_si (q_si (q_si (q_si (q_si h 68 n (nI k)) 69 n (nI m)) 70 n (nI 0)) 67 20 0) 67 21 0) 67 0 (nI (n + 1)), ?_, ?_⟩
          · rw [m135, s120p _ _ g1.1 g1.2, q_c1_s, if_neg (by decide), s120p (y := 1) (z := 99) _ _ g2.1 g2.2, q_c1_s, if_neg (by decide), c1.1, if_neg (by rw [hn, zz]; decide), b135_38, c1.1, hn, if_neg (by rw [show (8 : Int32) = nI 8 from rfl, nI_eq_iff (by omega) (by omega)]; omega), q_ix_n (by omega) (by decide), q_ix_n (by omega) (by decide), q_ix_n (by omega) (by decide)]
            rw [if_neg (by rw [zz]; decide), b135_111, m134]
            show q_c0 (some (q_si (q_si (q_si (q_si (q_si h 68 n (nI k)) 69 n (nI m)) 70 n (nI 0)) 67 20 0) 67 21 0, none)) _ = _
            rw [q_c0_s, b2, nI_p1]
          · exact mk_R (aw_0 (f_r1 (fun a j q => (qw_si_ne (by omega)).trans (qw_si_ne (by omega))) (aw_a (b := 3) (by omega) (aw_a (b := 2) (by omega) (aw_a (b := 1) (by omega) (c1)))))) (f_r2 (fun a j q => (qw_si_ne (by omega)).trans ((qw_si_ne (by omega)).trans ((qw_si_ne (by omega)).trans ((qw_si_ne (by omega)).trans ((qw_si_ne (by omega)).trans (qw_si_ne (by omega))))))) (fun a j q => (qt_ne (by omega)).trans (qt_ne (by omega))) c2) (f_r3 (fun a j q => (qw_si_ne (by omega)).trans ((qw_si_ne (by omega)).trans ((qw_si_ne (by omega)).trans ((qw_si_ne (by omega)).trans ((qw_si_ne (by omega)).trans (qw_si_ne (by omega))))))) (fun a j q => (qt_ne (by omega)).trans (qt_ne (by omega))) c3) (⟨by rw [qw_si_ne (by omega), qw_si_ne (by omega), qw_si_eq, qt_ne (by omega), qt_eq], by rw [qw_si_ne (by omega), qw_si_eq, qt_eq], fun a i x y => by rw [qw_si_ne (by omega), qw_si_ne (by omega), qw_si_ne (by omega), qw_si_ne (by omega), qw_si_ne (by omega), qw_si_ne (by omega), qt_ne (by omega), qt_ne (by omega)]; exact c4.2.2 a i x y⟩) (f_r5 (fun a j q => (qw_si_ne (by omega)).trans ((qw_si_ne (by omega)).trans ((qw_si_ne (by omega)).trans ((qw_si_ne (by omega)).trans ((qw_si_ne (by omega)).trans (qw_si_ne (by omega))))))) (fun a j q => (qt_ne (by omega)).trans (qt_ne (by omega))) c5) (f_r6 (fun a j q => (qw_si_ne (by omega)).trans ((qw_si_ne (by omega)).trans ((qw_si_ne (by omega)).trans ((qw_si_ne (by omega)).trans ((qw_si_ne (by omega)).trans (qw_si_ne (by omega))))))) (fun _ _ _ => rfl) (fun a j q => (qt_ne (by omega)).trans (qt_ne (by omega))) c6) (f_r7 (fun a j q => (qw_si_ne (by omega)).trans ((qw_si_ne (by omega)).trans ((qw_si_ne (by omega)).trans ((qw_si_ne (by omega)).trans ((qw_si_ne (by omega)).trans (qw_si_ne (by omega))))))) (fun a j q => (qt_ne (by omega)).trans (qt_ne (by omega))) c7)
      · by_cases g3 : qg_v 1 z
        · by_cases h88 : s.1 0 0 = 8
          · refine qs_nok (-3) hs ?_ ?_
            · intro d h hc
              rw [m61, s104p _ _ g1, q_c1_s, if_neg (by decide), show (0 : Int32) = nI 0 from rfl, s105p _ _ (by omega) g2, q_c1_s, hc.1.1]
              rw [if_neg (show ¬ (1 : Int32) = nI 0 by decide)]
              show (if (0 : Int32) < nI (s.1 0 0) then _ else _) = _
              rw [if_pos (by rw [h88]; decide), show (1 : Int32) = nI 1 from rfl, s105p _ _ (by omega) g3, q_c1_s, if_neg (by decide), b61_37, hc.1.1, h88, if_neg (by decide)]
            · intro d h hr
              rw [m135, s120p _ _ g1.1 g1.2, q_c1_s, if_neg (by decide), s120p (y := 1) (z := 99) _ _ g2.1 g2.2, q_c1_s, if_neg (by decide), hr.1.1, if_pos (by rw [h88]; decide), s120p (y := 1) (z := 99) _ _ g3.1 g3.2, q_c1_s, if_neg (by decide), b135_38, hr.1.1, h88, if_pos (by decide)]
          · obtain ⟨k, hk, rfl⟩ : ∃ k, k ≤ 4 ∧ x = nI k := by
              obtain ⟨c, hc, rfl⟩ := qg_nat g1.1
              have b := g1.2
              rw [show (4 : Int32) = nI 4 from rfl, nI_lt_iff (by decide) hc] at b
              exact ⟨c, by omega, rfl⟩
            obtain ⟨m, hm1, hm, rfl⟩ := qg_vN g2
            obtain ⟨w, hw1, hw, rfl⟩ := qg_vN g3
            have hm1 : 1 ≤ m := hm1
            have hm : m ≤ 99 := hm
            have hw1 : 1 ≤ w := hw1
            have hw : w ≤ 99 := hw
            obtain ⟨n, hn⟩ : ∃ n, s.1 0 0 = n := ⟨_, rfl⟩
            have hnm : nI n - 1 = nI (n - 1) := by
              obtain ⟨r, hr⟩ : ∃ r, n = r + 1 := ⟨n - 1, by omega⟩
              rw [hr, nI_m1, Nat.add_sub_cancel]
            obtain ⟨o1, o2, o3, o4, o5, o6, o7⟩ := hs
            refine ⟨nI n, (ql (ql (ql (ql (ql (ql s.1 1 n k) 2 n m) 3 n 0) 4 (n - 1) w) 5 (n - 1) 1) 0 0 (n + 1), s.2.1, qt (qt s.2.2.1 0 1 0) 0 2 0, s.2.2.2), mk_ok (ok_join (k := k) (m := m) (s := w) o1 (by omega) hk hm1 hm (fun q => ⟨hw1, hw⟩) (ql (ql (ql (ql (ql (ql s.1 1 n k) 2 n m) 3 n 0) 4 (n - 1) w) 5 (n - 1) 1) 0 0 (n + 1)) (by rw [hn]; exact ql_eq) (by simp [ql]) (by simp [ql]) (fun i => by rw [hn]; simp [ql]) (fun i => by rw [hn]; simp [ql]) (fun i => by rw [hn]; simp [ql]) (fun i => by
                    rw [hn]
                    by_cases q : i = n - 1
                    · rw [if_pos (by omega)]; simp [ql, q]
                    · rw [if_neg (by omega)]; simp [ql, q]) (fun i => by
                    rw [hn]
                    by_cases q : i = n - 1
                    · rw [if_pos (by omega)]; simp [ql, q]
                    · rw [if_neg (by omega)]; simp [ql, q])) (f_im (fun a j q => (qt_ne (by omega)).trans (qt_ne (by omega))) o2) (f_or (fun a j q => (qt_ne (by omega)).trans (qt_ne (by omega))) o3) (qs_ch0 ((qt_ne (by omega)).trans qt_eq) qt_eq) (f_tp (fun a j q => (qt_ne (by omega)).trans (qt_ne (by omega))) o5) (f_rw (fun a j q => (qt_ne (by omega)).trans (qt_ne (by omega))) o6) (f_tc (fun a j q => (qt_ne (by omega)).trans (qt_ne (by omega))) o7), ⟨rfl, rfl, fun a j q => (qt_ne (by omega)).trans (qt_ne (by omega))⟩, ?_, ?_⟩
            · rintro d h ⟨c1, c2, c3, c4, c5, c6, c7, c8⟩
              have b1 : (q_si (q_si h 38 4 0) 38 5 0).1 12 6 = nI n := by rw [qw_si_ne (by omega), qw_si_ne (by omega), c1.1, hn]
              have b2 : (q_si (q_si (q_si (q_si (q_si (q_si (q_si h 38 4 0) 38 5 0) 13 n (nI k)) 14 n (nI m)) 15 n (nI 0)) 16 (n - 1) (nI w)) 17 (n - 1) (nI 1)).1 12 6 = nI n := by rw [qw_si_ne (by omega), qw_si_ne (by omega), qw_si_ne (by omega), qw_si_ne (by omega), qw_si_ne (by omega), b1]
              refine ⟨q_si (q_si (q_si (q_si (q_si (q_si (q_si (q_si h 38 4 0) 38 5 0) 13 n (nI k)) 14 n (nI m)) 15 n (nI 0)) 16 (n - 1) (nI w)) 17 (n - 1) (nI 1)) 12 6 (nI (n + 1)), ?_, ?_⟩
              · rw [m61, s104p _ _ g1, q_c1_s, if_neg (by decide), show (0 : Int32) = nI 0 from rfl, s105p _ _ (by omega) g2, q_c1_s, c1.1]
                rw [if_neg (show ¬ (1 : Int32) = nI 0 by decide)]
                show (if (0 : Int32) < nI (s.1 0 0) then _ else _) = _
                rw [if_pos (by rw [hn, nI_pos_iff (by omega)]; omega), show (1 : Int32) = nI 1 from rfl, s105p _ _ (by omega) g3, q_c1_s, if_neg (by decide), b61_37, c1.1, if_pos (by rw [hn, show (8 : Int32) = nI 8 from rfl, nI_lt_iff (by omega) (by omega)]; omega), m0, q_c0_s, m17, b1, q_ix_n (by omega) (by decide), q_ix_n (by omega) (by decide), q_ix_n (by omega) (by decide)]
                rw [if_pos (by rw [nI_pos_iff (by omega)]; omega), hnm, q_ix_n (by omega) (by decide), q_ix_n (by omega) (by decide), b17_61]
                show q_c1 (some (q_si (q_si (q_si (q_si (q_si (q_si (q_si (q_si h 38 4 0) 38 5 0) 13 n (nI k)) 14 n (nI m)) 15 n (nI 0)) 16 (n - 1) (nI w)) 17 (n - 1) (nI 1)) 12 6 ((q_si (q_si (q_si (q_si (q_si (q_si (q_si h 38 4 0) 38 5 0) 13 n (nI k)) 14 n (nI m)) 15 n (nI 0)) 16 (n - 1) (nI w)) 17 (n - 1) (nI 1)).1 12 6 + 1), some (.int ((q_si (q_si (q_si (q_si (q_si (q_si (q_si h 38 4 0) 38 5 0) 13 n (nI k)) 14 n (nI m)) 15 n (nI 0)) 16 (n - 1) (nI w)) 17 (n - 1) (nI 1)).1 12 6 + 1 - 1)))) _ = _
                rw [b2, nI_p1, nI_m1, q_c1_s]
                rfl
              · exact mk_C (at_0 (at_a (o := 12) (b := 5) (by omega) (at_a (o := 12) (b := 4) (by omega) (at_a (o := 12) (b := 3) (by omega) (at_a (o := 12) (b := 2) (by omega) (at_a (o := 12) (b := 1) (by omega) (f_c1 (fun a j q => (qw_si_ne (by omega)).trans (qw_si_ne (by omega))) c1))))))) (f_c2 (fun a j q => (qw_si_ne (by omega)).trans ((qw_si_ne (by omega)).trans ((qw_si_ne (by omega)).trans ((qw_si_ne (by omega)).trans ((qw_si_ne (by omega)).trans ((qw_si_ne (by omega)).trans ((qw_si_ne (by omega)).trans (qw_si_ne (by omega))))))))) (fun a j q => (qt_ne (by omega)).trans (qt_ne (by omega))) c2) (f_c3 (fun a j q => (qw_si_ne (by omega)).trans ((qw_si_ne (by omega)).trans ((qw_si_ne (by omega)).trans ((qw_si_ne (by omega)).trans ((qw_si_ne (by omega)).trans ((qw_si_ne (by omega)).trans ((qw_si_ne (by omega)).trans (qw_si_ne (by omega))))))))) (fun a j q => (qt_ne (by omega)).trans (qt_ne (by omega))) c3) (⟨by rw [qw_si_ne (by omega), qw_si_ne (by omega), qw_si_ne (by omega), qw_si_ne (by omega), qw_si_ne (by omega), qw_si_ne (by omega), qw_si_ne (by omega), qw_si_eq, qt_ne (by omega), qt_eq], by rw [qw_si_ne (by omega), qw_si_ne (by omega), qw_si_ne (by omega), qw_si_ne (by omega), qw_si_ne (by omega), qw_si_ne (by omega), qw_si_eq, qt_eq], fun a i x y => by rw [qw_si_ne (by omega), qw_si_ne (by omega), qw_si_ne (by omega), qw_si_ne (by omega), qw_si_ne (by omega), qw_si_ne (by omega), qw_si_ne (by omega), qw_si_ne (by omega), qt_ne (by omega), qt_ne (by omega)]; exact c4.2.2 a i x y⟩) (f_c5 (fun a j q => (qw_si_ne (by omega)).trans ((qw_si_ne (by omega)).trans ((qw_si_ne (by omega)).trans ((qw_si_ne (by omega)).trans ((qw_si_ne (by omega)).trans ((qw_si_ne (by omega)).trans ((qw_si_ne (by omega)).trans (qw_si_ne (by omega))))))))) (fun a j q => (qt_ne (by omega)).trans (qt_ne (by omega))) c5) (f_c6 (fun a j q => (qw_si_ne (by omega)).trans ((qw_si_ne (by omega)).trans ((qw_si_ne (by omega)).trans ((qw_si_ne (by omega)).trans ((qw_si_ne (by omega)).trans ((qw_si_ne (by omega)).trans ((qw_si_ne (by omega)).trans (qw_si_ne (by omega))))))))) (fun _ _ _ => rfl) (fun a j q => (qt_ne (by omega)).trans (qt_ne (by omega))) c6) (f_c7 (fun a j q => (qw_si_ne (by omega)).trans ((qw_si_ne (by omega)).trans ((qw_si_ne (by omega)).trans ((qw_si_ne (by omega)).trans ((qw_si_ne (by omega)).trans ((qw_si_ne (by omega)).trans ((qw_si_ne (by omega)).trans (qw_si_ne (by omega))))))))) rfl (fun a j q => (qt_ne (by omega)).trans (qt_ne (by omega))) c7) (c8)
            · rintro d h ⟨c1, c2, c3, c4, c5, c6, c7⟩
              have b2 : (q_si (q_si (q_si (q_si (q_si (q_si (q_si h 68 n (nI k)) 69 n (nI m)) 70 n (nI 0)) 71 (n - 1) (nI w)) 72 (n - 1) (nI 1)) 67 20 0) 67 21 0).1 67 0 = nI n := by rw [qw_si_ne (by omega), qw_si_ne (by omega), qw_si_ne (by omega), qw_si_ne (by omega), qw_si_ne (by omega), qw_si_ne (by omega), qw_si_ne (by omega), c1.1, hn]
              refine ⟨q_si (q_si (q_si (q_si (q_si (q_si (q_si (q_si h 68 n (nI k)) 69 n (nI m)) 70 n (nI 0)) 71 (n - 1) (nI w)) 72 (n - 1) (nI 1)) 67 20 0) 67 21 0) 67 0 (nI (n + 1)), ?_, ?_⟩
              · rw [m135, s120p _ _ g1.1 g1.2, q_c1_s, if_neg (by decide), s120p (y := 1) (z := 99) _ _ g2.1 g2.2, q_c1_s, if_neg (by decide), c1.1, if_pos (by rw [hn, nI_pos_iff (by omega)]; omega), s120p (y := 1) (z := 99) _ _ g3.1 g3.2, q_c1_s, if_neg (by decide), b135_38, c1.1, hn, if_neg (by rw [show (8 : Int32) = nI 8 from rfl, nI_eq_iff (by omega) (by omega)]; omega), q_ix_n (by omega) (by decide), q_ix_n (by omega) (by decide), q_ix_n (by omega) (by decide)]
                rw [if_pos (by rw [nI_pos_iff (by omega)]; omega), hnm, q_ix_n (by omega) (by decide), q_ix_n (by omega) (by decide), b135_111, m134]
                show q_c0 (some (q_si (q_si (q_si (q_si (q_si (q_si (q_si h 68 n (nI k)) 69 n (nI m)) 70 n (nI 0)) 71 (n - 1) (nI w)) 72 (n - 1) (nI 1)) 67 20 0) 67 21 0, none)) _ = _
                rw [q_c0_s, b2, nI_p1]
              · exact mk_R (aw_0 (f_r1 (fun a j q => (qw_si_ne (by omega)).trans (qw_si_ne (by omega))) (aw_a (b := 5) (by omega) (aw_a (b := 4) (by omega) (aw_a (b := 3) (by omega) (aw_a (b := 2) (by omega) (aw_a (b := 1) (by omega) (c1)))))))) (f_r2 (fun a j q => (qw_si_ne (by omega)).trans ((qw_si_ne (by omega)).trans ((qw_si_ne (by omega)).trans ((qw_si_ne (by omega)).trans ((qw_si_ne (by omega)).trans ((qw_si_ne (by omega)).trans ((qw_si_ne (by omega)).trans (qw_si_ne (by omega))))))))) (fun a j q => (qt_ne (by omega)).trans (qt_ne (by omega))) c2) (f_r3 (fun a j q => (qw_si_ne (by omega)).trans ((qw_si_ne (by omega)).trans ((qw_si_ne (by omega)).trans ((qw_si_ne (by omega)).trans ((qw_si_ne (by omega)).trans ((qw_si_ne (by omega)).trans ((qw_si_ne (by omega)).trans (qw_si_ne (by omega))))))))) (fun a j q => (qt_ne (by omega)).trans (qt_ne (by omega))) c3) (⟨by rw [qw_si_ne (by omega), qw_si_ne (by omega), qw_si_eq, qt_ne (by omega), qt_eq], by rw [qw_si_ne (by omega), qw_si_eq, qt_eq], fun a i x y => by rw [qw_si_ne (by omega), qw_si_ne (by omega), qw_si_ne (by omega), qw_si_ne (by omega), qw_si_ne (by omega), qw_si_ne (by omega), qw_si_ne (by omega), qw_si_ne (by omega), qt_ne (by omega), qt_ne (by omega)]; exact c4.2.2 a i x y⟩) (f_r5 (fun a j q => (qw_si_ne (by omega)).trans ((qw_si_ne (by omega)).trans ((qw_si_ne (by omega)).trans ((qw_si_ne (by omega)).trans ((qw_si_ne (by omega)).trans ((qw_si_ne (by omega)).trans ((qw_si_ne (by omega)).trans (qw_si_ne (by omega))))))))) (fun a j q => (qt_ne (by omega)).trans (qt_ne (by omega))) c5) (f_r6 (fun a j q => (qw_si_ne (by omega)).trans ((qw_si_ne (by omega)).trans ((qw_si_ne (by omega)).trans ((qw_si_ne (by omega)).trans ((qw_si_ne (by omega)).trans ((qw_si_ne (by omega)).trans ((qw_si_ne (by omega)).trans (qw_si_ne (by omega))))))))) (fun _ _ _ => rfl) (fun a j q => (qt_ne (by omega)).trans (qt_ne (by omega))) c6) (f_r7 (fun a j q => (qw_si_ne (by omega)).trans ((qw_si_ne (by omega)).trans ((qw_si_ne (by omega)).trans ((qw_si_ne (by omega)).trans ((qw_si_ne (by omega)).trans ((qw_si_ne (by omega)).trans ((qw_si_ne (by omega)).trans (qw_si_ne (by omega))))))))) (fun a j q => (qt_ne (by omega)).trans (qt_ne (by omega))) c7)
        · refine qs_nok (-1) hs ?_ ?_
          · intro d h hc
            rw [m61, s104p _ _ g1, q_c1_s, if_neg (by decide), show (0 : Int32) = nI 0 from rfl, s105p _ _ (by omega) g2, q_c1_s, hc.1.1]
            rw [if_neg (show ¬ (1 : Int32) = nI 0 by decide)]
            show (if (0 : Int32) < nI (s.1 0 0) then _ else _) = _
            rw [if_pos (by rw [nI_pos_iff (by omega)]; omega), show (1 : Int32) = nI 1 from rfl, s105n _ _ (by omega) g3, q_c1_s, if_pos (by decide)]
          · intro d h hr
            rw [m135, s120p _ _ g1.1 g1.2, q_c1_s, if_neg (by decide), s120p (y := 1) (z := 99) _ _ g2.1 g2.2, q_c1_s, if_neg (by decide), hr.1.1, if_pos (by rw [nI_pos_iff (by omega)]; omega), s120n (y := 1) (z := 99) _ _ g3, q_c1_s, if_pos (by decide)]
    · refine qs_nok (-1) hs ?_ ?_
      · intro d h hc
        rw [m61, s104p _ _ g1, q_c1_s, if_neg (by decide), show (0 : Int32) = nI 0 from rfl, s105n _ _ (by omega) g2, q_c1_s, if_pos (by decide)]
      · intro d h hr
        rw [m135, s120p _ _ g1.1 g1.2, q_c1_s, if_neg (by decide), s120n (y := 1) (z := 99) _ _ g2, q_c1_s, if_pos (by decide)]
  · refine qs_nok (-1) hs ?_ ?_
    · intro d h hc
      rw [m61, s104n _ _ g1, q_c1_s, if_pos (by decide)]
    · intro d h hr
      rw [m135, s120n _ _ g1, q_c1_s, if_pos (by decide)]
