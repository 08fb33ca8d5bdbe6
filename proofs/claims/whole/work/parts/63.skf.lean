/-! ===== disc, cut, set, with what they leave alone ===== -/
def qf_C (h h1 : q_S) : Prop := ∀ a j, 57 ≤ a ∧ a ≤ 59 → h1.1 a j = h.1 a j
def qf_R (h h1 : q_S) : Prop := ∀ a j, (92 ≤ a ∧ a ≤ 96) ∨ (a = 67 ∧ 35 ≤ j ∧ j ≤ 37) → h1.1 a j = h.1 a j
/-- what the reference holds, but for the tape -/
def qs_Q (h : q_S) (s : qs) : Prop := qw_at h s.1 ∧ qs_r2 h s.2.1 s.2.2.1 ∧ qs_r3 h s.2.2.1 ∧ qs_r4 h s.2.2.1 ∧ qs_r6 h s.2.2.1 s.2.2.2 ∧ qs_r7 h s.2.2.1
theorem mk_Q {h : q_S} {l m : qv_L} {t : qT} {P : Nat → Nat → Int64} (a : qw_at h l) (b : qs_r2 h m t) (c : qs_r3 h t) (d : qs_r4 h t) (f : qs_r6 h t P) (g : qs_r7 h t) : qs_Q h (l, m, t, P) := ⟨a, b, c, d, f, g⟩
def qs_sf (y y' : Nat) (as : List Value) : Prop := ∀ s, qs_ok s → ∃ (v : Int32) (s' : qs), qs_ok s' ∧ qk s s' ∧ (∀ (d : Nat) (h : q_S), qs_C h s → ∃ h1, q_sem (d + 14) y h (.ref 0 :: as) = some (h1, some (.int v)) ∧ qs_C h1 s' ∧ qf_C h h1) ∧ (∀ (d : Nat) (h : q_S), qs_Q h s → ∃ h1, q_sem (d + 14) y' h (.ref 67 :: as) = some (h1, some (.int v)) ∧ qs_Q h1 s' ∧ qf_R h h1)
theorem qs_nof {y y' : Nat} {as : List Value} {s : qs} (v : Int32) (hs : qs_ok s) (a : ∀ (d : Nat) (h : q_S), qs_C h s → q_sem (d + 14) y h (.ref 0 :: as) = some (h, some (.int v))) (b : ∀ (d : Nat) (h : q_S), qs_Q h s → q_sem (d + 14) y' h (.ref 67 :: as) = some (h, some (.int v))) : ∃ (v : Int32) (s' : qs), qs_ok s' ∧ qk s s' ∧ (∀ (d : Nat) (h : q_S), qs_C h s → ∃ h1, q_sem (d + 14) y h (.ref 0 :: as) = some (h1, some (.int v)) ∧ qs_C h1 s' ∧ qf_C h h1) ∧ (∀ (d : Nat) (h : q_S), qs_Q h s → ∃ h1, q_sem (d + 14) y' h (.ref 67 :: as) = some (h1, some (.int v)) ∧ qs_Q h1 s' ∧ qf_R h h1) :=
  ⟨v, s, hs, ⟨rfl, rfl, fun _ _ _ => rfl⟩, fun d h hc => ⟨h, a d h hc, hc, fun _ _ _ => rfl⟩, fun d h hr => ⟨h, b d h hr, hr, fun _ _ _ => rfl⟩⟩
theorem k62f : qs_sf 62 136 [] := by
  intro s hs
  have h8 := hs.1.1
  by_cases z : s.1 0 0 = 0
  · refine qs_nof (-5) hs ?_ ?_
    · intro d h hc
      rw [m62, hc.1.1, z, if_pos (by decide)]
    · intro d h hr
      rw [m136, hr.1.1, z, if_pos (by decide)]
  · obtain ⟨k, hk⟩ : ∃ k, s.1 0 0 = k + 1 := ⟨s.1 0 0 - 1, by omega⟩
    have hk2 : s.1 0 0 - 1 = k := by omega
    obtain ⟨o1, o2, o3, o4, o5, o6, o7⟩ := hs
    refine ⟨nI k, (ql s.1 0 0 (s.1 0 0 - 1), s.2.1, qt (qt s.2.2.1 0 1 0) 0 2 0, s.2.2.2), mk_ok (ok_cut o1) (f_im (fun a j q => (qt_ne (by omega)).trans (qt_ne (by omega))) o2) (f_or (fun a j q => (qt_ne (by omega)).trans (qt_ne (by omega))) o3) (qs_ch0 ((qt_ne (by omega)).trans qt_eq) qt_eq) (f_tp (fun a j q => (qt_ne (by omega)).trans (qt_ne (by omega))) o5) (f_rw (fun a j q => (qt_ne (by omega)).trans (qt_ne (by omega))) o6) (f_tc (fun a j q => (qt_ne (by omega)).trans (qt_ne (by omega))) o7), ⟨rfl, rfl, fun a j q => (qt_ne (by omega)).trans (qt_ne (by omega))⟩, ?_, ?_⟩
    · rintro d h ⟨c1, c2, c3, c4, c5, c6, c7, c8⟩
      refine ⟨q_si (q_si (q_si h 38 4 0) 38 5 0) 12 6 (nI (s.1 0 0 - 1)), ?_, ?_⟩
      · rw [m62, c1.1, if_neg (by rw [show (0 : Int32) = nI 0 from rfl, nI_eq_iff (by omega) (by omega)]; omega), m0, q_c0_s, qw_si_ne (by omega), qw_si_ne (by omega), c1.1, hk, nI_m1, Nat.add_sub_cancel]
      · refine ⟨?_, fun a j q => by repeat rw [qw_si_ne (by omega)]⟩
        exact mk_C (at_0 (f_c1 (fun a j q => (qw_si_ne (by omega)).trans (qw_si_ne (by omega))) c1)) (f_c2 (fun a j q => (qw_si_ne (by omega)).trans ((qw_si_ne (by omega)).trans (qw_si_ne (by omega)))) (fun a j q => (qt_ne (by omega)).trans (qt_ne (by omega))) c2) (f_c3 (fun a j q => (qw_si_ne (by omega)).trans ((qw_si_ne (by omega)).trans (qw_si_ne (by omega)))) (fun a j q => (qt_ne (by omega)).trans (qt_ne (by omega))) c3) (⟨by rw [qw_si_ne (by omega), qw_si_ne (by omega), qw_si_eq, qt_ne (by omega), qt_eq], by rw [qw_si_ne (by omega), qw_si_eq, qt_eq], fun a i x y => by rw [qw_si_ne (by omega), qw_si_ne (by omega), qw_si_ne (by omega), qt_ne (by omega), qt_ne (by omega)]; exact c4.2.2 a i x y⟩) (f_c5 (fun a j q => (qw_si_ne (by omega)).trans ((qw_si_ne (by omega)).trans (qw_si_ne (by omega)))) (fun a j q => (qt_ne (by omega)).trans (qt_ne (by omega))) c5) (f_c6 (fun a j q => (qw_si_ne (by omega)).trans ((qw_si_ne (by omega)).trans (qw_si_ne (by omega)))) (fun _ _ _ => rfl) (fun a j q => (qt_ne (by omega)).trans (qt_ne (by omega))) c6) (f_c7 (fun a j q => (qw_si_ne (by omega)).trans ((qw_si_ne (by omega)).trans (qw_si_ne (by omega)))) rfl (fun a j q => (qt_ne (by omega)).trans (qt_ne (by omega))) c7) (c8)
    · rintro d h ⟨c1, c2, c3, c4, c6, c7⟩
      refine ⟨q_si (q_si (q_si h 67 20 0) 67 21 0) 67 0 (nI (s.1 0 0 - 1)), ?_, ?_⟩
      · rw [m136, c1.1, if_neg (by rw [show (0 : Int32) = nI 0 from rfl, nI_eq_iff (by omega) (by omega)]; omega), m134, q_c0_s, qw_si_ne (by omega), qw_si_ne (by omega), c1.1, hk, nI_m1, Nat.add_sub_cancel]
      · refine ⟨?_, fun a j q => by repeat rw [qw_si_ne (by omega)]⟩
        exact mk_Q (aw_0 (f_r1 (fun a j q => (qw_si_ne (by omega)).trans (qw_si_ne (by omega))) c1)) (f_r2 (fun a j q => (qw_si_ne (by omega)).trans ((qw_si_ne (by omega)).trans (qw_si_ne (by omega)))) (fun a j q => (qt_ne (by omega)).trans (qt_ne (by omega))) c2) (f_r3 (fun a j q => (qw_si_ne (by omega)).trans ((qw_si_ne (by omega)).trans (qw_si_ne (by omega)))) (fun a j q => (qt_ne (by omega)).trans (qt_ne (by omega))) c3) (⟨by rw [qw_si_ne (by omega), qw_si_ne (by omega), qw_si_eq, qt_ne (by omega), qt_eq], by rw [qw_si_ne (by omega), qw_si_eq, qt_eq], fun a i x y => by rw [qw_si_ne (by omega), qw_si_ne (by omega), qw_si_ne (by omega), qt_ne (by omega), qt_ne (by omega)]; exact c4.2.2 a i x y⟩) (f_r6 (fun a j q => (qw_si_ne (by omega)).trans ((qw_si_ne (by omega)).trans (qw_si_ne (by omega)))) (fun _ _ _ => rfl) (fun a j q => (qt_ne (by omega)).trans (qt_ne (by omega))) c6) (f_r7 (fun a j q => (qw_si_ne (by omega)).trans ((qw_si_ne (by omega)).trans (qw_si_ne (by omega)))) (fun a j q => (qt_ne (by omega)).trans (qt_ne (by omega))) c7)
theorem k61f (x y z : Int32) : qs_sf 61 135 [.int x, .int y, .int z] := by
  intro s hs
  have h8 := hs.1.1
  by_cases g1 : ¬ x < 0 ∧ ¬ 4 < x
  · by_cases g2 : qg_v 0 y
    · by_cases zz0 : s.1 0 0 = 0
      · obtain ⟨k, hk, rfl⟩ : ∃ k, k ≤ 4 ∧ x = nI k := by
          obtain ⟨c, hc, rfl⟩ := qg_nat g1.1
          have b := g1.2
          rw [show (4 : Int32) = nI 4 from rfl, nI_lt_iff (by decide) hc] at b
          exact ⟨c, by omega, rfl⟩
        obtain ⟨m, hm1, hm, rfl⟩ := qg_vN g2
        have hm1 : 1 ≤ m := hm1
        have hm : m ≤ 99 := hm
        obtain ⟨n, hn⟩ : ∃ n, s.1 0 0 = n := ⟨_, rfl⟩
        have zz : n = 0 := by omega
        have w : Nat := 1
        obtain ⟨o1, o2, o3, o4, o5, o6, o7⟩ := hs
        refine ⟨nI n, (ql (ql (ql (ql s.1 1 n k) 2 n m) 3 n 0) 0 0 (n + 1), s.2.1, qt (qt s.2.2.1 0 1 0) 0 2 0, s.2.2.2), mk_ok (ok_join (k := k) (m := m) (s := w) o1 (by omega) hk hm1 hm (fun q => absurd q (by omega)) (ql (ql (ql (ql s.1 1 n k) 2 n m) 3 n 0) 0 0 (n + 1)) (by rw [hn]; exact ql_eq) (by simp [ql]) (by simp [ql]) (fun i => by rw [hn]; simp [ql]) (fun i => by rw [hn]; simp [ql]) (fun i => by rw [hn]; simp [ql]) (fun i => by rw [if_neg (by omega)]; simp [ql]) (fun i => by rw [if_neg (by omega)]; simp [ql])) (f_im (fun a j q => (qt_ne (by omega)).trans (qt_ne (by omega))) o2) (f_or (fun a j q => (qt_ne (by omega)).trans (qt_ne (by omega))) o3) (qs_ch0 ((qt_ne (by omega)).trans qt_eq) qt_eq) (f_tp (fun a j q => (qt_ne (by omega)).trans (qt_ne (by omega))) o5) (f_rw (fun a j q => (qt_ne (by omega)).trans (qt_ne (by omega))) o6) (f_tc (fun a j q => (qt_ne (by omega)).trans (qt_ne (by omega))) o7), ⟨rfl, rfl, fun a j q => (qt_ne (by omega)).trans (qt_ne (by omega))⟩, ?_, ?_⟩
        · rintro d h ⟨c1, c2, c3, c4, c5, c6, c7, c8⟩
          have b1 : (q_si (q_si h 38 4 0) 38 5 0).1 12 6 = nI n := by rw [qw_si_ne (by omega), qw_si_ne (by omega), c1.1, hn]
          have b2 : (q_si (q_si (q_si (q_si (q_si h 38 4 0) 38 5 0) 13 n (nI k)) 14 n (nI m)) 15 n (nI 0)).1 12 6 = nI n := by rw [qw_si_ne (by omega), qw_si_ne (by omega), qw_si_ne (by omega), b1]
          refine ⟨q_si (q_si (q_si (q_si (q_si (q_si h 38 4 0) 38 5 0) 13 n (nI k)) 14 n (nI m)) 15 n (nI 0)) 12 6 (nI (n + 1)), ?_, ?_⟩
          · rw [m61, s104p _ _ g1, q_c1_s, if_neg (by decide), show (0 : Int32) = nI 0 from rfl, s105p _ _ (by omega) g2, q_c1_s, c1.1]
            rw [if_neg (show ¬ (1 : Int32) = nI 0 by decide)]
            show (if (0 : Int32) < nI (s.1 0 0) then _ else _) = _
            rw [if_neg (by rw [hn, zz]; decide), b61_37, c1.1, if_pos (by rw [hn, show (8 : Int32) = nI 8 from rfl, nI_lt_iff (by omega) (by omega)]; omega), m0, q_c0_s, m17, b1, q_ix_n (by omega) (by decide), q_ix_n (by omega) (by decide), q_ix_n (by omega) (by decide)]
            rw [if_neg (by rw [zz]; decide), b17_61]
            show q_c1 (some (q_si (q_si (q_si (q_si (q_si (q_si h 38 4 0) 38 5 0) 13 n (nI k)) 14 n (nI m)) 15 n (nI 0)) 12 6 ((q_si (q_si (q_si (q_si (q_si h 38 4 0) 38 5 0) 13 n (nI k)) 14 n (nI m)) 15 n (nI 0)).1 12 6 + 1), some (.int ((q_si (q_si (q_si (q_si (q_si h 38 4 0) 38 5 0) 13 n (nI k)) 14 n (nI m)) 15 n (nI 0)).1 12 6 + 1 - 1)))) _ = _
            rw [b2, nI_p1, nI_m1, q_c1_s]
            rfl
          · refine ⟨?_, fun a j q => by repeat rw [qw_si_ne (by omega)]⟩
            exact mk_C (at_0 (at_a (o := 12) (b := 3) (by omega) (at_a (o := 12) (b := 2) (by omega) (at_a (o := 12) (b := 1) (by omega) (f_c1 (fun a j q => (qw_si_ne (by omega)).trans (qw_si_ne (by omega))) c1))))) (f_c2 (fun a j q => (qw_si_ne (by omega)).trans ((qw_si_ne (by omega)).trans ((qw_si_ne (by omega)).trans ((qw_si_ne (by omega)).trans ((qw_si_ne (by omega)).trans (qw_si_ne (by omega))))))) (fun a j q => (qt_ne (by omega)).trans (qt_ne (by omega))) c2) (f_c3 (fun a j q => (qw_si_ne (by omega)).trans ((qw_si_ne (by omega)).trans ((qw_si_ne (by omega)).trans ((qw_si_ne (by omega)).trans ((qw_si_ne (by omega)).trans (qw_si_ne (by omega))))))) (fun a j q => (qt_ne (by omega)).trans (qt_ne (by omega))) c3) (⟨by rw [qw_si_ne (by omega), qw_si_ne (by omega), qw_si_ne (by omega), qw_si_ne (by omega), qw_si_ne (by omega), qw_si_eq, qt_ne (by omega), qt_eq], by rw [qw_si_ne (by omega), qw_si_ne (by omega), qw_si_ne (by omega), qw_si_ne (by omega), qw_si_eq, qt_eq], fun a i x y => by rw [qw_si_ne (by omega), qw_si_ne (by omega), qw_si_ne (by omega), qw_si_ne (by omega), qw_si_ne (by omega), qw_si_ne (by omega), qt_ne (by omega), qt_ne (by omega)]; exact c4.2.2 a i x y⟩) (f_c5 (fun a j q => (qw_si_ne (by omega)).trans ((qw_si_ne (by omega)).trans ((qw_si_ne (by omega)).trans ((qw_si_ne (by omega)).trans ((qw_si_ne (by omega)).trans (qw_si_ne (by omega))))))) (fun a j q => (qt_ne (by omega)).trans (qt_ne (by omega))) c5) (f_c6 (fun a j q => (qw_si_ne (by omega)).trans ((qw_si_ne (by omega)).trans ((qw_si_ne (by omega)).trans ((qw_si_ne (by omega)).trans ((qw_si_ne (by omega)).trans (qw_si_ne (by omega))))))) (fun _ _ _ => rfl) (fun a j q => (qt_ne (by omega)).trans (qt_ne (by omega))) c6) (f_c7 (fun a j q => (qw_si_ne (by omega)).trans ((qw_si_ne (by omega)).trans ((qw_si_ne (by omega)).trans ((qw_si_ne (by omega)).trans ((qw_si_ne (by omega)).trans (qw_si_ne (by omega))))))) rfl (fun a j q => (qt_ne (by omega)).trans (qt_ne (by omega))) c7) (c8)
        · rintro d h ⟨c1, c2, c3, c4, c6, c7⟩
          have b2 : (q_si (q_si (q_si (q_si (q_si h 68 n (nI k)) 69 n (nI m)) 70 n (nI 0)) 67 20 0) 67 21 0).1 67 0 = nI n := by rw [qw_si_ne (by omega), qw_si_ne (by omega), qw_si_ne (by omega), qw_si_ne (by omega), qw_si_ne (by omega), c1.1, hn]
          refine ⟨q_si (q_si (q_si (q_si (q_si (q_si h 68 n (nI k)) 69 n (nI m)) 70 n (nI 0)) 67 20 0) 67 21 0) 67 0 (nI (n + 1)), ?_, ?_⟩
          · rw [m135, s120p _ _ g1.1 g1.2, q_c1_s, if_neg (by decide), s120p (y := 1) (z := 99) _ _ g2.1 g2.2, q_c1_s, if_neg (by decide), c1.1, if_neg (by rw [hn, zz]; decide), b135_38, c1.1, hn, if_neg (by rw [show (8 : Int32) = nI 8 from rfl, nI_eq_iff (by omega) (by omega)]; omega), q_ix_n (by omega) (by decide), q_ix_n (by omega) (by decide), q_ix_n (by omega) (by decide)]
            rw [if_neg (by rw [zz]; decide), b135_111, m134]
            show q_c0 (some (q_si (q_si (q_si (q_si (q_si h 68 n (nI k)) 69 n (nI m)) 70 n (nI 0)) 67 20 0) 67 21 0, none)) _ = _
            rw [q_c0_s, b2, nI_p1]
          · refine ⟨?_, fun a j q => by repeat rw [qw_si_ne (by omega)]⟩
            exact mk_Q (aw_0 (f_r1 (fun a j q => (qw_si_ne (by omega)).trans (qw_si_ne (by omega))) (aw_a (b := 3) (by omega) (aw_a (b := 2) (by omega) (aw_a (b := 1) (by omega) (c1)))))) (f_r2 (fun a j q => (qw_si_ne (by omega)).trans ((qw_si_ne (by omega)).trans ((qw_si_ne (by omega)).trans ((qw_si_ne (by omega)).trans ((qw_si_ne (by omega)).trans (qw_si_ne (by omega))))))) (fun a j q => (qt_ne (by omega)).trans (qt_ne (by omega))) c2) (f_r3 (fun a j q => (qw_si_ne (by omega)).trans ((qw_si_ne (by omega)).trans ((qw_si_ne (by omega)).trans ((qw_si_ne (by omega)).trans ((qw_si_ne (by omega)).trans (qw_si_ne (by omega))))))) (fun a j q => (qt_ne (by omega)).trans (qt_ne (by omega))) c3) (⟨by rw [qw_si_ne (by omega), qw_si_ne (by omega), qw_si_eq, qt_ne (by omega), qt_eq], by rw [qw_si_ne (by omega), qw_si_eq, qt_eq], fun a i x y => by rw [qw_si_ne (by omega), qw_si_ne (by omega), qw_si_ne (by omega), qw_si_ne (by omega), qw_si_ne (by omega), qw_si_ne (by omega), qt_ne (by omega), qt_ne (by omega)]; exact c4.2.2 a i x y⟩) (f_r6 (fun a j q => (qw_si_ne (by omega)).trans ((qw_si_ne (by omega)).trans ((qw_si_ne (by omega)).trans ((qw_si_ne (by omega)).trans ((qw_si_ne (by omega)).trans (qw_si_ne (by omega))))))) (fun _ _ _ => rfl) (fun a j q => (qt_ne (by omega)).trans (qt_ne (by omega))) c6) (f_r7 (fun a j q => (qw_si_ne (by omega)).trans ((qw_si_ne (by omega)).trans ((qw_si_ne (by omega)).trans ((qw_si_ne (by omega)).trans ((qw_si_ne (by omega)).trans (qw_si_ne (by omega))))))) (fun a j q => (qt_ne (by omega)).trans (qt_ne (by omega))) c7)
      · by_cases g3 : qg_v 1 z
        · by_cases h88 : s.1 0 0 = 8
          · refine qs_nof (-3) hs ?_ ?_
            · intro d h hc
              rw [m61, s104p _ _ g1, q_c1_s, if_neg (by decide), show (0 : Int32) = nI 0 from rfl, s105p _ _ (by omega) g2, q_c1_s, hc.1.1]
              rw [if_neg (show ¬ (1 : Int32) = nI 0 by decide)]
              show (if (0 : Int32) < nI (s.1 0 0) then _ else _) = _
              rw [if_pos (by rw [h88]; decide), show (1 : Int32) = nI 1 from rfl, s105p _ _ (by omega) g3, q_c1_s, if_neg (by decide), b61_37, hc.1.1, h88, if_neg (by decide)]
            · intro d h hr
              rw [m135, s120p _ _ g1.1 g1.2, q_c1_s, if_neg (by decide), s120p (y := 1) (z := 99) _ _ g2.1 g2.2, q_c1_s, if_neg (by decide), hr.1.1, if_pos (by rw [h88]; decide), s120p (y := 1) (z := 99) _ _ g3.1 g3.2, q_c1_s, if_neg (by decide), b135_38, hr.1.1, h88, if_pos (by decide)]
          · obtain ⟨k, hk, rfl⟩ : ∃ k, k ≤ 4 ∧ x = nI k := by
              obtain ⟨c, hc, rfl⟩ := qg_nat g1.1
              have b := g1.2
              rw [show (4 : Int32) = nI 4 from rfl, nI_lt_iff (by decide) hc] at b
              exact ⟨c, by omega, rfl⟩
            obtain ⟨m, hm1, hm, rfl⟩ := qg_vN g2
            obtain ⟨w, hw1, hw, rfl⟩ := qg_vN g3
            have hm1 : 1 ≤ m := hm1
            have hm : m ≤ 99 := hm
            have hw1 : 1 ≤ w := hw1
            have hw : w ≤ 99 := hw
            obtain ⟨n, hn⟩ : ∃ n, s.1 0 0 = n := ⟨_, rfl⟩
            have hnm : nI n - 1 = nI (n - 1) := by
              obtain ⟨r, hr⟩ : ∃ r, n = r + 1 := ⟨n - 1, by omega⟩
              rw [hr, nI_m1, Nat.add_sub_cancel]
            obtain ⟨o1, o2, o3, o4, o5, o6, o7⟩ := hs
            refine ⟨nI n, (ql (ql (ql (ql (ql (ql s.1 1 n k) 2 n m) 3 n 0) 4 (n - 1) w) 5 (n - 1) 1) 0 0 (n + 1), s.2.1, qt (qt s.2.2.1 0 1 0) 0 2 0, s.2.2.2), mk_ok (ok_join (k := k) (m := m) (s := w) o1 (by omega) hk hm1 hm (fun q => ⟨hw1, hw⟩) (ql (ql (ql (ql (ql (ql s.1 1 n k) 2 n m) 3 n 0) 4 (n - 1) w) 5 (n - 1) 1) 0 0 (n + 1)) (by rw [hn]; exact ql_eq) (by simp [ql]) (by simp [ql]) (fun i => by rw [hn]; simp [ql]) (fun i => by rw [hn]; simp [ql]) (fun i => by rw [hn]; simp [ql]) (fun i => by
                    rw [hn]
                    by_cases q : i = n - 1
                    · rw [if_pos (by omega)]; simp [ql, q]
                    · rw [if_neg (by omega)]; simp [ql, q]) (fun i => by
                    rw [hn]
                    by_cases q : i = n - 1
                    · rw [if_pos (by omega)]; simp [ql, q]
                    · rw [if_neg (by omega)]; simp [ql, q])) (f_im (fun a j q => (qt_ne (by omega)).trans (qt_ne (by omega))) o2) (f_or (fun a j q => (qt_ne (by omega)).trans (qt_ne (by omega))) o3) (qs_ch0 ((qt_ne (by omega)).trans qt_eq) qt_eq) (f_tp (fun a j q => (qt_ne (by omega)).trans (qt_ne (by omega))) o5) (f_rw (fun a j q => (qt_ne (by omega)).trans (qt_ne (by omega))) o6) (f_tc (fun a j q => (qt_ne (by omega)).trans (qt_ne (by omega))) o7), ⟨rfl, rfl, fun a j q => (qt_ne (by omega)).trans (qt_ne (by omega))⟩, ?_, ?_⟩
            · rintro d h ⟨c1, c2, c3, c4, c5, c6, c7, c8⟩
              have b1 : (q_si (q_si h 38 4 0) 38 5 0).1 12 6 = nI n := by rw [qw_si_ne (by omega), qw_si_ne (by omega), c1.1, hn]
              have b2 : (q_si (q_si (q_si (q_si (q_si (q_si (q_si h 38 4 0) 38 5 0) 13 n (nI k)) 14 n (nI m)) 15 n (nI 0)) 16 (n - 1) (nI w)) 17 (n - 1) (nI 1)).1 12 6 = nI n := by rw [qw_si_ne (by omega), qw_si_ne (by omega), qw_si_ne (by omega), qw_si_ne (by omega), qw_si_ne (by omega), b1]
              refine ⟨q_si (q_si (q_si (q_si (q_si (q_si (q_si (q_si h 38 4 0) 38 5 0) 13 n (nI k)) 14 n (nI m)) 15 n (nI 0)) 16 (n - 1) (nI w)) 17 (n - 1) (nI 1)) 12 6 (nI (n + 1)), ?_, ?_⟩
              · rw [m61, s104p _ _ g1, q_c1_s, if_neg (by decide), show (0 : Int32) = nI 0 from rfl, s105p _ _ (by omega) g2, q_c1_s, c1.1]
                rw [if_neg (show ¬ (1 : Int32) = nI 0 by decide)]
                show (if (0 : Int32) < nI (s.1 0 0) then _ else _) = _
                rw [if_pos (by rw [hn, nI_pos_iff (by omega)]; omega), show (1 : Int32) = nI 1 from rfl, s105p _ _ (by omega) g3, q_c1_s, if_neg (by decide), b61_37, c1.1, if_pos (by rw [hn, show (8 : Int32) = nI 8 from rfl, nI_lt_iff (by omega) (by omega)]; omega), m0, q_c0_s, m17, b1, q_ix_n (by omega) (by decide), q_ix_n (by omega) (by decide), q_ix_n (by omega) (by decide)]
                rw [if_pos (by rw [nI_pos_iff (by omega)]; omega), hnm, q_ix_n (by omega) (by decide), q_ix_n (by omega) (by decide), b17_61]
                show q_c1 (some (q_si (q_si (q_si (q_si (q_si (q_si (q_si (q_si h 38 4 0) 38 5 0) 13 n (nI k)) 14 n (nI m)) 15 n (nI 0)) 16 (n - 1) (nI w)) 17 (n - 1) (nI 1)) 12 6 ((q_si (q_si (q_si (q_si (q_si (q_si (q_si h 38 4 0) 38 5 0) 13 n (nI k)) 14 n (nI m)) 15 n (nI 0)) 16 (n - 1) (nI w)) 17 (n - 1) (nI 1)).1 12 6 + 1), some (.int ((q_si (q_si (q_si (q_si (q_si (q_si (q_si h 38 4 0) 38 5 0) 13 n (nI k)) 14 n (nI m)) 15 n (nI 0)) 16 (n - 1) (nI w)) 17 (n - 1) (nI 1)).1 12 6 + 1 - 1)))) _ = _
                rw [b2, nI_p1, nI_m1, q_c1_s]
                rfl
              · refine ⟨?_, fun a j q => by repeat rw [qw_si_ne (by omega)]⟩
                exact mk_C (at_0 (at_a (o := 12) (b := 5) (by omega) (at_a (o := 12) (b := 4) (by omega) (at_a (o := 12) (b := 3) (by omega) (at_a (o := 12) (b := 2) (by omega) (at_a (o := 12) (b := 1) (by omega) (f_c1 (fun a j q => (qw_si_ne (by omega)).trans (qw_si_ne (by omega))) c1))))))) (f_c2 (fun a j q => (qw_si_ne (by omega)).trans ((qw_si_ne (by omega)).trans ((qw_si_ne (by omega)).trans ((qw_si_ne (by omega)).trans ((qw_si_ne (by omega)).trans ((qw_si_ne (by omega)).trans ((qw_si_ne (by omega)).trans (qw_si_ne (by omega))))))))) (fun a j q => (qt_ne (by omega)).trans (qt_ne (by omega))) c2) (f_c3 (fun a j q => (qw_si_ne (by omega)).trans ((qw_si_ne (by omega)).trans ((qw_si_ne (by omega)).trans ((qw_si_ne (by omega)).trans ((qw_si_ne (by omega)).trans ((qw_si_ne (by omega)).trans ((qw_si_ne (by omega)).trans (qw_si_ne (by omega))))))))) (fun a j q => (qt_ne (by omega)).trans (qt_ne (by omega))) c3) (⟨by rw [qw_si_ne (by omega), qw_si_ne (by omega), qw_si_ne (by omega), qw_si_ne (by omega), qw_si_ne (by omega), qw_si_ne (by omega), qw_si_ne (by omega), qw_si_eq, qt_ne (by omega), qt_eq], by rw [qw_si_ne (by omega), qw_si_ne (by omega), qw_si_ne (by omega), qw_si_ne (by omega), qw_si_ne (by omega), qw_si_ne (by omega), qw_si_eq, qt_eq], fun a i x y => by rw [qw_si_ne (by omega), qw_si_ne (by omega), qw_si_ne (by omega), qw_si_ne (by omega), qw_si_ne (by omega), qw_si_ne (by omega), qw_si_ne (by omega), qw_si_ne (by omega), qt_ne (by omega), qt_ne (by omega)]; exact c4.2.2 a i x y⟩) (f_c5 (fun a j q => (qw_si_ne (by omega)).trans ((qw_si_ne (by omega)).trans ((qw_si_ne (by omega)).trans ((qw_si_ne (by omega)).trans ((qw_si_ne (by omega)).trans ((qw_si_ne (by omega)).trans ((qw_si_ne (by omega)).trans (qw_si_ne (by omega))))))))) (fun a j q => (qt_ne (by omega)).trans (qt_ne (by omega))) c5) (f_c6 (fun a j q => (qw_si_ne (by omega)).trans ((qw_si_ne (by omega)).trans ((qw_si_ne (by omega)).trans ((qw_si_ne (by omega)).trans ((qw_si_ne (by omega)).trans ((qw_si_ne (by omega)).trans ((qw_si_ne (by omega)).trans (qw_si_ne (by omega))))))))) (fun _ _ _ => rfl) (fun a j q => (qt_ne (by omega)).trans (qt_ne (by omega))) c6) (f_c7 (fun a j q => (qw_si_ne (by omega)).trans ((qw_si_ne (by omega)).trans ((qw_si_ne (by omega)).trans ((qw_si_ne (by omega)).trans ((qw_si_ne (by omega)).trans ((qw_si_ne (by omega)).trans ((qw_si_ne (by omega)).trans (qw_si_ne (by omega))))))))) rfl (fun a j q => (qt_ne (by omega)).trans (qt_ne (by omega))) c7) (c8)
            · rintro d h ⟨c1, c2, c3, c4, c6, c7⟩
              have b2 : (q_si (q_si (q_si (q_si (q_si (q_si (q_si h 68 n (nI k)) 69 n (nI m)) 70 n (nI 0)) 71 (n - 1) (nI w)) 72 (n - 1) (nI 1)) 67 20 0) 67 21 0).1 67 0 = nI n := by rw [qw_si_ne (by omega), qw_si_ne (by omega), qw_si_ne (by omega), qw_si_ne (by omega), qw_si_ne (by omega), qw_si_ne (by omega), qw_si_ne (by omega), c1.1, hn]
              refine ⟨q_si (q_si (q_si (q_si (q_si (q_si (q_si (q_si h 68 n (nI k)) 69 n (nI m)) 70 n (nI 0)) 71 (n - 1) (nI w)) 72 (n - 1) (nI 1)) 67 20 0) 67 21 0) 67 0 (nI (n + 1)), ?_, ?_⟩
              · rw [m135, s120p _ _ g1.1 g1.2, q_c1_s, if_neg (by decide), s120p (y := 1) (z := 99) _ _ g2.1 g2.2, q_c1_s, if_neg (by decide), c1.1, if_pos (by rw [hn, nI_pos_iff (by omega)]; omega), s120p (y := 1) (z := 99) _ _ g3.1 g3.2, q_c1_s, if_neg (by decide), b135_38, c1.1, hn, if_neg (by rw [show (8 : Int32) = nI 8 from rfl, nI_eq_iff (by omega) (by omega)]; omega), q_ix_n (by omega) (by decide), q_ix_n (by omega) (by decide), q_ix_n (by omega) (by decide)]
                rw [if_pos (by rw [nI_pos_iff (by omega)]; omega), hnm, q_ix_n (by omega) (by decide), q_ix_n (by omega) (by decide), b135_111, m134]
                show q_c0 (some (q_si (q_si (q_si (q_si (q_si (q_si (q_si h 68 n (nI k)) 69 n (nI m)) 70 n (nI 0)) 71 (n - 1) (nI w)) 72 (n - 1) (nI 1)) 67 20 0) 67 21 0, none)) _ = _
                rw [q_c0_s, b2, nI_p1]
              · refine ⟨?_, fun a j q => by repeat rw [qw_si_ne (by omega)]⟩
                exact mk_Q (aw_0 (f_r1 (fun a j q => (qw_si_ne (by omega)).trans (qw_si_ne (by omega))) (aw_a (b := 5) (by omega) (aw_a (b := 4) (by omega) (aw_a (b := 3) (by omega) (aw_a (b := 2) (by omega) (aw_a (b := 1) (by omega) (c1)))))))) (f_r2 (fun a j q => (qw_si_ne (by omega)).trans ((qw_si_ne (by omega)).trans ((qw_si_ne (by omega)).trans ((qw_si_ne (by omega)).trans ((qw_si_ne (by omega)).trans ((qw_si_ne (by omega)).trans ((qw_si_ne (by omega)).trans (qw_si_ne (by omega))))))))) (fun a j q => (qt_ne (by omega)).trans (qt_ne (by omega))) c2) (f_r3 (fun a j q => (qw_si_ne (by omega)).trans ((qw_si_ne (by omega)).trans ((qw_si_ne (by omega)).trans ((qw_si_ne (by omega)).trans ((qw_si_ne (by omega)).trans ((qw_si_ne (by omega)).trans ((qw_si_ne (by omega)).trans (qw_si_ne (by omega))))))))) (fun a j q => (qt_ne (by omega)).trans (qt_ne (by omega))) c3) (⟨by rw [qw_si_ne (by omega), qw_si_ne (by omega), qw_si_eq, qt_ne (by omega), qt_eq], by rw [qw_si_ne (by omega), qw_si_eq, qt_eq], fun a i x y => by rw [qw_si_ne (by omega), qw_si_ne (by omega), qw_si_ne (by omega), qw_si_ne (by omega), qw_si_ne (by omega), qw_si_ne (by omega), qw_si_ne (by omega), qw_si_ne (by omega), qt_ne (by omega), qt_ne (by omega)]; exact c4.2.2 a i x y⟩) (f_r6 (fun a j q => (qw_si_ne (by omega)).trans ((qw_si_ne (by omega)).trans ((qw_si_ne (by omega)).trans ((qw_si_ne (by omega)).trans ((qw_si_ne (by omega)).trans ((qw_si_ne (by omega)).trans ((qw_si_ne (by omega)).trans (qw_si_ne (by omega))))))))) (fun _ _ _ => rfl) (fun a j q => (qt_ne (by omega)).trans (qt_ne (by omega))) c6) (f_r7 (fun a j q => (qw_si_ne (by omega)).trans ((qw_si_ne (by omega)).trans ((qw_si_ne (by omega)).trans ((qw_si_ne (by omega)).trans ((qw_si_ne (by omega)).trans ((qw_si_ne (by omega)).trans ((qw_si_ne (by omega)).trans (qw_si_ne (by omega))))))))) (fun a j q => (qt_ne (by omega)).trans (qt_ne (by omega))) c7)
        · refine qs_nof (-1) hs ?_ ?_
          · intro d h hc
            rw [m61, s104p _ _ g1, q_c1_s, if_neg (by decide), show (0 : Int32) = nI 0 from rfl, s105p _ _ (by omega) g2, q_c1_s, hc.1.1]
            rw [if_neg (show ¬ (1 : Int32) = nI 0 by decide)]
            show (if (0 : Int32) < nI (s.1 0 0) then _ else _) = _
            rw [if_pos (by rw [nI_pos_iff (by omega)]; omega), show (1 : Int32) = nI 1 from rfl, s105n _ _ (by omega) g3, q_c1_s, if_pos (by decide)]
          · intro d h hr
            rw [m135, s120p _ _ g1.1 g1.2, q_c1_s, if_neg (by decide), s120p (y := 1) (z := 99) _ _ g2.1 g2.2, q_c1_s, if_neg (by decide), hr.1.1, if_pos (by rw [nI_pos_iff (by omega)]; omega), s120n (y := 1) (z := 99) _ _ g3, q_c1_s, if_pos (by decide)]
    · refine qs_nof (-1) hs ?_ ?_
      · intro d h hc
        rw [m61, s104p _ _ g1, q_c1_s, if_neg (by decide), show (0 : Int32) = nI 0 from rfl, s105n _ _ (by omega) g2, q_c1_s, if_pos (by decide)]
      · intro d h hr
        rw [m135, s120p _ _ g1.1 g1.2, q_c1_s, if_neg (by decide), s120n (y := 1) (z := 99) _ _ g2, q_c1_s, if_pos (by decide)]
  · refine qs_nof (-1) hs ?_ ?_
    · intro d h hc
      rw [m61, s104n _ _ g1, q_c1_s, if_pos (by decide)]
    · intro d h hr
      rw [m135, s120n _ _ g1, q_c1_s, if_pos (by decide)]
theorem k64f (x y z : Int32) : qs_sf 64 145 [.int x, .int y, .int z] := by
  intro s hs
  have h8 := hs.1.1
  by_cases hx : ∃ w, w ≤ 5 ∧ x = nI w
  · obtain ⟨w, hw, rfl⟩ := hx
    by_cases g : qg_pl s.1 w y ∧ qg_v w z
    · obtain ⟨k, hk, hy, hd, hsf⟩ := qg_plN h8 g.1
      obtain ⟨v, hv1, hv2, rfl⟩ := qg_vN g.2
      have hm : q_mst w ≤ 99 := by unfold q_mst; split <;> (try omega); split <;> (try omega); split <;> omega
      by_cases r : w = 3 ∧ 6 < qv_but s.1 k (s.1 0 0 - 1) * v
      · obtain ⟨rfl, r⟩ := r
        have hk1 := hsf (by omega)
        have e := hy (by omega)
        subst e
        have hv6 : v ≤ 6 := hv2
        refine qs_nof (-5) hs ?_ ?_
        · intro d h hc
          rw [m64, s22s_12 _ hs.1 hc.1 hk1 g.1 g.2 hv6 (but_6 hs.1 hk1) r, q_c1_s, if_neg (by decide)]
        · intro d h hr
          rw [m145, s143s _ hs.1 hr.1 hk1 g.1 g.2 hv6 r, q_c1_s, if_neg (by decide)]
      · have r3 : w = 3 → qv_but s.1 k (s.1 0 0 - 1) * v ≤ 6 := fun q => by
          rcases Nat.lt_or_ge 6 (qv_but s.1 k (s.1 0 0 - 1) * v) with p | p
          · exact absurd ⟨q, p⟩ r
          · exact p
        have gb := get_bd hs.1 (w := w) hk
        by_cases u : qv_get s.1 w k = v
        · refine qs_nof (nI v) hs ?_ ?_
          · intro d h hc
            rw [m64, s22p_12 _ hs.1 hc.1 hw hy (fun q => hsf (by omega)) g.1 g.2 r3, q_c1_s, if_pos rfl, s23 _ hc.1 hw hk hy, q_c1_s, u, if_pos rfl]
          · intro d h hr
            rw [m145, s143p _ hs.1 hr.1 hw hy (fun q => hsf (by omega)) g.1 g.2 r3, q_c1_s, if_pos rfl, s138 _ hr.1 hw hk hy, q_c1_s, u, if_pos rfl]
        · have hne : ¬ nI (qv_get s.1 w k) = nI v := by rw [nI_eq_iff (by omega) (by omega)]; exact u
          obtain ⟨L, dn, un, e1, e2, e3, e4, e5⟩ := hs.2.2.2.1
          have hok := ok_put hs.1 hw hk hd hsf hv1 hv2 r3
          obtain ⟨o1, o2, o3, o4, o5, o6, o7⟩ := hs
          refine ⟨nI (qv_get s.1 w k), (qv_put s.1 w k v, s.2.1, qt_add s.2.2.1 dn (nI w) y (nI (qv_get s.1 w k)) (nI v), s.2.2.2), mk_ok hok (f_im (fun a j q => ta_ne (by omega)) o2) (f_or (fun a j q => ta_ne (by omega)) o3) (ch_add e3 e4 e5 ⟨o1, hok, w, k, qv_get s.1 w k, v, hw, hk, gb, by omega, rfl, hy, rfl, rfl, rfl, (put_put s.1 hw k v).symm⟩) (f_tp (fun a j q => ta_ne (by omega)) o5) (f_rw (fun a j q => ta_ne (by omega)) o6) (f_tc (fun a j q => ta_ne (by omega)) o7), ⟨rfl, rfl, fun a j q => ta_ne q⟩, ?_, ?_⟩
          · rintro d h ⟨c1, c2, c3, c4, c5, c6, c7, c8⟩
            obtain ⟨h2, g1, g2, g3, g4⟩ := s24_12 (d + 12) c1 hw hk hy v
            obtain ⟨h3, j1, j2, j3, j4, j5, j6⟩ := s1 (d + 11) h2 dn (by omega) (by rw [g3 _ _ (by omega), c4.1, e1]) (nI w) y (nI (qv_get s.1 w k)) (nI v)
            refine ⟨h3, ?_, ?_⟩
            · rw [m64, s22p_12 _ o1 c1 hw hy (fun q => hsf (by omega)) g.1 g.2 r3, q_c1_s, if_pos rfl, s23 _ c1 hw hk hy, q_c1_s, if_neg hne, g1, q_c0_s, j1, q_c0_s]
            · have u : ∀ a j, ¬ (12 ≤ a ∧ a ≤ 17) → ¬ (38 ≤ a ∧ a ≤ 42) → h3.1 a j = h.1 a j := fun a j q r => (j5 a j r).trans (g3 a j q)
              have ul : h3.2 = h.2 := j6.trans g4
              refine ⟨?_, fun a j q => u a j (by omega) (by omega)⟩
              exact mk_C (f_c1 (fun a j q => j5 a j (by omega)) g2) (f_c2 (fun a j q => u a j (by omega) (by omega)) (fun a j q => ta_ne (by omega)) c2) (f_c3 (fun a j q => u a j (by omega) (by omega)) (fun a j q => ta_ne (by omega)) c3) ⟨j2, j3, fun a i x y => by
                rw [j4 a i x y, ta_a x]
                unfold qx_add
                split
                · by_cases zz : i = 11
                  · rw [if_pos zz, if_pos zz]
                  · rw [if_neg zz, if_neg zz, g3 _ _ (by omega)]
                    exact c4.2.2 a (i + 1) x (by omega)
                · split
                  · rfl
                  · rw [g3 _ _ (by omega)]
                    exact c4.2.2 a i x y⟩ (f_c5 (fun a j q => u a j (by omega) (by omega)) (fun a j q => ta_ne (by omega)) c5) (f_c6 (fun a j q => u a j (by omega) (by omega)) (fun a j _ => by rw [ul]) (fun a j q => ta_ne (by omega)) c6) (f_c7 (fun a j q => u a j (by omega) (by omega)) (by rw [ul]) (fun a j q => ta_ne (by omega)) c7) (f_z (fun a j _ => by rw [ul]) c8)
          · rintro d h ⟨c1, c2, c3, c4, c6, c7⟩
            obtain ⟨h2, j1, j2, j3, j4, j5, j6⟩ := s144 (d + 12) h dn (by omega) (c4.1.trans e1) (nI w) y (nI (qv_get s.1 w k)) (nI v)
            obtain ⟨h3, g1, g2, g3, g4⟩ := s139 (d + 12) (h := h2) (f_r1 (fun a j q => j5 a j (by omega)) c1) hw hk hy v
            refine ⟨h3, ?_, ?_⟩
            · rw [m145, s143p _ o1 c1 hw hy (fun q => hsf (by omega)) g.1 g.2 r3, q_c1_s, if_pos rfl, s138 _ c1 hw hk hy, q_c1_s, if_neg hne, j1, q_c0_s, g1, q_c0_s]
            · have u : ∀ a j, ¬ ((a = 67 ∧ j < 3) ∨ (68 ≤ a ∧ a ≤ 72)) → ¬ ((a = 67 ∧ (j = 20 ∨ j = 21)) ∨ (81 ≤ a ∧ a ≤ 84)) → h3.1 a j = h.1 a j := fun a j q r => (g3 a j q).trans (j5 a j r)
              have ul : h3.2 = h.2 := g4.trans j6
              refine ⟨?_, fun a j q => u a j (by omega) (by omega)⟩
              exact mk_Q g2 (f_r2 (fun a j q => u a j (by omega) (by omega)) (fun a j q => ta_ne (by omega)) c2) (f_r3 (fun a j q => u a j (by omega) (by omega)) (fun a j q => ta_ne (by omega)) c3) ⟨by rw [g3 _ _ (by omega), j2, ta_1], by rw [g3 _ _ (by omega), j3, ta_2], fun a i x y => by
                rw [g3 _ _ (by omega), j4 a i x y, ta_a x]
                unfold qx_add
                split
                · by_cases zz : i = 11
                  · rw [if_pos zz, if_pos zz]
                  · rw [if_neg zz, if_neg zz]
                    exact c4.2.2 a (i + 1) x (by omega)
                · split
                  · rfl
                  · exact c4.2.2 a i x y⟩ (f_r6 (fun a j q => u a j (by omega) (by omega)) (fun a j _ => by rw [ul]) (fun a j q => ta_ne (by omega)) c6) (f_r7 (fun a j q => u a j (by omega) (by omega)) (fun a j q => ta_ne (by omega)) c7)
    · refine qs_nof (-1) hs ?_ ?_
      · intro d h hc
        rw [m64, s22n_12 _ hc.1 hw g, q_c1_s, if_neg (by decide)]
      · intro d h hr
        rw [m145, s143n _ hs.1 hr.1 hw g, q_c1_s, if_neg (by decide)]
  · have hy : ∀ w, w ≤ 5 → x ≠ nI w := fun w a b => hx ⟨w, a, b⟩
    refine qs_nof (-1) hs ?_ ?_
    · intro d h hc
      rw [m64, s22o_12 _ _ hy, q_c1_s, if_neg (by decide)]
    · intro d h hr
      rw [m145, s143o _ _ hy, q_c1_s, if_neg (by decide)]
