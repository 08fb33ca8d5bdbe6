/-! ===== of, taken, trace ===== -/
theorem c65 (x y : Int32) : qs_st 65 148 [.int x, .int y] := by
  intro s hs
  have h8 := hs.1.1
  by_cases hx : ∃ w, w ≤ 5 ∧ x = nI w
  · obtain ⟨w, hw, rfl⟩ := hx
    have n5 : ¬ 5 < nI w := by rw [show (5 : Int32) = nI 5 from rfl, nI_lt_iff (by omega) (by omega)]; omega
    by_cases g : qg_pl s.1 w y
    · obtain ⟨k, hk, hy, hd, hsf⟩ := qg_plN h8 g
      refine qs_no (.int (nI (qv_get s.1 w k))) hs ?_ ?_
      · intro d h hc
        rw [m65, if_neg n5, s21p_12 _ hc.1 hw g, q_c1_s, if_neg (by decide), s23 _ hc.1 hw hk hy, q_c1_s]
      · intro d h hr
        rw [m148, s120w _ _ hw, q_c1_s, if_neg (by decide), s140p _ hs.1 hr.1 hw g, q_c1_s, if_neg (by decide), s138 _ hr.1 hw hk hy, q_c1_s]
    · refine qs_no (.int (-1)) hs ?_ ?_
      · intro d h hc
        rw [m65, if_neg n5, s21n_12 _ hc.1 hw g, q_c1_s, if_pos rfl]
      · intro d h hr
        rw [m148, s120w _ _ hw, q_c1_s, if_neg (by decide), s140n _ hs.1 hr.1 hw g, q_c1_s, if_pos rfl]
  have hy : ∀ w, w ≤ 5 → x ≠ nI w := fun w a b => hx ⟨w, a, b⟩
  by_cases x5 : 5 < x
  · by_cases x12 : x = 12
    · subst x12
      by_cases g : qg_s s.1 y
      · obtain ⟨k, hk, rfl⟩ := qg_sN h8 g
        refine qs_sc (.int (nI (qv_K s.1 k))) hs (fun d h hc => ⟨h, ?_, qc_sc_rf h, hc.2.2.2.2.2.2.2⟩) (fun d h hr => ?_)
        · rw [m65, if_pos (by decide), if_pos rfl, s20p _ hc.1 g, q_c1_s, if_neg (by decide), s31_12 _ h s.1 k hc.1 (by omega), q_c1_s]
        · obtain ⟨h2, e1, e2, e3⟩ := s126 (d + 11) h s.1 hs.1 hr.1
          refine ⟨h2, ?_, qp_of e3⟩
          have e := (e2 k (by omega)).2.2.2.1
          unfold qw_K at e
          rw [if_pos hk] at e
          rw [m148, s120n _ _ (by decide), q_c1_s, if_pos rfl, if_pos rfl, s122p _ hs.1 hr.1 g, q_c1_s, if_neg (by decide), e1, q_c0_s, if_neg (by decide), if_neg (by decide), if_neg (by decide), if_neg (by decide), if_neg (by decide), if_neg (by decide), q_ix_n (by omega) (by decide), e]
      · refine qs_no (.int (-1)) hs ?_ ?_
        · intro d h hc
          rw [m65, if_pos (by decide), if_pos rfl, s20n _ hc.1 g, q_c1_s, if_pos rfl]
        · intro d h hr
          rw [m148, s120n _ _ (by decide), q_c1_s, if_pos rfl, if_pos rfl, s122n _ hs.1 hr.1 g, q_c1_s, if_pos rfl]
    by_cases g : qg_d s.1 y
    · by_cases hw : ∃ w, 6 ≤ w ∧ w ≤ 11 ∧ x = nI w
      · obtain ⟨w, hw1, hw2, rfl⟩ := hw
        obtain ⟨k, hk, rfl⟩ := qg_dN h8 g
        rcases (by omega : w = 6 ∨ w = 7 ∨ w = 8 ∨ w = 9 ∨ w = 10 ∨ w = 11) with w | w | w | w | w | w
        · subst w
          refine qs_sc (.int (nI (s.1 1 k))) hs (fun d h hc => ⟨h, ?_, qc_sc_rf h, hc.2.2.2.2.2.2.2⟩) (fun d h hr => ?_)
          · rw [m65, if_pos (by decide), if_neg (by decide), s19p _ hc.1 g, q_c1_s, if_neg (by decide), if_pos (by decide), q_ix_n (by omega) (by decide), show h.1 13 k = nI (s.1 1 k) from hc.1.2.2.2 1 k (by omega) (by omega) (by omega)]
          · obtain ⟨h2, e1, e2, e3⟩ := s126 (d + 11) h s.1 hs.1 hr.1
            refine ⟨h2, ?_, qp_of e3⟩
            rw [m148, s120n _ _ (by decide), q_c1_s, if_pos rfl, if_neg (by decide), s120p _ _ (by decide) (by decide), q_c1_s, if_neg (by decide), s121p _ hs.1 hr.1 g, q_c1_s, if_neg (by decide), e1, q_c0_s, if_pos (by decide), q_ix_n (by omega) (by decide), show h2.1 68 k = nI (s.1 1 k) from (qw_sc_at e3 hr.1).2.2.2 1 k (by omega) (by omega) (by omega)]
        · subst w
          refine qs_sc (.int (nI (qv_w s.1 k))) hs (fun d h hc => ⟨h, ?_, qc_sc_rf h, hc.2.2.2.2.2.2.2⟩) (fun d h hr => ?_)
          · rw [m65, if_pos (by decide), if_neg (by decide), s19p _ hc.1 g, q_c1_s, if_neg (by decide), if_neg (by decide), if_pos (by decide), s28_12 _ h s.1 k hc.1 hs.1 (by omega), q_c1_s]
          · obtain ⟨h2, e1, e2, e3⟩ := s126 (d + 11) h s.1 hs.1 hr.1
            refine ⟨h2, ?_, qp_of e3⟩
            rw [m148, s120n _ _ (by decide), q_c1_s, if_pos rfl, if_neg (by decide), s120p _ _ (by decide) (by decide), q_c1_s, if_neg (by decide), s121p _ hs.1 hr.1 g, q_c1_s, if_neg (by decide), e1, q_c0_s, if_neg (by decide), if_pos (by decide), s125 _ h2 s.1 k (qw_sc_at e3 hr.1) hs.1 (by omega), q_c1_s]
        · subst w
          refine qs_sc (.int (nI (qv_I s.1 k))) hs (fun d h hc => ⟨h, ?_, qc_sc_rf h, hc.2.2.2.2.2.2.2⟩) (fun d h hr => ?_)
          · rw [m65, if_pos (by decide), if_neg (by decide), s19p _ hc.1 g, q_c1_s, if_neg (by decide), if_neg (by decide), if_neg (by decide), if_pos (by decide), s29_12 _ h s.1 k hc.1 hs.1 hk, q_c1_s]
          · obtain ⟨h2, e1, e2, e3⟩ := s126 (d + 11) h s.1 hs.1 hr.1
            refine ⟨h2, ?_, qp_of e3⟩
            rw [m148, s120n _ _ (by decide), q_c1_s, if_pos rfl, if_neg (by decide), s120p _ _ (by decide) (by decide), q_c1_s, if_neg (by decide), s121p _ hs.1 hr.1 g, q_c1_s, if_neg (by decide), e1, q_c0_s, if_neg (by decide), if_neg (by decide), if_pos (by decide), q_ix_n (by omega) (by decide), (e2 k hk).2.1]
        · subst w
          refine qs_sc (.int (nI (qv_G s.1 k))) hs (fun d h hc => ⟨h, ?_, qc_sc_rf h, hc.2.2.2.2.2.2.2⟩) (fun d h hr => ?_)
          · rw [m65, if_pos (by decide), if_neg (by decide), s19p _ hc.1 g, q_c1_s, if_neg (by decide), if_neg (by decide), if_neg (by decide), if_neg (by decide), if_pos (by decide), s30_12 _ h s.1 k hc.1 (by omega), q_c1_s]
          · obtain ⟨h2, e1, e2, e3⟩ := s126 (d + 11) h s.1 hs.1 hr.1
            refine ⟨h2, ?_, qp_of e3⟩
            rw [m148, s120n _ _ (by decide), q_c1_s, if_pos rfl, if_neg (by decide), s120p _ _ (by decide) (by decide), q_c1_s, if_neg (by decide), s121p _ hs.1 hr.1 g, q_c1_s, if_neg (by decide), e1, q_c0_s, if_neg (by decide), if_neg (by decide), if_neg (by decide), if_pos (by decide), q_ix_n (by omega) (by decide), (e2 k hk).2.2.1]
        · subst w
          refine qs_sc (.int (nI (qv_fac s.1 k))) hs (fun d h hc => ⟨h, ?_, qc_sc_rf h, hc.2.2.2.2.2.2.2⟩) (fun d h hr => ?_)
          · rw [m65, if_pos (by decide), if_neg (by decide), s19p _ hc.1 g, q_c1_s, if_neg (by decide), if_neg (by decide), if_neg (by decide), if_neg (by decide), if_neg (by decide), if_pos (by decide), s27_12 _ h s.1 k hc.1 (by omega), q_c1_s]
          · obtain ⟨h2, e1, e2, e3⟩ := s126 (d + 11) h s.1 hs.1 hr.1
            refine ⟨h2, ?_, qp_of e3⟩
            rw [m148, s120n _ _ (by decide), q_c1_s, if_pos rfl, if_neg (by decide), s120p _ _ (by decide) (by decide), q_c1_s, if_neg (by decide), s121p _ hs.1 hr.1 g, q_c1_s, if_neg (by decide), e1, q_c0_s, if_neg (by decide), if_neg (by decide), if_neg (by decide), if_neg (by decide), if_pos (by decide), q_ix_n (by omega) (by decide), (e2 k hk).1]
        · subst w
          refine qs_sc (.int (nI (qv_H s.1 k))) hs (fun d h hc => ⟨h, ?_, qc_sc_rf h, hc.2.2.2.2.2.2.2⟩) (fun d h hr => ?_)
          · rw [m65, if_pos (by decide), if_neg (by decide), s19p _ hc.1 g, q_c1_s, if_neg (by decide), if_neg (by decide), if_neg (by decide), if_neg (by decide), if_neg (by decide), if_neg (by decide), if_pos (by decide), s32_12 _ h s.1 k hc.1 hs.1 hk, q_c1_s]
          · obtain ⟨h2, e1, e2, e3⟩ := s126 (d + 11) h s.1 hs.1 hr.1
            refine ⟨h2, ?_, qp_of e3⟩
            rw [m148, s120n _ _ (by decide), q_c1_s, if_pos rfl, if_neg (by decide), s120p _ _ (by decide) (by decide), q_c1_s, if_neg (by decide), s121p _ hs.1 hr.1 g, q_c1_s, if_neg (by decide), e1, q_c0_s, if_neg (by decide), if_neg (by decide), if_neg (by decide), if_neg (by decide), if_neg (by decide), if_pos (by decide), q_ix_n (by omega) (by decide), (e2 k hk).2.2.2.2]
      · have nw : ∀ w, 6 ≤ w → w ≤ 11 → ¬ x = nI w := fun w a b c => hw ⟨w, a, b, c⟩
        have n611 : ¬ (¬ x < 6 ∧ ¬ 11 < x) := by
          rintro ⟨a, b⟩
          have h0 : ¬ x < 0 := by
            intro q
            refine a ?_
            rw [Int32.lt_iff_toInt_lt] at q ⊢
            have e0 : (0 : Int32).toInt = 0 := rfl
            have e1 : (6 : Int32).toInt = 6 := rfl
            omega
          obtain ⟨c, hc, rfl⟩ := qg_nat h0
          rw [show (6 : Int32) = nI 6 from rfl, nI_lt_iff hc (by decide)] at a
          rw [show (11 : Int32) = nI 11 from rfl, nI_lt_iff (by decide) hc] at b
          exact nw c (by omega) (by omega) rfl
        refine qs_no (.int (-1)) hs ?_ ?_
        · intro d h hc
          rw [m65, if_pos x5, if_neg x12, s19p _ hc.1 g, q_c1_s, if_neg (by decide), if_neg (show ¬ x = 6 from nw 6 (by omega) (by omega)), if_neg (show ¬ x = 7 from nw 7 (by omega) (by omega)), if_neg (show ¬ x = 8 from nw 8 (by omega) (by omega)), if_neg (show ¬ x = 9 from nw 9 (by omega) (by omega)), if_neg (show ¬ x = 10 from nw 10 (by omega) (by omega)), if_neg (show ¬ x = 11 from nw 11 (by omega) (by omega))]
        · intro d h hr
          rw [m148, s120n _ _ (qg_5 hy), q_c1_s, if_pos rfl, if_neg x12, s120n _ _ n611, q_c1_s, if_pos rfl]
    · refine qs_no (.int (-1)) hs ?_ ?_
      · intro d h hc
        rw [m65, if_pos x5, if_neg x12, s19n _ hc.1 g, q_c1_s, if_pos rfl]
      · intro d h hr
        rw [m148, s120n _ _ (qg_5 hy), q_c1_s, if_pos rfl, if_neg x12]
        by_cases a : ¬ x < 6 ∧ ¬ 11 < x
        · rw [s120p _ _ a.1 a.2, q_c1_s, if_neg (by decide), s121n _ hs.1 hr.1 g, q_c1_s, if_pos rfl]
        · rw [s120n _ _ a, q_c1_s, if_pos rfl]
  · have x12 : ¬ x = 12 := fun q => x5 (by rw [q]; decide)
    have n6 : x < 6 := by
      rw [Int32.lt_iff_toInt_lt] at x5 ⊢
      have e0 : (5 : Int32).toInt = 5 := rfl
      have e1 : (6 : Int32).toInt = 6 := rfl
      omega
    refine qs_no (.int (-1)) hs ?_ ?_
    · intro d h hc
      rw [m65, if_neg x5, s21o_12 _ _ hy, q_c1_s, if_pos rfl]
    · intro d h hr
      rw [m148, s120n _ _ (qg_5 hy), q_c1_s, if_pos rfl, if_neg x12, s120n _ _ (fun q => q.1 n6), q_c1_s, if_pos rfl]
/-- whether a KIND stands under another one -/
def q_und (k u : Nat) : Bool := u == 0 || k == u || (u == 1 && k == 3) || (u == 2 && k == 4)
theorem s110 (d : Nat) (h : q_S) {k u : Nat} (hk : k ≤ 4) (hu : u ≤ 4) : q_sem (d + 1) 110 h [.int (nI k), .int (nI u)] = some (h, some (.int (if q_und k u then 1 else 0))) := by
  rw [m110]
  rcases (by omega : k = 0 ∨ k = 1 ∨ k = 2 ∨ k = 3 ∨ k = 4) with rfl | rfl | rfl | rfl | rfl <;> rcases (by omega : u = 0 ∨ u = 1 ∨ u = 2 ∨ u = 3 ∨ u = 4) with rfl | rfl | rfl | rfl | rfl <;> rfl
theorem c99 (x y : Int32) : qs_st 99 199 [.int x, .int y] := by
  intro s hs
  have h8 := hs.1.1
  by_cases g : qg_d s.1 x
  · by_cases g2 : ¬ y < 0 ∧ ¬ 4 < y
    · obtain ⟨i, hi, rfl⟩ := qg_dN h8 g
      obtain ⟨u, hu, rfl⟩ : ∃ u, u ≤ 4 ∧ y = nI u := by
        obtain ⟨c, hc, rfl⟩ := qg_nat g2.1
        have b := g2.2
        rw [show (4 : Int32) = nI 4 from rfl, nI_lt_iff (by decide) hc] at b
        exact ⟨c, by omega, rfl⟩
      have hk := (hs.1.2.2.2.1 i (by omega)).1
      refine qs_no (.int (if q_und (s.1 1 i) u then nI (s.1 2 i) else -5)) hs ?_ ?_
      · intro d h hc
        rw [m99, s19p _ hc.1 g, q_c1_s, if_neg (by decide), s104p _ _ g2, q_c1_s, if_neg (by decide), q_ix_n (by omega) (by decide), show h.1 13 i = nI (s.1 1 i) from hc.1.2.2.2 1 i (by omega) (by omega) (by omega), s110 _ _ hk hu, q_c1_s, q_ix_n (by omega) (by decide), show h.1 14 i = nI (s.1 2 i) from hc.1.2.2.2 2 i (by omega) (by omega) (by omega)]
        cases q_und (s.1 1 i) u <;> rfl
      · intro d h hr
        have k63 : q_go e_199 q_X0 (q_sem (d + 13)) 999 63 [(0, .ref 67), (1, .int (nI i))] [] h = some (h, some (.int (nI (s.1 2 i)))) := by
          rw [b199_63, if_neg (by decide), q_ix_n (by omega) (by decide), show h.1 69 i = nI (s.1 2 i) from hr.1.2.2.2 2 i (by omega) (by omega) (by omega)]
        have k67 : q_go e_199 q_X0 (q_sem (d + 13)) 999 67 [(0, .ref 67), (1, .int (nI i))] [] h = some (h, some (.int (-5))) := by
          rw [b199_67, if_pos (by decide)]
        rw [m199, s121p _ hs.1 hr.1 g, q_c1_s, if_neg (by decide), s120p _ _ g2.1 g2.2, q_c1_s, if_neg (by decide), k63, k67]
        simp only [q_ix_n (show i < 8 by omega) (show 8 < 2147483648 by decide), show h.1 68 i = nI (s.1 1 i) from hr.1.2.2.2 1 i (by omega) (by omega) (by omega)]
        generalize s.1 1 i = k at hk
        rcases (by omega : k = 0 ∨ k = 1 ∨ k = 2 ∨ k = 3 ∨ k = 4) with rfl | rfl | rfl | rfl | rfl <;> rcases (by omega : u = 0 ∨ u = 1 ∨ u = 2 ∨ u = 3 ∨ u = 4) with rfl | rfl | rfl | rfl | rfl <;> rfl
    · refine qs_no (.int (-1)) hs ?_ ?_
      · intro d h hc
        rw [m99, s19p _ hc.1 g, q_c1_s, if_neg (by decide), s104n _ _ g2, q_c1_s, if_pos rfl]
      · intro d h hr
        rw [m199, s121p _ hs.1 hr.1 g, q_c1_s, if_neg (by decide), s120n _ _ g2, q_c1_s, if_pos rfl]
  · refine qs_no (.int (-1)) hs ?_ ?_
    · intro d h hc
      rw [m99, s19n _ hc.1 g, q_c1_s, if_pos rfl]
    · intro d h hr
      rw [m199, s121n _ hs.1 hr.1 g, q_c1_s, if_pos rfl]
theorem gb98_4 {k : Nat} (hk : k < 5) (X : q_X) (O : q_O) (n : Nat) (h : q_S) (x1 : Int32) : q_go e_98 X O (n + 1) 4 [(0, .ref 0), (1, .int x1)] [.ref (2 + k)] h =
  if x1 < 0 then
    some (h, some (.int (-2)))
  else
    q_go e_98 X O n 16 [(0, .ref 0), (1, .int x1)] [(q_rv h.2.2), .int x1] h := by
  rcases (by omega : k = 0 ∨ k = 1 ∨ k = 2 ∨ k = 3 ∨ k = 4) with rfl | rfl | rfl | rfl | rfl
  · exact b98_4 ..
  · exact b98_4_1 ..
  · exact b98_4_2 ..
  · exact b98_4_3 ..
  · exact b98_4_4 ..
theorem gb98_16 {k : Nat} (hk : k < 5) (X : q_X) (O : q_O) (n : Nat) (h : q_S) (x1 : Int32) (s1 : Int32) : q_go e_98 X O (n + 1) 16 [(0, .ref 0), (1, .int x1)] [.ref (2 + k), .int s1] h =
  if s1 < (h.1 (2 + k) 1) then
    q_go e_98 X O n 29 [(1, .int x1)] [(q_rv h.2.2)] h
  else
    some (h, some (.int (-2))) := by
  rcases (by omega : k = 0 ∨ k = 1 ∨ k = 2 ∨ k = 3 ∨ k = 4) with rfl | rfl | rfl | rfl | rfl
  · exact b98_16 ..
  · exact b98_16_1 ..
  · exact b98_16_2 ..
  · exact b98_16_3 ..
  · exact b98_16_4 ..
theorem gb98_29 {k : Nat} (hk : k < 5) (X : q_X) (O : q_O) (n : Nat) (h : q_S) (x1 : Int32) : q_go e_98 X O (n + 1) 29 [(1, .int x1)] [.ref (2 + k)] h =
  q_ix x1 24 (fun j1 =>
  some (h, some (.int (h.1 (7 + k) j1)))) := by
  rcases (by omega : k = 0 ∨ k = 1 ∨ k = 2 ∨ k = 3 ∨ k = 4) with rfl | rfl | rfl | rfl | rfl
  · exact b98_29 ..
  · exact b98_29_1 ..
  · exact b98_29_2 ..
  · exact b98_29_3 ..
  · exact b98_29_4 ..
theorem c98 (x : Int32) : qs_st 98 198 [.int x] := by
  intro s hs
  obtain ⟨n, hn, e⟩ := hs.2.2.2.2.2.2
  by_cases g : qg_i n x
  · obtain ⟨i, hi, rfl⟩ := qg_iN (by omega) g
    refine qs_no (.int (s.2.2.1 9 i)) hs ?_ ?_
    · intro d h hc
      rcases hc.2.2.2.2.2.2.1 with ⟨d1, d2⟩ | ⟨k, hk, d1, d2, d3⟩
      · rw [e] at d2
        have := (nI_eq_iff (a := n) (b := 0) (by omega) (by omega)).mp d2
        omega
      · rw [m98, d1]
        show q_go e_98 q_X0 (q_sem (d + 13)) 999 4 [(0, .ref 0), (1, .int (nI i))] [.ref (2 + k)] h = _
        rw [gb98_4 hk, if_neg g.1, d1]
        show q_go e_98 q_X0 (q_sem (d + 13)) 998 16 [(0, .ref 0), (1, .int (nI i))] [.ref (2 + k), .int (nI i)] h = _
        rw [gb98_16 hk, d2, e, if_pos g.2, d1]
        show q_go e_98 q_X0 (q_sem (d + 13)) 997 29 [(1, .int (nI i))] [.ref (2 + k)] h = _
        rw [gb98_29 hk, q_ix_n (by omega) (by decide), d3 i (by omega) (by rw [e]; exact g.2)]
    · intro d h hr
      rw [m198, if_neg g.1, if_pos (by rw [show (24 : Int32) = nI 24 from rfl, nI_lt_iff (by omega) (by omega)]; omega), hr.2.2.2.2.2.2.1, e, if_pos g.2, q_ix_n (by omega) (by decide), hr.2.2.2.2.2.2.2 i (by omega) (by rw [e]; exact g.2)]
  · refine qs_no (.int (-2)) hs ?_ ?_
    · intro d h hc
      rcases hc.2.2.2.2.2.2.1 with ⟨d1, d2⟩ | ⟨k, hk, d1, d2, d3⟩
      · rw [m98, d1]
        exact b98_4_5 ..
      · rw [m98, d1]
        show q_go e_98 q_X0 (q_sem (d + 13)) 999 4 [(0, .ref 0), (1, .int x)] [.ref (2 + k)] h = _
        rw [gb98_4 hk]
        by_cases a : x < 0
        · rw [if_pos a]
        rw [if_neg a, d1]
        show q_go e_98 q_X0 (q_sem (d + 13)) 998 16 [(0, .ref 0), (1, .int x)] [.ref (2 + k), .int x] h = _
        rw [gb98_16 hk, d2, e, if_neg (fun b => g ⟨a, b⟩)]
    · intro d h hr
      rw [m198]
      by_cases a : x < 0
      · rw [if_pos a]
      · rw [if_neg a, hr.2.2.2.2.2.2.1, e, if_neg (fun b => g ⟨a, b⟩)]
        split <;> rfl
