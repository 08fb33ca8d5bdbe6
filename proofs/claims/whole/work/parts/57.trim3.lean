theorem c76 (x1 x2 x3 x4 x5 : Int32) : qs_st 76 162 [.int x1, .int x2, .int x3, .int x4, .int x5] := by
  intro s hs
  have h8 := hs.1.1
  by_cases ga : qg_d s.1 x1
  · by_cases gb : qg_d s.1 x2
    · by_cases gc : qg_p x3 ∧ qg_q x4
      · by_cases gd : qg_1 x5
        · obtain ⟨k, hk, rfl⟩ := qg_dN h8 ga
          obtain ⟨r, hr, rfl⟩ := qg_dN h8 gb
          obtain ⟨p, hp, rfl⟩ := qg_pN gc.1
          obtain ⟨q, hq1, hq, rfl⟩ := qg_qN gc.2
          refine qs_sy (.int (if x5 = 0 then nI (q_am (q_ds s.1 k r p q) 99) else nI (q_ds s.1 k r p q (q_am (q_ds s.1 k r p q) 99)))) hs ?_ ?_
          · intro d h hc
            obtain ⟨h2, e1, e2, e3, e4⟩ := s16_18_12 (d + 12) hc.1
            obtain ⟨h3, y3, f1, f2, f3, f4⟩ := s114 (d + 6) s.1 hs.1 (x := s.1 2 k) hk hr hp hq1 hq (by rw [ql_self]; exact e2) (qz_fr2 e4 hc.2.2.2.2.2.2.2)
            have sc3 := qc_sc_tr (qc_fr e3 e4) f4
            have h99 := q_lm_le s.1 k r p q
            have start : ∀ res : Option (q_S × Option Value), (if (99 : Int32) < nI (q_lm s.1 k r p q + 1) then q_go e_76 q_X0 (q_sem (d + 13)) 999 91 [(0, .ref 0), (1, .int (nI k)), (2, .int (nI r)), (3, .int (nI p)), (4, .int (nI q)), (5, .int x5), (6, .int (nI (q_lm s.1 k r p q + 1)))] [.int 10000] h3 else q_c1 (q_sem (d + 13) 113 h3 [.ref 0, .int (nI k), .int (nI (q_lm s.1 k r p q + 1)), .int (nI r), .int (nI q)]) (fun h10 v11 => q_go e_76 q_X0 (q_sem (d + 13)) 999 91 [(0, .ref 0), (1, .int (nI k)), (2, .int (nI r)), (3, .int (nI p)), (4, .int (nI q)), (5, .int x5), (6, .int (nI (q_lm s.1 k r p q + 1)))] [.int (nI p - v11)] h10)) = res → q_sem (d + 14) 76 h [.ref 0, .int (nI k), .int (nI r), .int (nI p), .int (nI q), .int x5] = res := by
              intro res e
              rw [m76, s19p _ hc.1 ga, q_c1_s, if_neg (by decide), s19p _ hc.1 gb, q_c1_s, if_neg (by decide), s107p _ _ gc, q_c1_s, if_neg (by decide), if_neg gd.1, if_neg gd.2, e1, q_c0_s, f1, q_c1_s]
              exact e
            have tail : ∀ (h4 : q_S) (x : Nat) (s0 : Int32), qv_at h4 18 (ql s.1 2 k x) → qr_z h4 → qc_sc h h4 → 1 ≤ q_lm s.1 k r p q → (¬ s0 < nI (qv_f (ql s.1 2 k (q_lm s.1 k r p q)) r q) - nI p) → (q_lm s.1 k r p q = 99 ∨ qv_f (ql s.1 2 k (q_lm s.1 k r p q)) r q - p ≤ p - qv_f (ql s.1 2 k (q_lm s.1 k r p q + 1)) r q) → ∃ h1, q_go e_76 q_X0 (q_sem (d + 13)) 999 91 [(0, .ref 0), (1, .int (nI k)), (2, .int (nI r)), (3, .int (nI p)), (4, .int (nI q)), (5, .int x5), (6, .int (nI (q_lm s.1 k r p q + 1)))] [.int s0] h4 = some (h1, some (.int (if x5 = 0 then nI (q_am (q_ds s.1 k r p q) 99) else nI (q_ds s.1 k r p q (q_am (q_ds s.1 k r p q) 99))))) ∧ qc_sc h h1 ∧ qr_z h1 := by
              intro h4 x s0 a4 z4 sc4 c1 hs0 hcc
              obtain ⟨h5, g1, g2, g3, g4⟩ := s113 (d + 6) s.1 hs.1 hk hr c1 h99 hq1 hq a4 z4
              have hfb := qv_f_bd (ok_mass hs.1 hk c1 h99) hq r
              have hfp := (q_lm_iff hs.1 hk hr hq1 (p := p) c1 h99).mpr (Nat.le_refl _)
              obtain ⟨h6, y6, j1, j2, j3, j4⟩ := s114 (d + 6) s.1 hs.1 hk hr (p := qv_f (ql s.1 2 k (q_lm s.1 k r p q)) r q) (by omega) hq1 hq g2 g3
              obtain ⟨b1, b2⟩ := tr_B hs.1 hk hr hq1 _ rfl c1 hcc
              refine ⟨h6, ?_, qc_sc_tr sc4 (qc_sc_tr g4 j4), j3⟩
              rw [b76_91, if_pos (by rw [show (1 : Int32) = nI 1 from rfl, nI_lt_iff (by omega) (by omega)]; omega), nI_m1, g1, q_c1_s, if_neg hs0, j1, q_c1_s, b1, b2, pk_sub (by omega)]
              split <;> rfl
            by_cases M : q_lm s.1 k r p q = 99
            · have c1 : 1 ≤ q_lm s.1 k r p q := by omega
              have hfb := qv_f_bd (ok_mass hs.1 hk c1 h99) hq r
              have hfp := (q_lm_iff hs.1 hk hr hq1 (p := p) c1 h99).mpr (Nat.le_refl _)
              obtain ⟨h6, t1, t2, t3⟩ := tail h3 y3 10000 f2 f3 sc3 c1 (by rw [pk_sub (by omega), show (10000 : Int32) = nI 10000 from rfl, nI_lt_iff (by omega) (by omega)]; omega) (Or.inl M)
              refine ⟨h6, start _ ?_, t2, t3⟩
              rw [if_pos (by rw [show (99 : Int32) = nI 99 from rfl, nI_lt_iff (by omega) (by omega)]; omega)]
              exact t1
            · obtain ⟨h5, g1, g2, g3, g4⟩ := s113 (d + 6) s.1 hs.1 (v := q_lm s.1 k r p q + 1) hk hr (by omega) (by omega) hq1 hq f2 f3
              have fM : qv_f (ql s.1 2 k (q_lm s.1 k r p q + 1)) r q ≤ p := by
                have := q_lm_iff hs.1 hk hr hq1 (p := p) (show 1 ≤ q_lm s.1 k r p q + 1 by omega) (by omega)
                omega
              have sc5 := qc_sc_tr sc3 g4
              have go : ∀ h6, q_go e_76 q_X0 (q_sem (d + 13)) 999 91 [(0, .ref 0), (1, .int (nI k)), (2, .int (nI r)), (3, .int (nI p)), (4, .int (nI q)), (5, .int x5), (6, .int (nI (q_lm s.1 k r p q + 1)))] [.int (nI (p - qv_f (ql s.1 2 k (q_lm s.1 k r p q + 1)) r q))] h5 = some (h6, some (.int (if x5 = 0 then nI (q_am (q_ds s.1 k r p q) 99) else nI (q_ds s.1 k r p q (q_am (q_ds s.1 k r p q) 99))))) → q_sem (d + 14) 76 h [.ref 0, .int (nI k), .int (nI r), .int (nI p), .int (nI q), .int x5] = some (h6, some (.int (if x5 = 0 then nI (q_am (q_ds s.1 k r p q) 99) else nI (q_ds s.1 k r p q (q_am (q_ds s.1 k r p q) 99))))) := by
                intro h6 e
                refine start _ ?_
                rw [if_neg (by rw [show (99 : Int32) = nI 99 from rfl, nI_lt_iff (by omega) (by omega)]; omega), g1, q_c1_s, pk_sub fM]
                exact e
              by_cases c0 : q_lm s.1 k r p q = 0
              · obtain ⟨b1, b2⟩ := tr_A hs.1 hk hr hq1 (by omega) (Or.inl c0)
                refine ⟨h5, go h5 ?_, sc5, g3⟩
                rw [b76_91, if_neg (by rw [c0]; decide), b1, b2]
                split <;> rfl
              · have c1 : 1 ≤ q_lm s.1 k r p q := by omega
                have hfb := qv_f_bd (ok_mass hs.1 hk c1 h99) hq r
                have hfp := (q_lm_iff hs.1 hk hr hq1 (p := p) c1 h99).mpr (Nat.le_refl _)
                by_cases w : p - qv_f (ql s.1 2 k (q_lm s.1 k r p q + 1)) r q < qv_f (ql s.1 2 k (q_lm s.1 k r p q)) r q - p
                · obtain ⟨b1, b2⟩ := tr_A hs.1 hk hr hq1 (by omega) (Or.inr w)
                  obtain ⟨h6, i1, i2, i3, i4⟩ := s113 (d + 6) s.1 hs.1 hk hr c1 h99 hq1 hq g2 g3
                  refine ⟨h6, go h6 ?_, qc_sc_tr sc5 i4, i3⟩
                  rw [b76_91, if_pos (by rw [show (1 : Int32) = nI 1 from rfl, nI_lt_iff (by omega) (by omega)]; omega), nI_m1, i1, q_c1_s, pk_sub (by omega), if_pos (by rw [nI_lt_iff (by omega) (by omega)]; exact w), b1, b2]
                  split <;> rfl
                · obtain ⟨h6, t1, t2, t3⟩ := tail h5 _ (nI (p - qv_f (ql s.1 2 k (q_lm s.1 k r p q + 1)) r q)) g2 g3 sc5 c1 (by rw [pk_sub (by omega), nI_lt_iff (by omega) (by omega)]; exact w) (Or.inr (by omega))
                  exact ⟨h6, go h6 t1, t2, t3⟩
          · intro d h hr0
            obtain ⟨h3, f1, f2, f3⟩ := l162 q_X0 (d + 9) s.1 hs.1 k r p q hk hr hp hq1 hq x5 h 99 999 0 (s.1 2 k) h (by omega) (by omega) (by rw [ql_self]; exact hr0.1) (qy_rf h)
            refine ⟨h3, ?_, f2, f3⟩
            rw [m162, s121p _ hs.1 hr0.1 ga, q_c1_s, if_neg (by decide), s121p _ hs.1 hr0.1 gb, q_c1_s, if_neg (by decide), s124p _ _ gc, q_c1_s, if_neg (by decide), s120p _ _ gd.1 gd.2, q_c1_s, if_neg (by decide), q_ix_n (by omega) (by decide), show h.1 69 k = nI (s.1 2 k) from hr0.1.2.2.2 2 k (by omega) (by omega) (by omega)]
            exact f1
        · refine qs_no (.int (-1)) hs ?_ ?_
          · intro d h hc
            rw [m76, s19p _ hc.1 ga, q_c1_s, if_neg (by decide), s19p _ hc.1 gb, q_c1_s, if_neg (by decide), s107p _ _ gc, q_c1_s, if_neg (by decide)]
            by_cases a : x5 < 0
            · rw [if_pos a]
            · rw [if_neg a, if_pos (Classical.byContradiction fun b => gd ⟨a, b⟩)]
          · intro d h hr
            rw [m162, s121p _ hs.1 hr.1 ga, q_c1_s, if_neg (by decide), s121p _ hs.1 hr.1 gb, q_c1_s, if_neg (by decide), s124p _ _ gc, q_c1_s, if_neg (by decide), s120n _ _ gd, q_c1_s, if_pos rfl]
      · refine qs_no (.int (-1)) hs ?_ ?_
        · intro d h hc
          rw [m76, s19p _ hc.1 ga, q_c1_s, if_neg (by decide), s19p _ hc.1 gb, q_c1_s, if_neg (by decide), s107n _ _ gc, q_c1_s, if_pos rfl]
        · intro d h hr
          rw [m162, s121p _ hs.1 hr.1 ga, q_c1_s, if_neg (by decide), s121p _ hs.1 hr.1 gb, q_c1_s, if_neg (by decide), s124n _ _ gc, q_c1_s, if_pos rfl]
    · refine qs_no (.int (-1)) hs ?_ ?_
      · intro d h hc
        rw [m76, s19p _ hc.1 ga, q_c1_s, if_neg (by decide), s19n _ hc.1 gb, q_c1_s, if_pos rfl]
      · intro d h hr
        rw [m162, s121p _ hs.1 hr.1 ga, q_c1_s, if_neg (by decide), s121n _ hs.1 hr.1 gb, q_c1_s, if_pos rfl]
  · refine qs_no (.int (-1)) hs ?_ ?_
    · intro d h hc
      rw [m76, s19n _ hc.1 ga, q_c1_s, if_pos rfl]
    · intro d h hr
      rw [m162, s121n _ hs.1 hr.1 ga, q_c1_s, if_pos rfl]
