/-! ===== isRate, sign, nodes, rest, top, fence, held, band ===== -/
theorem c67 (x y : Int32) : qs_st 67 150 [.int x, .int y] := by
  intro s hs
  have h8 := hs.1.1
  by_cases g : qg_p x ∧ qg_q y
  · obtain ⟨p, hp, rfl⟩ := qg_pN g.1
    obtain ⟨q, hq1, hq, rfl⟩ := qg_qN g.2
    refine qs_sc (.int (if qr_sgn (qE s.1 p q 0 (s.1 0 0)) = 0 then 1 else 0)) hs ?_ ?_
    · intro d h hc
      obtain ⟨h2, e1, e2, e3, e4⟩ := s36z (d + 8) h s.1 hs.1 (Or.inl rfl) hc.1 hc.2.2.2.2.2.2.2
      obtain ⟨h3, f1, f2, f3, f4⟩ := s37 (d + 10) h2 s.1 hs.1 p q (by omega) hq e2 e4
      refine ⟨h3, ?_, qc_sc_tr (qc_of e3) (qc_of (qr_fr_sc f2)), f3⟩
      have bE := qE_30 hs.1 (p := p) (q := q) (a := 0) (n := s.1 0 0) (by omega) hq (by omega) (Nat.le_refl _)
      have a1 := qr_sc_at (qr_sc_tr e3 (qr_fr_sc f2)) (Or.inl rfl) hc.1
      have k := s40 (d + 12) h3 (s.1 0 0) (by omega) _ bE.1 bE.2 (fun q => by rw [q]; rfl) (f4 _ (Nat.le_refl _))
      rw [m67, s107p _ _ g, q_c1_s, if_neg (by decide), e1, q_c0_s, f1, q_c1_s, a1.1, k, q_c1_s]
      by_cases z : qr_sgn (qE s.1 p q 0 (s.1 0 0)) = 0
      · rw [if_pos z, if_pos z]
      · rw [if_neg z, if_neg z]
    · intro d h hr
      obtain ⟨h2, e1, e2, e3⟩ := s126 (d + 11) h s.1 hs.1 hr.1
      obtain ⟨h3, f1, f2, f3, f4⟩ := s131 (d + 10) h2 s.1 hs.1 p q (by omega) hq (qw_sc_at e3 hr.1) e2
      refine ⟨h3, ?_, qp_sc_tr (qp_of e3) (qp_of f2)⟩
      have a1 := qw_sc_at (qw_sc_tr e3 f2) hr.1
      rw [m150, s124p _ _ g, q_c1_s, if_neg (by decide), e1, q_c0_s, f1, q_c1_s, a1.1, q_ix_n (by omega) (by decide), f4.1 _ (Nat.le_refl _)]
      by_cases z : qr_sgn (qE s.1 p q 0 (s.1 0 0)) = 0
      · rw [if_pos z, if_pos z]
      · rw [if_neg z, if_neg z]
  · refine qs_no (.int (-1)) hs ?_ ?_
    · intro d h hc
      rw [m67, s107n _ _ g, q_c1_s, if_pos rfl]
    · intro d h hr
      rw [m150, s124n _ _ g, q_c1_s, if_pos rfl]
theorem qg_pre {i : Nat} : nI i - 1 = iI ((0 + i : Nat) - 1) := by
  rw [nI_iI, show (1 : Int32) = iI 1 from rfl, iI_sub, Nat.zero_add]
theorem c68 (w x y : Int32) : qs_st 68 151 [.int w, .int x, .int y] := by
  intro s hs
  have h8 := hs.1.1
  by_cases g0 : qg_d s.1 w
  · by_cases g : qg_p x ∧ qg_q y
    · obtain ⟨p, hp, rfl⟩ := qg_pN g.1
      obtain ⟨q, hq1, hq, rfl⟩ := qg_qN g.2
      obtain ⟨i, hi, rfl⟩ := qg_dN hs.1.1 g0
      refine qs_sc (.int (qr_sgn (qE s.1 p q 0 i))) hs ?_ ?_
      · intro d h hc
        obtain ⟨h2, e1, e2, e3, e4⟩ := s36z (d + 8) h s.1 hs.1 (Or.inl rfl) hc.1 hc.2.2.2.2.2.2.2
        obtain ⟨h3, f1, f2, f3, f4⟩ := s38 (d + 11) h2 s.1 hs.1 p q 0 i (by omega) hq (by omega) e2 e4
        refine ⟨h3, ?_, qc_sc_tr (qc_of e3) (qc_of (qr_fr_sc f2)), f3⟩
        have bE := qE_30 hs.1 (p := p) (q := q) (a := 0) (n := i) (by omega) hq (by omega) (Nat.le_refl _)
        have k := s40 (d + 12) h3 i (by omega) _ bE.1 bE.2 (fun q => by rw [q]; rfl) (f4 _ (Nat.le_refl _))
        rw [m68, s19p _ hc.1 g0, q_c1_s, if_neg (by decide), s107p _ _ g, q_c1_s, if_neg (by decide), e1, q_c0_s, qg_pre, show (0 : Int32) = nI 0 from rfl, f1, q_c1_s, k, q_c1_s]
      · intro d h hr
        obtain ⟨h2, e1, e2, e3⟩ := s126 (d + 11) h s.1 hs.1 hr.1
        obtain ⟨h3, f1, f2, f3, f4⟩ := s131 (d + 10) h2 s.1 hs.1 p q (by omega) hq (qw_sc_at e3 hr.1) e2
        refine ⟨h3, ?_, qp_sc_tr (qp_of e3) (qp_of f2)⟩
        rw [m151, s121p _ hs.1 hr.1 g0, q_c1_s, if_neg (by decide), s124p _ _ g, q_c1_s, if_neg (by decide), e1, q_c0_s, f1, q_c1_s, q_ix_n (by omega) (by decide), f4.1 _ (by omega)]
    · refine qs_no (.int (-1000)) hs ?_ ?_
      · intro d h hc
        rw [m68, s19p _ hc.1 g0, q_c1_s, if_neg (by decide), s107n _ _ g, q_c1_s, if_pos rfl]
      · intro d h hr
        rw [m151, s121p _ hs.1 hr.1 g0, q_c1_s, if_neg (by decide), s124n _ _ g, q_c1_s, if_pos rfl]
  · refine qs_no (.int (-1000)) hs ?_ ?_
    · intro d h hc
      rw [m68, s19n _ hc.1 g0, q_c1_s, if_pos rfl]
    · intro d h hr
      rw [m151, s121n _ hs.1 hr.1 g0, q_c1_s, if_pos rfl]
theorem l152 (X : q_X) (O : q_O) (l : qv_L) (hl : qv_ok l) (p q : Nat) (h : q_S) (hL : qw_at h l) (hE : qw_en h l p q 0 (l 0 0)) : ∀ m f i, i + m = l 0 0 → m < f → q_go e_152 X O f 29 [(0, .ref 67), (3, .int (nI (qB l p q 0 (i - 1)))), (4, .int (iI (qm_sg (qB l p q 0 (i - 1))))), (5, .int (nI i))] [] h = some (h, some (.int (nI (qB l p q 0 (l 0 0 - 1))))) := by
  have h8 := hl.1
  intro m
  induction m with
  | zero =>
    intro f i hi hf
    obtain ⟨f, rfl⟩ : ∃ g, f = g + 1 := ⟨f - 1, by omega⟩
    rw [b152_29, hL.1, if_neg (by rw [nI_lt_iff (by omega) (by omega)]; omega), show i = l 0 0 by omega]
  | succ m ih =>
    intro f i hi hf
    obtain ⟨f, rfl⟩ : ∃ g, f = g + 1 := ⟨f - 1, by omega⟩
    have ih := ih f (i + 1) (by omega) (by omega)
    rw [Nat.add_sub_cancel] at ih
    rw [b152_29, hL.1, if_pos (by rw [nI_lt_iff (by omega) (by omega)]; omega), q_ix_n (by omega) (by decide), q_ix_n (by omega) (by decide), q_ix_n (by omega) (by decide), hE.1 i (by omega), nI_p1]
    rcases Nat.eq_zero_or_pos i with z | z
    · subst z
      rw [qE_0, if_neg (by decide), if_pos (show qr_sgn 1 = iI (qm_sg (qB l p q 0 (0 - 1))) from (by decide : qr_sgn 1 = iI (qm_sg 0)))]
      exact ih
    · obtain ⟨r, rfl⟩ : ∃ r, i = r + 1 := ⟨i - 1, by omega⟩
      rw [Nat.add_sub_cancel]
      have hb := qB_s l p q 0 r
      by_cases e0 : qE l p q 0 (r + 1) = 0
      · rw [if_pos ((qr_sgn_0 _).mpr e0)]
        rw [e0, Int.mul_zero, if_neg (by omega)] at hb
        rw [← hb]
        exact ih
      · rw [if_neg (fun c => e0 ((qr_sgn_0 _).mp c))]
        by_cases z : qm_sg (qB l p q 0 r) * qE l p q 0 (r + 1) < 0
        · rw [if_pos z] at hb
          rw [if_neg (fun c => (qr_same _ _ e0).mp c z), nI_p1, (qr_turn _ _).mpr z, iI_neg, ← qm_sg_s, ← hb]
          exact ih
        · rw [if_neg z] at hb
          rw [if_pos ((qr_same _ _ e0).mpr z), ← hb]
          exact ih
theorem c69 (x y : Int32) : qs_st 69 152 [.int x, .int y] := by
  intro s hs
  have h8 := hs.1.1
  by_cases g : qg_p x ∧ qg_q y
  · obtain ⟨p, hp, rfl⟩ := qg_pN g.1
    obtain ⟨q, hq1, hq, rfl⟩ := qg_qN g.2
    refine qs_sc (.int (nI (qB s.1 p q 0 (s.1 0 0 - 1)))) hs ?_ ?_
    · intro d h hc
      obtain ⟨h2, e1, e2, e3, e4⟩ := s36z (d + 8) h s.1 hs.1 (Or.inl rfl) hc.1 hc.2.2.2.2.2.2.2
      have a1 := qr_sc_at e3 (Or.inl rfl) hc.1
      rcases Nat.eq_zero_or_pos (s.1 0 0) with z | z
      · obtain ⟨h3, f1, f2, f3, f4⟩ := s38n (d + 11) h2 (nI p) (nI q) 0 (-2) (by omega) (by omega) (by omega) e4
        refine ⟨h3, ?_, qc_sc_tr (qc_of e3) (qc_of (qr_fr_sc f2)), f3⟩
        rw [m69, s107p _ _ g, q_c1_s, if_neg (by decide), e1, q_c0_s, a1.1, z, show nI 0 - 2 = iI (-2) by decide, show (0 : Int32) = nI 0 from rfl, f1, q_c1_s]
        rfl
      · obtain ⟨h3, f1, f2, f3, f4⟩ := s38 (d + 11) h2 s.1 hs.1 p q 0 (s.1 0 0 - 1) (by omega) hq (by omega) e2 e4
        refine ⟨h3, ?_, qc_sc_tr (qc_of e3) (qc_of (qr_fr_sc f2)), f3⟩
        have e : nI (s.1 0 0) - 2 = iI ((0 + (s.1 0 0 - 1) : Nat) - 1) := by
          rw [nI_iI, show (2 : Int32) = iI 2 from rfl, iI_sub]
          congr 1
          omega
        rw [m69, s107p _ _ g, q_c1_s, if_neg (by decide), e1, q_c0_s, a1.1, e, show (0 : Int32) = nI 0 from rfl, f1, q_c1_s]
    · intro d h hr
      obtain ⟨h2, e1, e2, e3⟩ := s126 (d + 11) h s.1 hs.1 hr.1
      obtain ⟨h3, f1, f2, f3, f4⟩ := s131 (d + 10) h2 s.1 hs.1 p q (by omega) hq (qw_sc_at e3 hr.1) e2
      refine ⟨h3, ?_, qp_sc_tr (qp_of e3) (qp_of f2)⟩
      rw [m152, s124p _ _ g, q_c1_s, if_neg (by decide), e1, q_c0_s, f1, q_c1_s]
      exact l152 _ _ s.1 hs.1 p q h3 (qw_sc_at (qw_sc_tr e3 f2) hr.1) f4 (s.1 0 0) 999 0 (by omega) (by omega)
  · refine qs_no (.int (-1)) hs ?_ ?_
    · intro d h hc
      rw [m69, s107n _ _ g, q_c1_s, if_pos rfl]
    · intro d h hr
      rw [m152, s124n _ _ g, q_c1_s, if_pos rfl]
theorem c70 (w x y : Int32) : qs_st 70 153 [.int w, .int x, .int y] := by
  intro s hs
  have h8 := hs.1.1
  by_cases g0 : ¬ w < 0 ∧ ¬ nI (s.1 0 0) < w
  · by_cases g : qg_p x ∧ qg_q y
    · obtain ⟨p, hp, rfl⟩ := qg_pN g.1
      obtain ⟨q, hq1, hq, rfl⟩ := qg_qN g.2
      obtain ⟨i, hi, rfl⟩ := qg_nat g0.1
      have hi2 : i ≤ s.1 0 0 := by
        have a := g0.2
        rw [nI_lt_iff (by omega) hi] at a
        omega
      refine qs_sc (.int (iI (qE s.1 p q 0 i % 10007))) hs ?_ ?_
      · intro d h hc
        obtain ⟨h2, e1, e2, e3, e4⟩ := s36z (d + 8) h s.1 hs.1 (Or.inl rfl) hc.1 hc.2.2.2.2.2.2.2
        obtain ⟨h3, f1, f2, f3, f4⟩ := s38 (d + 11) h2 s.1 hs.1 p q 0 i (by omega) hq (by omega) e2 e4
        refine ⟨h3, ?_, qc_sc_tr (qc_of e3) (qc_of (qr_fr_sc f2)), f3⟩
        have bE := qE_30 hs.1 (p := p) (q := q) (a := 0) (n := i) (by omega) hq (by omega) (Nat.le_refl _)
        have k := s41 (d + 11) h3 i (by omega) _ bE.1 bE.2 (fun q => by rw [q]; rfl) (f4 _ (Nat.le_refl _))
        rw [m70, if_neg g0.1, hc.1.1, if_neg g0.2, s107p _ _ g, q_c1_s, if_neg (by decide), e1, q_c0_s, qg_pre, show (0 : Int32) = nI 0 from rfl, f1, q_c1_s, k, q_c1_s]
      · intro d h hr
        obtain ⟨h2, e1, e2, e3⟩ := s126 (d + 11) h s.1 hs.1 hr.1
        obtain ⟨h3, f1, f2, f3, f4⟩ := s131 (d + 10) h2 s.1 hs.1 p q (by omega) hq (qw_sc_at e3 hr.1) e2
        refine ⟨h3, ?_, qp_sc_tr (qp_of e3) (qp_of f2)⟩
        rw [m153, hr.1.1, s120p _ _ g0.1 g0.2, q_c1_s, if_neg (by decide), s124p _ _ g, q_c1_s, if_neg (by decide), e1, q_c0_s, f1, q_c1_s, q_ix_n (by omega) (by decide), f4.2 _ (by omega)]
    · refine qs_no (.int (-1)) hs ?_ ?_
      · intro d h hc
        rw [m70, if_neg g0.1, hc.1.1, if_neg g0.2, s107n _ _ g, q_c1_s, if_pos rfl]
      · intro d h hr
        rw [m153, hr.1.1, s120p _ _ g0.1 g0.2, q_c1_s, if_neg (by decide), s124n _ _ g, q_c1_s, if_pos rfl]
  · refine qs_no (.int (-1)) hs ?_ ?_
    · intro d h hc
      rw [m70]
      by_cases a : w < 0
      · rw [if_pos a]
      · rw [if_neg a, hc.1.1, if_pos (Classical.byContradiction fun b => g0 ⟨a, b⟩)]
    · intro d h hr
      rw [m153, hr.1.1, s120n _ _ g0, q_c1_s, if_pos rfl]
theorem c71 : qs_st 71 154 [] := by
  intro s hs
  refine qs_sc (.int (nI (qv_top s.1))) hs ?_ ?_
  · intro d h hc
    obtain ⟨h2, e1, e2, e3, e4⟩ := s36z (d + 8) h s.1 hs.1 (Or.inl rfl) hc.1 hc.2.2.2.2.2.2.2
    refine ⟨h2, ?_, qc_of e3, e4⟩
    rw [m71, e1, q_c0_s, s42 (d + 11) h2 s.1 hs.1 e2, q_c1_s]
  · intro d h hr
    obtain ⟨h2, e1, e2, e3⟩ := s126 (d + 11) h s.1 hs.1 hr.1
    refine ⟨h2, ?_, qp_of e3⟩
    rw [m154, e1, q_c0_s, s132 (d + 12) h2 s.1 hs.1 (qw_sc_at e3 hr.1) e2, q_c1_s]
theorem s112 (d : Nat) (h : q_S) (l : qv_L) (hl : qv_ok l) (k q : Nat) (hq1 : 1 ≤ q) (hq : q ≤ 16) (hk : k < l 0 0) (hL : qv_at h 12 l) (hz : qr_z h) : ∃ h2, q_sem (d + 6) 112 h [.ref 0, .ref 12, .int (nI k), .int (nI q)] = some (h2, some (.int (nI (qv_f l k q)))) ∧ qr_sc h h2 ∧ qr_z h2 := by
  obtain ⟨h2, e1, e2, e3, e4⟩ := s36z d h l hl (Or.inl rfl) hL hz
  obtain ⟨h3, f1, f2, f3⟩ := s43 (d + 1) h2 l hl k q hq1 hq hk e2 e4
  exact ⟨h3, by rw [m112, e1, q_c0_s, f1, q_c1_s], qr_sc_tr e3 (qr_fr_sc f2), f3⟩
theorem s112t (d : Nat) (h : q_S) (l : qv_L) (hl : qv_ok l) (k q : Nat) (hq1 : 1 ≤ q) (hq : q ≤ 16) (hk : k < l 0 0) (hL : qv_at h 18 l) (hz : qr_z h) : ∃ h2, q_sem (d + 6) 112 h [.ref 0, .ref 18, .int (nI k), .int (nI q)] = some (h2, some (.int (nI (qv_f l k q)))) ∧ qr_sc h h2 ∧ qr_z h2 := by
  obtain ⟨h2, e1, e2, e3, e4⟩ := s36z d h l hl (Or.inr rfl) hL hz
  obtain ⟨h3, f1, f2, f3⟩ := s43 (d + 1) h2 l hl k q hq1 hq hk e2 e4
  exact ⟨h3, by rw [m112_1, e1, q_c0_s, f1, q_c1_s], qr_sc_tr e3 (qr_fr_sc f2), f3⟩
theorem c72 (x y : Int32) : qs_st 72 156 [.int x, .int y] := by
  intro s hs
  by_cases g : qg_d s.1 x ∧ qg_q y
  · obtain ⟨q, hq1, hq, rfl⟩ := qg_qN g.2
    obtain ⟨k, hk, rfl⟩ := qg_dN hs.1.1 g.1
    refine qs_sc (.int (nI (qv_f s.1 k q))) hs ?_ ?_
    · intro d h hc
      obtain ⟨h2, e1, e2, e3⟩ := s112 (d + 7) h s.1 hs.1 k q hq1 hq hk hc.1 hc.2.2.2.2.2.2.2
      refine ⟨h2, ?_, qc_of e2, e3⟩
      rw [m72, s19p _ hc.1 g.1, q_c1_s, if_neg (by decide), s106p _ _ g.2, q_c1_s, if_neg (by decide), e1, q_c1_s]
    · intro d h hr
      obtain ⟨h2, e1, e2⟩ := s133 (d + 9) h s.1 hs.1 k q hq1 hq hk hr.1
      refine ⟨h2, ?_, qp_of e2⟩
      rw [m156, s155p _ hs.1 hr.1 g, q_c1_s, if_neg (by decide), e1, q_c1_s]
  · refine qs_no (.int (-1)) hs ?_ ?_
    · intro d h hc
      rw [m72]
      by_cases a : qg_d s.1 x
      · rw [s19p _ hc.1 a, q_c1_s, if_neg (by decide), s106n _ _ (fun b => g ⟨a, b⟩), q_c1_s, if_pos rfl]
      · rw [s19n _ hc.1 a, q_c1_s, if_pos rfl]
    · intro d h hr
      rw [m156, s155n _ hs.1 hr.1 g, q_c1_s, if_pos rfl]
theorem c73 (w x y : Int32) : qs_st 73 157 [.int w, .int x, .int y] := by
  intro s hs
  have h8 := hs.1.1
  by_cases g0 : qg_d s.1 w
  · by_cases g : qg_p x ∧ qg_q y
    · obtain ⟨p, hp, rfl⟩ := qg_pN g.1
      obtain ⟨q, hq1, hq, rfl⟩ := qg_qN g.2
      obtain ⟨i, hi, rfl⟩ := qg_dN hs.1.1 g0
      have e : nI (s.1 0 0) - 1 = iI (((i + 1) + (s.1 0 0 - (i + 1)) : Nat) - 1) := by
        rw [nI_iI, show (1 : Int32) = iI 1 from rfl, iI_sub]
        congr 1
        omega
      refine qs_sc (.int (nI (qB s.1 p q 0 i) + nI (qB s.1 p q (i + 1) (s.1 0 0 - (i + 1))))) hs ?_ ?_
      · intro d h hc
        obtain ⟨h2, e1, e2, e3, e4⟩ := s36z (d + 8) h s.1 hs.1 (Or.inl rfl) hc.1 hc.2.2.2.2.2.2.2
        obtain ⟨h3, f1, f2, f3, f4⟩ := s38 (d + 11) h2 s.1 hs.1 p q 0 i (by omega) hq (by omega) e2 e4
        obtain ⟨h4, j1, j2, j3, j4⟩ := s38 (d + 11) h3 s.1 hs.1 p q (i + 1) (s.1 0 0 - (i + 1)) (by omega) hq (by omega) (qr_at_fr f2 e2) f3
        refine ⟨h4, ?_, qc_sc_tr (qc_of e3) (qc_sc_tr (qc_of (qr_fr_sc f2)) (qc_of (qr_fr_sc j2))), j3⟩
        have a1 := qr_sc_at (qr_sc_tr e3 (qr_fr_sc f2)) (Or.inl rfl) hc.1
        rw [m73, s19p _ hc.1 g0, q_c1_s, if_neg (by decide), s107p _ _ g, q_c1_s, if_neg (by decide), e1, q_c0_s, qg_pre, show (0 : Int32) = nI 0 from rfl, f1, q_c1_s, a1.1, nI_p1, e, j1, q_c1_s]
      · intro d h hr
        obtain ⟨h2, e1, e2, e3⟩ := s126 (d + 11) h s.1 hs.1 hr.1
        obtain ⟨h3, f1, f2, f3, f4⟩ := s130 (d + 11) h2 s.1 hs.1 p q 0 i (by omega) hq (by omega) e2
        obtain ⟨h4, j1, j2, j3, j4⟩ := s130 (d + 11) h3 s.1 hs.1 p q (i + 1) (s.1 0 0 - (i + 1)) (by omega) hq (by omega) f3
        refine ⟨h4, ?_, qp_sc_tr (qp_of e3) (qp_sc_tr (qp_of f2) (qp_of j2))⟩
        have a1 := qw_sc_at (qw_sc_tr e3 f2) hr.1
        rw [m157, s121p _ hs.1 hr.1 g0, q_c1_s, if_neg (by decide), s124p _ _ g, q_c1_s, if_neg (by decide), e1, q_c0_s, qg_pre, show (0 : Int32) = nI 0 from rfl, f1, q_c1_s, a1.1, nI_p1, e, j1, q_c1_s]
    · refine qs_no (.int (-1)) hs ?_ ?_
      · intro d h hc
        rw [m73, s19p _ hc.1 g0, q_c1_s, if_neg (by decide), s107n _ _ g, q_c1_s, if_pos rfl]
      · intro d h hr
        rw [m157, s121p _ hs.1 hr.1 g0, q_c1_s, if_neg (by decide), s124n _ _ g, q_c1_s, if_pos rfl]
  · refine qs_no (.int (-1)) hs ?_ ?_
    · intro d h hc
      rw [m73, s19n _ hc.1 g0, q_c1_s, if_pos rfl]
    · intro d h hr
      rw [m157, s121n _ hs.1 hr.1 g0, q_c1_s, if_pos rfl]
def qg_b (x y z : Int32) : Prop := (qg_p x ∧ qg_q z) ∧ (qg_p y ∧ qg_q z) ∧ ¬ y < x
theorem s108p (d : Nat) (h : q_S) {x y z : Int32} (g : qg_b x y z) : q_sem (d + 3) 108 h [.int x, .int y, .int z] = some (h, some (.int 1)) := by
  rw [m108, s107p _ _ g.1, q_c1_s, if_neg (by decide), s107p _ _ g.2.1, q_c1_s, if_neg (by decide), if_neg g.2.2]
theorem s108n (d : Nat) (h : q_S) {x y z : Int32} (g : ¬ qg_b x y z) : q_sem (d + 3) 108 h [.int x, .int y, .int z] = some (h, some (.int 0)) := by
  rw [m108]
  by_cases a : qg_p x ∧ qg_q z
  · by_cases b : qg_p y ∧ qg_q z
    · rw [s107p _ _ a, q_c1_s, if_neg (by decide), s107p _ _ b, q_c1_s, if_neg (by decide), if_pos (Classical.byContradiction fun c => g ⟨a, b, c⟩)]
    · rw [s107p _ _ a, q_c1_s, if_neg (by decide), s107n _ _ b, q_c1_s, if_pos rfl]
  · rw [s107n _ _ a, q_c1_s, if_pos rfl]
theorem s158p (d : Nat) (h : q_S) {x y z : Int32} (g : qg_b x y z) : q_sem (d + 4) 158 h [.int x, .int y, .int z] = some (h, some (.int 1)) := by
  rw [m158, s124p _ _ g.1, q_c1_s, if_neg (by decide), s124p _ _ g.2.1, q_c1_s, if_neg (by decide), if_neg g.2.2]
theorem s158n (d : Nat) (h : q_S) {x y z : Int32} (g : ¬ qg_b x y z) : q_sem (d + 4) 158 h [.int x, .int y, .int z] = some (h, some (.int 0)) := by
  rw [m158]
  by_cases a : qg_p x ∧ qg_q z
  · by_cases b : qg_p y ∧ qg_q z
    · rw [s124p _ _ a, q_c1_s, if_neg (by decide), s124p _ _ b, q_c1_s, if_neg (by decide), if_pos (Classical.byContradiction fun c => g ⟨a, b, c⟩)]
    · rw [s124p _ _ a, q_c1_s, if_neg (by decide), s124n _ _ b, q_c1_s, if_pos rfl]
  · rw [s124n _ _ a, q_c1_s, if_pos rfl]
theorem qg_bN {x y z : Int32} (g : qg_b x y z) : ∃ a b q, a ≤ b ∧ b ≤ 9999 ∧ 1 ≤ q ∧ q ≤ 16 ∧ x = nI a ∧ y = nI b ∧ z = nI q := by
  obtain ⟨a, ha, rfl⟩ := qg_pN g.1.1
  obtain ⟨b, hb, rfl⟩ := qg_pN g.2.1.1
  obtain ⟨q, hq1, hq, rfl⟩ := qg_qN g.1.2
  have c := g.2.2
  rw [nI_lt_iff (by omega) (by omega)] at c
  exact ⟨a, b, q, by omega, hb, hq1, hq, rfl, rfl, rfl⟩
theorem s159 (d : Nat) (h : q_S) (l : qv_L) (hl : qv_ok l) (a b q : Nat) (hab : a ≤ b) (hb : b ≤ 10000) (hq1 : 1 ≤ q) (hq : q ≤ 16) (hL : qw_at h l) : ∃ h2, q_sem (d + 4) 159 h [.ref 67, .int (nI a), .int (nI b), .int (nI q)] = some (h2, some (.int (nI (qB l b q 0 (l 0 0) - qB l a q 0 (l 0 0))))) ∧ qw_sc h h2 := by
  obtain ⟨h2, e1, e2, e3⟩ := s126 (d + 1) h l hl hL
  obtain ⟨h3, f1, f2, f3, f4⟩ := s131 d h2 l hl b q hb hq (qw_sc_at e3 hL) e2
  obtain ⟨h4, j1, j2, j3, j4⟩ := s131 d h3 l hl a q (by omega) hq (qw_sc_at (qw_sc_tr e3 f2) hL) f3
  refine ⟨h4, ?_, qw_sc_tr e3 (qw_sc_tr f2 j2)⟩
  have := qB_mono hl (n := l 0 0) (a := 0) hq1 (by omega) hab
  rw [m159, e1, q_c0_s, f1, q_c1_s, j1, q_c1_s, pk_sub this]
theorem c74 (x y z : Int32) : qs_st 74 160 [.int x, .int y, .int z] := by
  intro s hs
  by_cases g : qg_b x y z
  · obtain ⟨a, b, q, hab, hb, hq1, hq, rfl, rfl, rfl⟩ := qg_bN g
    refine qs_sc (.int (nI (qB s.1 b q 0 (s.1 0 0) - qB s.1 a q 0 (s.1 0 0)))) hs ?_ ?_
    · intro d h hc
      obtain ⟨h2, e1, e2, e3, e4⟩ := s36z (d + 8) h s.1 hs.1 (Or.inl rfl) hc.1 hc.2.2.2.2.2.2.2
      obtain ⟨h3, f1, f2, f3⟩ := s45 (d + 9) h2 s.1 hs.1 a b q hab (by omega) hq1 hq e2 e4
      refine ⟨h3, ?_, qc_sc_tr (qc_of e3) (qc_of (qr_fr_sc f2)), f3⟩
      rw [m74, s108p _ _ g, q_c1_s, if_neg (by decide), e1, q_c0_s, f1, q_c1_s]
    · intro d h hr
      obtain ⟨h2, e1, e2⟩ := s159 (d + 9) h s.1 hs.1 a b q hab (by omega) hq1 hq hr.1
      refine ⟨h2, ?_, qp_of e2⟩
      rw [m160, s158p _ _ g, q_c1_s, if_neg (by decide), e1, q_c1_s]
  · refine qs_no (.int (-1)) hs ?_ ?_
    · intro d h hc
      rw [m74, s108n _ _ g, q_c1_s, if_pos rfl]
    · intro d h hr
      rw [m160, s158n _ _ g, q_c1_s, if_pos rfl]
