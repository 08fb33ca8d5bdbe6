/-! ===== film ===== -/
def q_fm (l : qv_L) (q k i : Nat) : Int64 := if i < l 0 0 then q_nw k (iL (qv_f l i q)) else iL 0
def qp_f (P : Nat → Nat → Int64) (r : Nat) (f : Nat → Int64) : Nat → Nat → Int64 := fun a i => if a = r then f i else P a i
theorem l95 (X : q_X) (d : Nat) (l : qv_L) (hl : qv_ok l) (q : Nat) (hq1 : 1 ≤ q) (hq : q ≤ 16) (r : Nat) (hr : r < 3) (k : Nat) (hk : k ≤ 2) (h0 : q_S) : ∀ m f i h, i + m = l 0 0 → 2 * m < f → h.1 = h0.1 → h0.1 12 6 = nI (l 0 0) → h0.1 (61 + r) 1 = nI k → qr_at h l → qr_z h → h.2.2 = h0.2.2 → (∀ a, (a < 48 ∨ 56 < a) → a ≠ 64 + r → h.2.1 a = h0.2.1 a) → (∀ j, j < 40 → h.2.1 (64 + r) j = if j < i then q_fm l q k j else iL 0) → ∃ h2, q_go e_95 X (q_sem (d + 4)) f 56 [(0, .ref 0), (1, .int (nI r)), (3, .int (nI q)), (4, .int (nI i))] [] h = some (h2, some (.int (nI (l 0 0)))) ∧ h2.1 = h0.1 ∧ qr_z h2 ∧ h2.2.2 = h0.2.2 ∧ (∀ a, (a < 48 ∨ 56 < a) → a ≠ 64 + r → h2.2.1 a = h0.2.1 a) ∧ (∀ j, j < 40 → h2.2.1 (64 + r) j = q_fm l q k j) := by
  have h8 := hl.1
  intro m
  induction m with
  | zero =>
    intro f i h hm hf e0 e1 e2 e3 e4 e5 e6 e7
    obtain ⟨f, rfl⟩ : ∃ g, f = g + 1 := ⟨f - 1, by omega⟩
    refine ⟨h, ?_, e0, e4, e5, e6, fun j hj => ?_⟩
    · rw [b95_56, e0, e1, if_neg (by rw [nI_lt_iff (by omega) (by omega)]; omega)]
    · rw [e7 j hj]
      by_cases z : j < i
      · rw [if_pos z]
      · rw [if_neg z]
        unfold q_fm
        rw [if_neg (by omega)]
  | succ m ih =>
    intro f i h hm hf e0 e1 e2 e3 e4 e5 e6 e7
    obtain ⟨f, rfl⟩ : ∃ g, f = g + 1 + 1 := ⟨f - 2, by omega⟩
    obtain ⟨h2, g1, g2, g3⟩ := s43 d h l hl i q hq1 hq (by omega) e3 e4
    have hb := qv_f_bd hl hq i
    have sc := qr_fr_sc g2
    rw [b95_56, e0, e1, if_pos (by rw [nI_lt_iff (by omega) (by omega)]; omega), q_ix_n hr (by decide), rf60 hr, gb95_74 hr, g1, q_c1_s, nI_L (by omega), s52 _ h2 hr hk (by rw [g2.1, e0, e2]) (by omega), q_c0_s, nI_p1]
    refine ih f (i + 1) _ (by omega) (by omega) (g2.1.trans e0) e1 e2 ?_ ?_ (g2.2.1.trans e5) ?_ ?_
    · have a := qr_at_fr g2 e3
      refine ⟨a.1, fun j hj => ?_⟩
      rw [qr_sl_ne (by omega), qr_sl_ne (by omega), qr_sl_ne (by omega)]
      exact a.2 j hj
    · exact f_z (fun a j q => qr_sl_ne (by omega)) g3
    · intro a ha hn
      rw [← e6 a ha hn, ← g2.2.2 a (by simp [qr_S]; omega)]
      funext j
      exact qr_sl_ne (by omega)
    · intro j hj
      by_cases z : j = i
      · rw [z, qr_sl_eq, if_pos (by omega)]
        unfold q_fm
        rw [if_pos (by omega)]
      · rw [qr_sl_ne (by omega), congrFun (sc.2.2 (64 + r) (by omega)) j, e7 j hj]
        by_cases w : j < i
        · rw [if_pos w, if_pos (by omega)]
        · rw [if_neg w, if_neg (by omega)]
theorem l173 (X : q_X) (d : Nat) (l : qv_L) (hl : qv_ok l) (q : Nat) (hq1 : 1 ≤ q) (hq : q ≤ 16) (r : Nat) (hr : r < 3) (k : Nat) (hk : k ≤ 2) (h0 : q_S) : ∀ m f i h, i + m = 40 → m < f → qw_at h l → (∀ a, a ∉ qw_T → h.1 a = h0.1 a) → (∀ a j, a ≠ 78 → ¬ (a = 87 ∧ 40 * r ≤ j ∧ j < 40 * r + 40) → h.2.1 a j = h0.2.1 a j) → (∀ j, j < i → h.2.1 87 (40 * r + j) = q_fm l q k j) → ∃ h2, q_go e_173 X (q_sem (d + 4)) f 45 [(0, .ref 67), (1, .int (nI r)), (2, .int (nI k)), (3, .int (nI q)), (4, .int (nI i))] [] h = some (h2, some (.int (nI (l 0 0)))) ∧ (∀ a, a ∉ qw_T → h2.1 a = h0.1 a) ∧ (∀ a j, a ≠ 78 → ¬ (a = 87 ∧ 40 * r ≤ j ∧ j < 40 * r + 40) → h2.2.1 a j = h0.2.1 a j) ∧ (∀ j, j < 40 → h2.2.1 87 (40 * r + j) = q_fm l q k j) := by
  have h8 := hl.1
  intro m
  induction m with
  | zero =>
    intro f i h hm hf e0 e1 e2 e3
    obtain ⟨f, rfl⟩ : ∃ g, f = g + 1 := ⟨f - 1, by omega⟩
    refine ⟨h, ?_, e1, e2, fun j hj => e3 j (by omega)⟩
    rw [b173_45, if_neg (by rw [show (40 : Int32) = nI 40 from rfl, nI_lt_iff (by omega) (by omega)]; omega), e0.1]
  | succ m ih =>
    intro f i h hm hf e0 e1 e2 e3
    obtain ⟨f, rfl⟩ : ∃ g, f = g + 1 := ⟨f - 1, by omega⟩
    rw [b173_45, if_pos (by rw [show (40 : Int32) = nI 40 from rfl, nI_lt_iff (by omega) (by omega)]; omega), e0.1]
    have go : ∀ (g : q_S) (v : Int64), qw_at g l → (∀ a, a ∉ qw_T → g.1 a = h0.1 a) → (∀ a j, a ≠ 78 → ¬ (a = 87 ∧ 40 * r ≤ j ∧ j < 40 * r + 40) → g.2.1 a j = h0.2.1 a j) → (∀ j, j < i → g.2.1 87 (40 * r + j) = q_fm l q k j) → v = q_fm l q k i → ∃ h2, q_go e_173 X (q_sem (d + 4)) f 45 [(0, .ref 67), (1, .int (nI r)), (2, .int (nI k)), (3, .int (nI q)), (4, .int (nI (i + 1)))] [] (q_sl g 87 (40 * r + i) v) = some (h2, some (.int (nI (l 0 0)))) ∧ (∀ a, a ∉ qw_T → h2.1 a = h0.1 a) ∧ (∀ a j, a ≠ 78 → ¬ (a = 87 ∧ 40 * r ≤ j ∧ j < 40 * r + 40) → h2.2.1 a j = h0.2.1 a j) ∧ (∀ j, j < 40 → h2.2.1 87 (40 * r + j) = q_fm l q k j) := by
      intro g v a1 a2 a3 a4 a5
      refine ih f (i + 1) _ (by omega) (by omega) a1 a2 (fun a j p q => ?_) (fun j hj => ?_)
      · rw [qr_sl_ne (by omega)]
        exact a3 a j p q
      · by_cases z : j = i
        · rw [z, qr_sl_eq, a5]
        · rw [qr_sl_ne (by omega)]
          exact a4 j (by omega)
    by_cases z : i < l 0 0
    · obtain ⟨h2, g1, g2⟩ := s133 d h l hl i q hq1 hq z e0
      have hb := qv_f_bd hl hq i
      rw [if_pos (by rw [nI_lt_iff (by omega) (by omega)]; exact z), g1, q_c1_s, nI_L (by omega), s169 _ _ hk, q_c3_s, show (40 : Int32) = nI 40 from rfl, pk_mul, nI_add, q_ix_n (by omega) (by decide), nI_p1]
      refine go h2 _ (qw_sc_at g2 e0) (fun a p => (g2.1 a p).trans (e1 a p)) (fun a j p q => (congrFun (g2.2.2 a p) j).trans (e2 a j p q)) (fun j hj => (congrFun (g2.2.2 87 (by decide)) _).trans (e3 j hj)) ?_
      unfold q_fm
      rw [if_pos z]
    · rw [if_neg (by rw [nI_lt_iff (by omega) (by omega)]; exact z), show (40 : Int32) = nI 40 from rfl, pk_mul, nI_add, q_ix_n (by omega) (by decide), nI_p1]
      refine go h _ e0 e1 e2 e3 ?_
      unfold q_fm
      rw [if_neg z]
      rfl
theorem c95 (x y z : Int32) : qs_st 95 173 [.int x, .int y, .int z] := by
  intro s hs
  have h8 := hs.1.1
  by_cases g : qg_r x
  · by_cases g2 : ¬ y < 0 ∧ ¬ 2 < y
    · by_cases g3 : qg_q z
      · obtain ⟨r, hr, rfl⟩ := qg_rN g
        obtain ⟨k, hk3, rfl⟩ := qg_rN g2
        have hk : k ≤ 2 := by omega
        obtain ⟨q, hq1, hq, rfl⟩ := qg_qN g3
        obtain ⟨o1, o2, o3, o4, o5, o6, o7⟩ := hs
        refine ⟨.int (nI (s.1 0 0)), (s.1, s.2.1, qt (qt s.2.2.1 0 (4 + r) (nI k)) 0 (7 + r) (nI (s.1 0 0)), qp_f s.2.2.2 r (q_fm s.1 q k)), mk_ok (o1) (f_im (fun a j q => (qt_ne (by omega)).trans (qt_ne (by omega))) o2) (f_or (fun a j q => (qt_ne (by omega)).trans (qt_ne (by omega))) o3) (f_ch (fun a j q => (qt_ne (by omega)).trans (qt_ne (by omega))) o4) (f_tp (fun a j q => (qt_ne (by omega)).trans (qt_ne (by omega))) o5) (rw_new hr (by omega) (Or.inr ⟨k, hk, rfl⟩) o6) (f_tc (fun a j q => (qt_ne (by omega)).trans (qt_ne (by omega))) o7), ?_, ?_⟩
        · rintro d h ⟨c1, c2, c3, c4, c5, c6, c7, c8⟩
          obtain ⟨h2, i1, i2, i3, i4⟩ := s36z (d + 8) h s.1 o1 (Or.inl rfl) c1 c8
          have c12 := qr_sc_at i3 (Or.inl rfl) c1
          obtain ⟨h3, j1, j2, j3, j4, j5⟩ := s49 (d + 12) h2 r hr (nI k) (nI (s.1 0 0))
          have n12 : h3.1 12 6 = nI (s.1 0 0) := by rw [j2, qw_si_ne (by omega), qw_si_ne (by omega)]; exact c12.1
          have nk : h3.1 (61 + r) 1 = nI k := by rw [j2, qw_si_ne (by omega), qw_si_eq]
          have at3 : qr_at h3 s.1 := by
            refine ⟨by rw [j2, qw_si_ne (by omega), qw_si_ne (by omega)]; exact i2.1, fun i hi => ?_⟩
            rw [j4 44 (by omega), j4 45 (by omega), j4 46 (by omega)]
            exact i2.2 i hi
          obtain ⟨h4, f1, f2, f3, f4, f5, f6⟩ := l95 q_X0 (d + 9) s.1 o1 q hq1 hq r hr k hk h3 (s.1 0 0) 998 0 h3 (by omega) (by omega) rfl n12 nk at3 (f_z (fun a j q => congrFun (j4 a (by omega)) j) i4) rfl (fun _ _ _ => rfl) (fun j hj => by rw [j5 j hj, if_neg (by omega)])
          refine ⟨h4, ?_, ?_⟩
          · rw [m95, s109p _ _ g, q_c1_s, if_neg (by decide), if_neg g2.1, if_neg g2.2, s106p _ _ g3, q_c1_s, if_neg (by decide), i1, q_c0_s, q_ix_n hr (by decide), rf60 hr, gb95_42 hr, c12.1, j1, q_c0_s]
            exact f1
          · have u : ∀ a j, ¬ (61 ≤ a ∧ a ≤ 63) → ¬ (a = 43 ∧ j = 0) → h4.1 a j = h.1 a j := fun a j p w => by rw [f2, j2, qw_si_ne (by omega), qw_si_ne (by omega)]; exact i3.1 a j w
            have ul : ∀ a j, (a < 44 ∨ 56 < a) → a ≠ 64 + r → h4.2.1 a j = h.2.1 a j := fun a j p w => by rw [f5 a (by omega) w, j4 a w]; exact congrFun (i3.2.2 a p) j
            have ur : h4.2.2 = h.2.2 := f4.trans (j3.trans i3.2.1)
            refine mk_C (f_c1 (fun a j q => u a j (by omega) (by omega)) c1) (f_c2 (fun a j q => u a j (by omega) (by omega)) (fun a j q => (qt_ne (by omega)).trans (qt_ne (by omega))) c2) (f_c3 (fun a j q => u a j (by omega) (by omega)) (fun a j q => (qt_ne (by omega)).trans (qt_ne (by omega))) c3) (f_c4 (fun a j q => u a j (by omega) (by omega)) (fun a j q => (qt_ne (by omega)).trans (qt_ne (by omega))) c4) (f_c5 (fun a j q => u a j (by omega) (by omega)) (fun a j q => (qt_ne (by omega)).trans (qt_ne (by omega))) c5) ?_ (f_c7 (fun a j q => u a j (by omega) (by omega)) ur (fun a j q => (qt_ne (by omega)).trans (qt_ne (by omega))) c7) f3
            intro a ha
            obtain ⟨d1, d2, d3⟩ := c6 a ha
            by_cases w : a = r
            · subst w
              refine ⟨by rw [f2, j2, qw_si_ne (by omega), qw_si_eq, qt_ne (by omega), qt_eq], by rw [f2, j2, qw_si_eq, qt_eq], fun i hi => ?_⟩
              rw [f6 i hi]
              simp [qp_f]
            · refine ⟨by rw [f2, j2, qw_si_ne (by omega), qw_si_ne (by omega), i3.1 _ _ (by omega), qt_ne (by omega), qt_ne (by omega)]; exact d1, by rw [f2, j2, qw_si_ne (by omega), qw_si_ne (by omega), i3.1 _ _ (by omega), qt_ne (by omega), qt_ne (by omega)]; exact d2, fun i hi => ?_⟩
              rw [ul _ _ (by omega) (by omega)]
              simp only [qp_f]
              rw [if_neg w]
              exact d3 i hi
        · rintro d h ⟨c1, c2, c3, c4, c5, c6, c7⟩
          obtain ⟨h4, f1, f2, f3, f4⟩ := l173 q_X0 (d + 9) s.1 o1 q hq1 hq r hr k hk (q_si (q_si h 85 r (nI k)) 86 r (nI (s.1 0 0))) 40 999 0 _ (by omega) (by omega) (f_r1 (fun a j q => (qw_si_ne (by omega)).trans (qw_si_ne (by omega))) c1) (fun _ _ => rfl) (fun _ _ _ _ => rfl) (fun j hj => absurd hj (by omega))
          refine ⟨h4, ?_, ?_⟩
          · rw [m173, s168p _ _ g, q_c1_s, if_neg (by decide), s120p _ _ g2.1 g2.2, q_c1_s, if_neg (by decide), s123p _ _ g3, q_c1_s, if_neg (by decide), q_ix_n hr (by decide), q_ix_n hr (by decide), c1.1]
            exact f1
          · have hT : ∀ a, a ∉ qw_T ↔ ¬ (a = 73 ∨ a = 74 ∨ a = 75 ∨ a = 76 ∨ a = 77 ∨ a = 79 ∨ a = 80) := by
              intro a
              simp [qw_T]
            have u : ∀ a j, ((67 ≤ a ∧ a < 73) ∨ 80 < a) → ¬ (85 ≤ a ∧ a ≤ 86) → h4.1 a j = h.1 a j := fun a j p w => by rw [f2 a ((hT a).mpr (by omega)), qw_si_ne (by omega), qw_si_ne (by omega)]
            have u5 : h4.1 85 = (q_si (q_si h 85 r (nI k)) 86 r (nI (s.1 0 0))).1 85 := f2 85 (by decide)
            have u6 : h4.1 86 = (q_si (q_si h 85 r (nI k)) 86 r (nI (s.1 0 0))).1 86 := f2 86 (by decide)
            refine mk_R (f_r1 (fun a j q => u a j (by omega) (by omega)) c1) (f_r2 (fun a j q => u a j (by omega) (by omega)) (fun a j q => (qt_ne (by omega)).trans (qt_ne (by omega))) c2) (f_r3 (fun a j q => u a j (by omega) (by omega)) (fun a j q => (qt_ne (by omega)).trans (qt_ne (by omega))) c3) (f_r4 (fun a j q => u a j (by omega) (by omega)) (fun a j q => (qt_ne (by omega)).trans (qt_ne (by omega))) c4) (f_r5 (fun a j q => u a j (by omega) (by omega)) (fun a j q => (qt_ne (by omega)).trans (qt_ne (by omega))) c5) ?_ (f_r7 (fun a j q => u a j (by omega) (by omega)) (fun a j q => (qt_ne (by omega)).trans (qt_ne (by omega))) c7)
            intro a ha
            obtain ⟨d1, d2, d3⟩ := c6 a ha
            rw [u5, u6]
            by_cases w : a = r
            · subst w
              refine ⟨by rw [qw_si_ne (by omega), qw_si_eq, qt_ne (by omega), qt_eq], by rw [qw_si_eq, qt_eq], fun i hi => ?_⟩
              rw [f4 i hi]
              simp [qp_f]
            · refine ⟨by rw [qw_si_ne (by omega), qw_si_ne (by omega), qt_ne (by omega), qt_ne (by omega)]; exact d1, by rw [qw_si_ne (by omega), qw_si_ne (by omega), qt_ne (by omega), qt_ne (by omega)]; exact d2, fun i hi => ?_⟩
              rw [f3 87 _ (by omega) (by omega)]
              simp only [qp_f]
              rw [if_neg w]
              exact d3 i hi
      · refine qs_no (.int (-1)) hs ?_ ?_
        · intro d h hc
          rw [m95, s109p _ _ g, q_c1_s, if_neg (by decide), if_neg g2.1, if_neg g2.2, s106n _ _ g3, q_c1_s, if_pos rfl]
        · intro d h hc
          rw [m173, s168p _ _ g, q_c1_s, if_neg (by decide), s120p _ _ g2.1 g2.2, q_c1_s, if_neg (by decide), s123n _ _ g3, q_c1_s, if_pos rfl]
    · refine qs_no (.int (-1)) hs ?_ ?_
      · intro d h hc
        rw [m95, s109p _ _ g, q_c1_s, if_neg (by decide)]
        by_cases a : y < 0
        · rw [if_pos a]
        · rw [if_neg a, if_pos (Classical.byContradiction fun b => g2 ⟨a, b⟩)]
      · intro d h hc
        rw [m173, s168p _ _ g, q_c1_s, if_neg (by decide), s120n _ _ g2, q_c1_s, if_pos rfl]
  · refine qs_no (.int (-1)) hs ?_ ?_
    · intro d h hc
      rw [m95, s109n _ _ g, q_c1_s, if_pos rfl]
    · intro d h hc
      rw [m173, s168n _ _ g, q_c1_s, if_pos rfl]
