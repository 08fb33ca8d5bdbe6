/-! ===== gap, heavier ===== -/
theorem qv_f_mono {l : qv_L} (hl : qv_ok l) {q k : Nat} (hq : 1 ≤ q) (hk : k + 1 < l 0 0) : qv_f l k q ≤ qv_f l (k + 1) q := by
  have a := (qv_f_iff hl hq (show k < l 0 0 by omega) (qv_f l k q)).mpr (Nat.le_refl _)
  exact (qv_f_iff hl hq hk _).mp (by omega)
def q_gap (l : qv_L) (q : Nat) : Nat → Nat → Nat × Nat → Nat × Nat
  | 0, _, r => r
  | m + 1, k, r => q_gap l q m (k + 1) (if r.2 < qv_f l (k + 1) q - qv_f l k q then (k, qv_f l (k + 1) q - qv_f l k q) else r)
theorem l75 (X : q_X) (d : Nat) (l : qv_L) (hl : qv_ok l) (q : Nat) (hq1 : 1 ≤ q) (hq : q ≤ 16) (y : Int32) (h0 : q_S) : ∀ m f k r h, k + 1 + m = l 0 0 → m < f → r.2 < 20000 → qv_at h 12 l → qr_at h l → qr_z h → qc_sc h0 h → ∃ h2, q_go e_75 X (q_sem (d + 4)) f 62 [(0, .ref 0), (1, .int (nI q)), (2, .int y), (3, .int (nI r.1)), (4, .int (nI r.2)), (5, .int (nI (qv_f l k q))), (6, .int (nI (k + 1)))] [] h = some (h2, some (.int (if y = 0 then nI (q_gap l q m k r).1 else nI (q_gap l q m k r).2))) ∧ qc_sc h0 h2 ∧ qr_z h2 := by
  have h8 := hl.1
  intro m
  induction m with
  | zero =>
    intro f k r h hm hf hr e0 e1 e2 e3
    obtain ⟨f, rfl⟩ : ∃ g, f = g + 1 := ⟨f - 1, by omega⟩
    refine ⟨h, ?_, e3, e2⟩
    rw [b75_62, e0.1, if_neg (by rw [nI_lt_iff (by omega) (by omega)]; omega), q_gap]
    split <;> rfl
  | succ m ih =>
    intro f k r h hm hf hr e0 e1 e2 e3
    obtain ⟨f, rfl⟩ : ∃ g, f = g + 1 := ⟨f - 1, by omega⟩
    obtain ⟨h2, g1, g2, g3⟩ := s43 d h l hl (k + 1) q hq1 hq (by omega) e1 e2
    have f1 := qv_f_bd hl hq k
    have f2 := qv_f_bd hl hq (k + 1)
    have fm := qv_f_mono hl hq1 (show k + 1 < l 0 0 by omega)
    have sc := qc_sc_tr e3 (qc_of (qr_fr_sc g2))
    have a0 := qr_sc_at (qr_fr_sc g2) (Or.inl rfl) e0
    rw [b75_62, e0.1, if_pos (by rw [nI_lt_iff (by omega) (by omega)]; omega), g1, q_c1_s, pk_sub fm, nI_p1, nI_m1, q_gap]
    by_cases z : r.2 < qv_f l (k + 1) q - qv_f l k q
    · rw [if_pos (by rw [nI_lt_iff (by omega) (by omega)]; exact z), if_pos z]
      exact ih f (k + 1) (k, qv_f l (k + 1) q - qv_f l k q) h2 (by omega) (by omega) (by show qv_f l (k + 1) q - qv_f l k q < 20000; omega) a0 (qr_at_fr g2 e1) g3 sc
    · rw [if_neg (by rw [nI_lt_iff (by omega) (by omega)]; exact z), if_neg z]
      exact ih f (k + 1) r h2 (by omega) (by omega) hr a0 (qr_at_fr g2 e1) g3 sc
theorem l161 (X : q_X) (d : Nat) (l : qv_L) (hl : qv_ok l) (q : Nat) (hq1 : 1 ≤ q) (hq : q ≤ 16) (y : Int32) (h0 : q_S) : ∀ m f k r h, k + 1 + m = l 0 0 → m < f → r.2 < 20000 → r.1 < 8 → qw_at h l → qw_sc h0 h → ∃ h2, q_go e_161 X (q_sem (d + 4)) f 28 [(0, .ref 67), (1, .int (nI q)), (2, .int y), (3, .int (nI r.1)), (4, .int (nI r.2)), (5, .int (nI k))] [] h = some (h2, some (.int (if y = 0 then nI (q_gap l q m k r).1 else nI (q_gap l q m k r).2))) ∧ qw_sc h0 h2 := by
  have h8 := hl.1
  intro m
  induction m with
  | zero =>
    intro f k r h hm hf hr hr1 e0 e3
    obtain ⟨f, rfl⟩ : ∃ g, f = g + 1 := ⟨f - 1, by omega⟩
    refine ⟨h, ?_, e3⟩
    rw [b161_28, e0.1, show l 0 0 = k + 1 by omega, nI_m1, if_neg (by rw [nI_lt_iff (by omega) (by omega)]; omega), q_gap]
    split <;> rfl
  | succ m ih =>
    intro f k r h hm hf hr hr1 e0 e3
    obtain ⟨f, rfl⟩ : ∃ g, f = g + 1 := ⟨f - 1, by omega⟩
    obtain ⟨h2, g1, g2⟩ := s133 d h l hl (k + 1) q hq1 hq (by omega) e0
    obtain ⟨h3, j1, j2⟩ := s133 d h2 l hl k q hq1 hq (by omega) (qw_sc_at g2 e0)
    have f1 := qv_f_bd hl hq k
    have f2 := qv_f_bd hl hq (k + 1)
    have fm := qv_f_mono hl hq1 (show k + 1 < l 0 0 by omega)
    have sc := qw_sc_tr e3 (qw_sc_tr g2 j2)
    have a0 := qw_sc_at (qw_sc_tr g2 j2) e0
    obtain ⟨n, hn⟩ : ∃ n, l 0 0 = n + 1 := ⟨l 0 0 - 1, by omega⟩
    rw [b161_28, e0.1, hn, nI_m1, if_pos (by rw [nI_lt_iff (by omega) (by omega)]; omega), nI_p1, g1, q_c1_s, j1, q_c1_s, if_neg (nI_lt0 (by omega)), pk_sub fm, q_gap]
    by_cases z : r.2 < qv_f l (k + 1) q - qv_f l k q
    · rw [if_pos (by rw [nI_lt_iff (by omega) (by omega)]; exact z), if_pos z]
      exact ih f (k + 1) (k, qv_f l (k + 1) q - qv_f l k q) h3 (by omega) (by omega) (by show qv_f l (k + 1) q - qv_f l k q < 20000; omega) (by show k < 8; omega) a0 sc
    · rw [if_neg (by rw [nI_lt_iff (by omega) (by omega)]; exact z), if_neg z]
      exact ih f (k + 1) r h3 (by omega) (by omega) hr hr1 a0 sc
def qg_1 (x : Int32) : Prop := ¬ x < 0 ∧ ¬ 1 < x
theorem c75 (x y : Int32) : qs_st 75 161 [.int x, .int y] := by
  intro s hs
  have h8 := hs.1.1
  by_cases g : qg_q x
  · by_cases g2 : qg_1 y
    · obtain ⟨q, hq1, hq, rfl⟩ := qg_qN g
      by_cases z : s.1 0 0 < 2
      · refine qs_no (.int (-2)) hs ?_ ?_
        · intro d h hc
          rw [m75, s106p _ _ g, q_c1_s, if_neg (by decide), if_neg g2.1, if_neg g2.2, hc.1.1, if_pos (by rw [show (2 : Int32) = nI 2 from rfl, nI_lt_iff (by omega) (by omega)]; exact z)]
        · intro d h hr
          rw [m161, s123p _ _ g, q_c1_s, if_neg (by decide), s120p _ _ g2.1 g2.2, q_c1_s, if_neg (by decide), b161_28, hr.1.1]
          rcases (by omega : s.1 0 0 = 0 ∨ s.1 0 0 = 1) with e | e
          · rw [e, if_neg (by decide)]
            split <;> rfl
          · rw [e, if_neg (by decide)]
            split <;> rfl
      · obtain ⟨m, hm⟩ : ∃ m, s.1 0 0 = m + 2 := ⟨s.1 0 0 - 2, by omega⟩
        have f1 := qv_f_bd hs.1 hq 1
        have f0 := qv_f_bd hs.1 hq 0
        have fm : qv_f s.1 0 q ≤ qv_f s.1 1 q := qv_f_mono hs.1 hq1 (show 0 + 1 < s.1 0 0 by omega)
        refine qs_sc (.int (if y = 0 then nI (q_gap s.1 q m 1 (0, qv_f s.1 1 q - qv_f s.1 0 q)).1 else nI (q_gap s.1 q m 1 (0, qv_f s.1 1 q - qv_f s.1 0 q)).2)) hs ?_ ?_
        · intro d h hc
          obtain ⟨h2, e1, e2, e3, e4⟩ := s36z (d + 8) h s.1 hs.1 (Or.inl rfl) hc.1 hc.2.2.2.2.2.2.2
          obtain ⟨h3, i1, i2, i3⟩ := s43 (d + 9) h2 s.1 hs.1 0 q hq1 hq (by omega) e2 e4
          have a0 := qr_sc_at (qr_sc_tr e3 (qr_fr_sc i2)) (Or.inl rfl) hc.1
          obtain ⟨h4, g1, gg, g3⟩ := s43 (d + 9) h3 s.1 hs.1 1 q hq1 hq (by omega) (qr_at_fr i2 e2) i3
          obtain ⟨h5, k1, k2, k3⟩ := l75 q_X0 (d + 9) s.1 hs.1 q hq1 hq y h m 998 1 (0, qv_f s.1 1 q - qv_f s.1 0 q) h4 (by omega) (by omega) (by show qv_f s.1 1 q - qv_f s.1 0 q < 20000; omega) (qr_sc_at (qr_fr_sc gg) (Or.inl rfl) a0) (qr_at_fr gg (qr_at_fr i2 e2)) g3 (qc_sc_tr (qc_of e3) (qc_sc_tr (qc_of (qr_fr_sc i2)) (qc_of (qr_fr_sc gg))))
          refine ⟨h5, ?_, k2, k3⟩
          rw [m75, s106p _ _ g, q_c1_s, if_neg (by decide), if_neg g2.1, if_neg g2.2, hc.1.1, if_neg (by rw [show (2 : Int32) = nI 2 from rfl, nI_lt_iff (by omega) (by omega)]; exact z), e1, q_c0_s, show q_sem (d + 13) 43 h2 [.ref 43, .int 0, .int (nI q)] = _ from i1, q_c1_s, b75_62, a0.1, if_pos (by rw [show (1 : Int32) = nI 1 from rfl, nI_lt_iff (by omega) (by omega)]; omega), show q_sem (d + 13) 43 h3 [.ref 43, .int 1, .int (nI q)] = _ from g1, q_c1_s, pk_sub fm, if_pos (by rw [Int32.lt_iff_toInt_lt, nI_toInt (by omega), show (-1 : Int32).toInt = -1 from rfl]; omega), show (1 : Int32) - 1 = nI 0 by decide, show (1 : Int32) + 1 = nI (1 + 1) by decide]
          exact k1
        · intro d h hr
          obtain ⟨h2, g1, gg⟩ := s133 (d + 9) h s.1 hs.1 1 q hq1 hq (by omega) hr.1
          obtain ⟨h3, j1, j2⟩ := s133 (d + 9) h2 s.1 hs.1 0 q hq1 hq (by omega) (qw_sc_at gg hr.1)
          obtain ⟨h5, k1, k2⟩ := l161 q_X0 (d + 9) s.1 hs.1 q hq1 hq y h m 998 1 (0, qv_f s.1 1 q - qv_f s.1 0 q) h3 (by omega) (by omega) (by show qv_f s.1 1 q - qv_f s.1 0 q < 20000; omega) (by show 0 < 8; omega) (qw_sc_at (qw_sc_tr gg j2) hr.1) (qw_sc_tr gg j2)
          refine ⟨h5, ?_, qp_of k2⟩
          rw [m161, s123p _ _ g, q_c1_s, if_neg (by decide), s120p _ _ g2.1 g2.2, q_c1_s, if_neg (by decide), b161_28, hr.1.1, hm, show nI (m + 2) - 1 = nI (m + 1) from nI_m1 (m + 1), if_pos (by rw [show (0 : Int32) = nI 0 from rfl, nI_lt_iff (by omega) (by omega)]; omega), show q_sem (d + 13) 133 h [.ref 67, .int (0 + 1), .int (nI q)] = _ from g1, q_c1_s, show q_sem (d + 13) 133 h2 [.ref 67, .int 0, .int (nI q)] = _ from j1, q_c1_s, if_pos (by decide), pk_sub fm, show (0 : Int32) + 1 = nI 1 by decide, show (0 : Int32) = nI 0 from rfl]
          exact k1
    · refine qs_no (.int (-1)) hs ?_ ?_
      · intro d h hc
        rw [m75, s106p _ _ g, q_c1_s, if_neg (by decide)]
        by_cases a : y < 0
        · rw [if_pos a]
        · rw [if_neg a, if_pos (Classical.byContradiction fun b => g2 ⟨a, b⟩)]
      · intro d h hr
        rw [m161, s123p _ _ g, q_c1_s, if_neg (by decide), s120n _ _ g2, q_c1_s, if_pos rfl]
  · refine qs_no (.int (-1)) hs ?_ ?_
    · intro d h hc
      rw [m75, s106n _ _ g, q_c1_s, if_pos rfl]
    · intro d h hr
      rw [m161, s123n _ _ g, q_c1_s, if_pos rfl]
/-! heavier -/
def q_pk (r : Int32 × Int32) (i : Nat) (v : Int32) : Int32 × Int32 := if r.1 < 0 then (nI i, v) else if v < r.2 then (nI i, v) else r
def q_hv (l : qv_L) (k q : Nat) : Nat → Nat → Int32 × Int32 → Int32 × Int32
  | 0, _, r => r
  | m + 1, i, r => q_hv l k q m (i + 1) (if l 2 i < 99 then q_pk r i (nI (qv_f (ql l 2 i (l 2 i + 1)) k q)) else r)
theorem l78 (X : q_X) (d : Nat) (l : qv_L) (hl : qv_ok l) (k q : Nat) (hk : k < l 0 0) (hq1 : 1 ≤ q) (hq : q ≤ 16) (y : Int32) (h0 : q_S) : ∀ m f i r h, i + m = l 0 0 → m < f → qv_at h 12 l → qv_at h 18 l → qr_z h → qc_sc h0 h → ∃ h2, q_go e_78 X (q_sem (d + 7)) f 51 [(0, .ref 0), (1, .int (nI k)), (2, .int (nI q)), (3, .int y), (4, .int r.1), (5, .int r.2), (6, .int (nI i))] [] h = some (h2, some (.int (if y = 0 then (q_hv l k q m i r).1 else (q_hv l k q m i r).2))) ∧ qc_sc h0 h2 ∧ qr_z h2 := by
  have h8 := hl.1
  intro m
  induction m with
  | zero =>
    intro f i r h hm hf e0 e1 e2 e3
    obtain ⟨f, rfl⟩ : ∃ g, f = g + 1 := ⟨f - 1, by omega⟩
    refine ⟨h, ?_, e3, e2⟩
    rw [b78_51, e0.1, if_neg (by rw [nI_lt_iff (by omega) (by omega)]; omega), q_hv]
    split <;> rfl
  | succ m ih =>
    intro f i r h hm hf e0 e1 e2 e3
    obtain ⟨f, rfl⟩ : ∃ g, f = g + 1 := ⟨f - 1, by omega⟩
    have b2 := (hl.2.2.2.1 i (by omega)).2.1
    have b1 := hl.2.2.2.2.1 i (by omega)
    rw [b78_51, e0.1, if_pos (by rw [nI_lt_iff (by omega) (by omega)]; omega), q_ix_n (by omega) (by decide), show h.1 14 i = nI (l 2 i) from e0.2.2.2 2 i (by omega) (by omega) (by omega), q_hv, nI_p1 i]
    by_cases z : l 2 i < 99
    · have a1 : qv_at (q_si h 20 i (nI (l 2 i + 1))) 18 (ql l 2 i (l 2 i + 1)) := at_a (o := 18) (b := 2) (by omega) e1
      have ok := ok_mass hl (k := i) (v := l 2 i + 1) (by omega) (by omega) (by omega)
      have hL : (ql l 2 i (l 2 i + 1)) 0 0 = l 0 0 := ql_ne (by omega)
      obtain ⟨h2, g1, g2, g3⟩ := s112t d (q_si h 20 i (nI (l 2 i + 1))) _ ok k q hq1 hq (by rw [hL]; exact hk) a1 e2
      have sc1 := qc_sc_tr (qc_si (h := h) (a := 20) (i := i) (x := nI (l 2 i + 1)) (by omega)) (qc_of g2)
      have a2 := qr_sc_at g2 (Or.inr (Or.inl rfl)) a1
      have a12 : qv_at h2 12 l := qr_sc_at g2 (Or.inl rfl) (f_c1 (fun a j q => qw_si_ne (by omega)) e0)
      have a3 : qv_at (q_si h2 20 i (nI (l 2 i))) 18 l := by
        have := at_a (o := 18) (b := 2) (k := i) (v := l 2 i) (by omega) a2
        rwa [ql_ql2, ql_self] at this
      have a4 : qv_at (q_si h2 20 i (nI (l 2 i))) 12 l := f_c1 (fun a j q => qw_si_ne (by omega)) a12
      have sc := qc_sc_tr e3 (qc_sc_tr sc1 (qc_si (h := h2) (a := 20) (i := i) (x := nI (l 2 i)) (by omega)))
      rw [if_pos (by rw [show (99 : Int32) = nI 99 from rfl, nI_lt_iff (by omega) (by omega)]; exact z), q_ix_n (by omega) (by decide), show h.1 14 i = nI (l 2 i) from e0.2.2.2 2 i (by omega) (by omega) (by omega), nI_p1 (l 2 i), m113, q_ix_n (by omega) (by decide), g1, q_c1_s, q_c1_s, q_ix_n (by omega) (by decide), q_ix_n (by omega) (by decide), show h2.1 14 i = nI (l 2 i) from a12.2.2.2 2 i (by omega) (by omega) (by omega), if_pos z]
      have ih := ih f (i + 1) (q_pk r i (nI (qv_f (ql l 2 i (l 2 i + 1)) k q))) _ (by omega) (by omega) a4 a3 g3 sc
      unfold q_pk at ih ⊢
      by_cases u : r.1 < 0
      · rw [if_pos u] at ih ⊢
        rw [if_pos u]
        exact ih
      · rw [if_neg u] at ih ⊢
        rw [if_neg u]
        by_cases w : nI (qv_f (ql l 2 i (l 2 i + 1)) k q) < r.2
        · rw [if_pos w] at ih ⊢
          rw [if_pos w]
          exact ih
        · rw [if_neg w] at ih ⊢
          rw [if_neg w]
          exact ih
    · rw [if_neg (by rw [show (99 : Int32) = nI 99 from rfl, nI_lt_iff (by omega) (by omega)]; exact z), if_neg z]
      exact ih f (i + 1) r h (by omega) (by omega) e0 e1 e2 e3
theorem l164 (X : q_X) (d : Nat) (l : qv_L) (hl : qv_ok l) (k q : Nat) (hk : k < l 0 0) (hq1 : 1 ≤ q) (hq : q ≤ 16) (y : Int32) (h0 : q_S) : ∀ m f i r h, i + m = l 0 0 → m < f → qw_at h l → qy h0 h → ∃ h2, q_go e_164 X (q_sem (d + 4)) f 31 [(0, .ref 67), (1, .int (nI k)), (2, .int (nI q)), (3, .int y), (4, .int r.1), (5, .int r.2), (6, .int (nI i))] [] h = some (h2, some (.int (if y = 0 then (q_hv l k q m i r).1 else (q_hv l k q m i r).2))) ∧ qy h0 h2 ∧ qw_at h2 l := by
  have h8 := hl.1
  intro m
  induction m with
  | zero =>
    intro f i r h hm hf e0 e3
    obtain ⟨f, rfl⟩ : ∃ g, f = g + 1 := ⟨f - 1, by omega⟩
    refine ⟨h, ?_, e3, e0⟩
    rw [b164_31, e0.1, if_neg (by rw [nI_lt_iff (by omega) (by omega)]; omega), q_hv]
    split <;> rfl
  | succ m ih =>
    intro f i r h hm hf e0 e3
    obtain ⟨f, rfl⟩ : ∃ g, f = g + 1 := ⟨f - 1, by omega⟩
    have b2 := (hl.2.2.2.1 i (by omega)).2.1
    have b1 := hl.2.2.2.2.1 i (by omega)
    rw [b164_31, e0.1, if_pos (by rw [nI_lt_iff (by omega) (by omega)]; omega), q_ix_n (by omega) (by decide), show h.1 69 i = nI (l 2 i) from e0.2.2.2 2 i (by omega) (by omega) (by omega), q_hv, nI_p1 i]
    by_cases z : l 2 i < 99
    · have a1 : qw_at (q_si h 69 i (nI (l 2 i + 1))) (ql l 2 i (l 2 i + 1)) := aw_a (b := 2) (by omega) e0
      have ok := ok_mass hl (k := i) (v := l 2 i + 1) (by omega) (by omega) (by omega)
      have hL : (ql l 2 i (l 2 i + 1)) 0 0 = l 0 0 := ql_ne (by omega)
      obtain ⟨h2, g1, g2⟩ := s133 d (q_si h 69 i (nI (l 2 i + 1))) _ ok k q hq1 hq (by rw [hL]; exact hk) a1
      have a2 := qw_sc_at g2 a1
      have v2 : h2.1 69 i = nI (l 2 i + 1) := by
        have := a2.2.2.2 2 i (by omega) (by omega) (by omega)
        rwa [ql_eq] at this
      have a3 : qw_at (q_si h2 69 i (nI (l 2 i))) l := by
        have := aw_a (b := 2) (k := i) (v := l 2 i) (by omega) a2
        rwa [ql_ql2, ql_self] at this
      have sc := qy_tr e3 (qy_tr (qy_si (h := h) (a := 69) (i := i) (x := nI (l 2 i + 1)) (by omega)) (qy_tr (qy_of g2) (qy_si (h := h2) (a := 69) (i := i) (x := nI (l 2 i)) (by omega))))
      rw [if_neg (by rw [show (99 : Int32) = nI 99 from rfl, nI_eq_iff (by omega) (by omega)]; omega), q_ix_n (by omega) (by decide), q_ix_n (by omega) (by decide), show h.1 69 i = nI (l 2 i) from e0.2.2.2 2 i (by omega) (by omega) (by omega), nI_p1 (l 2 i), g1, q_c1_s, q_ix_n (by omega) (by decide), q_ix_n (by omega) (by decide), v2, nI_m1, if_pos z]
      have ih := ih f (i + 1) (q_pk r i (nI (qv_f (ql l 2 i (l 2 i + 1)) k q))) _ (by omega) (by omega) a3 sc
      unfold q_pk at ih ⊢
      by_cases u : r.1 < 0
      · rw [if_pos u] at ih ⊢
        rw [if_pos u]
        exact ih
      · rw [if_neg u] at ih ⊢
        rw [if_neg u]
        by_cases w : nI (qv_f (ql l 2 i (l 2 i + 1)) k q) < r.2
        · rw [if_pos w] at ih ⊢
          rw [if_pos w]
          exact ih
        · rw [if_neg w] at ih ⊢
          rw [if_neg w]
          exact ih
    · rw [if_pos (by rw [show (99 : Int32) = nI 99 from rfl, nI_eq_iff (by omega) (by omega)]; omega), if_neg z]
      exact ih f (i + 1) r h (by omega) (by omega) e0 e3
theorem c78 (x y z : Int32) : qs_st 78 164 [.int x, .int y, .int z] := by
  intro s hs
  by_cases g : qg_d s.1 x ∧ qg_q y
  · by_cases g2 : qg_1 z
    · obtain ⟨q, hq1, hq, rfl⟩ := qg_qN g.2
      obtain ⟨k, hk, rfl⟩ := qg_dN hs.1.1 g.1
      refine qs_sy (.int (if z = 0 then (q_hv s.1 k q (s.1 0 0) 0 (-2, -2)).1 else (q_hv s.1 k q (s.1 0 0) 0 (-2, -2)).2)) hs ?_ ?_
      · intro d h hc
        obtain ⟨h2, e1, e2, e3, e4⟩ := s16_18_12 (d + 12) hc.1
        obtain ⟨h3, f1, f2, f3⟩ := l78 q_X0 (d + 6) s.1 hs.1 k q hk hq1 hq z h (s.1 0 0) 999 0 (-2, -2) h2 (by omega) (by have := hs.1.1; omega) (f_c1 (fun a j q => e3 a j (by omega)) hc.1) e2 (qz_fr2 e4 hc.2.2.2.2.2.2.2) (qc_fr e3 e4)
        refine ⟨h3, ?_, f2, f3⟩
        rw [m78, s19p _ hc.1 g.1, q_c1_s, if_neg (by decide), s106p _ _ g.2, q_c1_s, if_neg (by decide), if_neg g2.1, if_neg g2.2, e1, q_c0_s]
        exact f1
      · intro d h hr
        obtain ⟨h3, f1, f2, f3⟩ := l164 q_X0 (d + 9) s.1 hs.1 k q hk hq1 hq z h (s.1 0 0) 999 0 (-2, -2) h (by omega) (by have := hs.1.1; omega) hr.1 (qy_rf h)
        refine ⟨h3, ?_, f2, f3⟩
        rw [m164, s155p _ hs.1 hr.1 g, q_c1_s, if_neg (by decide), s120p _ _ g2.1 g2.2, q_c1_s, if_neg (by decide)]
        exact f1
    · refine qs_no (.int (-1)) hs ?_ ?_
      · intro d h hc
        rw [m78, s19p _ hc.1 g.1, q_c1_s, if_neg (by decide), s106p _ _ g.2, q_c1_s, if_neg (by decide)]
        by_cases a : z < 0
        · rw [if_pos a]
        · rw [if_neg a, if_pos (Classical.byContradiction fun b => g2 ⟨a, b⟩)]
      · intro d h hr
        rw [m164, s155p _ hs.1 hr.1 g, q_c1_s, if_neg (by decide), s120n _ _ g2, q_c1_s, if_pos rfl]
  · refine qs_no (.int (-1)) hs ?_ ?_
    · intro d h hc
      rw [m78]
      by_cases a : qg_d s.1 x
      · rw [s19p _ hc.1 a, q_c1_s, if_neg (by decide), s106n _ _ (fun b => g ⟨a, b⟩), q_c1_s, if_pos rfl]
      · rw [s19n _ hc.1 a, q_c1_s, if_pos rfl]
    · intro d h hr
      rw [m164, s155n _ hs.1 hr.1 g, q_c1_s, if_pos rfl]
