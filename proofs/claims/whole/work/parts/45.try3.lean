/-! ===== change ===== -/
def qv_sw (l : qv_L) (i : Nat) : qv_L := fun a j => if a = 1 ∨ a = 2 then (if j = i then l a (i + 1) else if j = i + 1 then l a i else l a j) else l a j
theorem sw_ql (l : qv_L) (i : Nat) : ql (ql (ql (ql l 1 i (l 1 (i + 1))) 2 i (l 2 (i + 1))) 1 (i + 1) (l 1 i)) 2 (i + 1) (l 2 i) = qv_sw l i := by
  funext b j
  simp only [ql, qv_sw]
  by_cases h1 : b = 1
  · subst h1
    by_cases h2 : j = i
    · subst h2
      simp
    · by_cases h3 : j = i + 1
      · simp [h3]
      · simp [h2, h3]
  · by_cases h0 : b = 2
    · subst h0
      by_cases h2 : j = i
      · subst h2
        simp
      · by_cases h3 : j = i + 1
        · simp [h3]
        · simp [h2, h3]
    · simp [h1, h0]
theorem sw_sw (l : qv_L) (i : Nat) : qv_sw (qv_sw l i) i = l := by
  funext b j
  simp only [qv_sw]
  by_cases h1 : b = 1 ∨ b = 2
  · simp only [if_pos h1]
    by_cases h2 : j = i
    · rw [if_pos h2, if_neg (by omega), if_pos trivial, h2]
    · rw [if_neg h2]
      by_cases h3 : j = i + 1
      · rw [if_pos h3, if_pos trivial, h3]
      · rw [if_neg h3, if_neg h2, if_neg h3]
  · simp only [if_neg h1]
theorem sw_rat (l : qv_L) (i : Nat) : ∀ k, qv_rat (qv_sw l i) k = qv_rat l k
  | 0 => rfl
  | k + 1 => by
    rw [qv_rat, qv_rat, sw_rat l i k]
    rfl
theorem ok_sw {l : qv_L} (h : qv_ok l) {i : Nat} (hi : i + 1 < l 0 0) : qv_ok (qv_sw l i) := by
  obtain ⟨a, b, c, d, e, f, g⟩ := h
  refine ⟨a, b, c, fun j hj => ⟨?_, ?_, (d j hj).2.2⟩, fun j hj => ?_, f, by rw [sw_rat]; exact g⟩
  · have d1 := (d i (by omega)).1
    have d2 := (d (i + 1) (by omega)).1
    have d3 := (d j hj).1
    show (if (1 : Nat) = 1 ∨ (1 : Nat) = 2 then (if j = i then l 1 (i + 1) else if j = i + 1 then l 1 i else l 1 j) else l 1 j) ≤ 4
    rw [if_pos (by omega)]
    split
    · exact d2
    · split <;> assumption
  · have d1 := (d i (by omega)).2.1
    have d2 := (d (i + 1) (by omega)).2.1
    have d3 := (d j hj).2.1
    show (if (2 : Nat) = 1 ∨ (2 : Nat) = 2 then (if j = i then l 2 (i + 1) else if j = i + 1 then l 2 i else l 2 j) else l 2 j) ≤ 99
    rw [if_pos (by omega)]
    split
    · exact d2
    · split <;> assumption
  · have d1 := e i (by omega)
    have d2 := e (i + 1) hi
    have d3 := e j hj
    show 1 ≤ (if (2 : Nat) = 1 ∨ (2 : Nat) = 2 then (if j = i then l 2 (i + 1) else if j = i + 1 then l 2 i else l 2 j) else l 2 j)
    rw [if_pos (by omega)]
    split
    · exact d2
    · split <;> assumption
theorem s18 (d : Nat) {h : q_S} {l : qv_L} (hL : qv_at h 18 l) {i : Nat} (hi : i + 1 < 8) : ∃ h2, q_sem (d + 1) 18 h [.ref 18, .int (nI i)] = some (h2, none) ∧ qv_at h2 18 (qv_sw l i) ∧ qc_sc h h2 ∧ h2.2 = h.2 := by
  refine ⟨q_si (q_si (q_si (q_si h 19 i (nI (l 1 (i + 1)))) 20 i (nI (l 2 (i + 1)))) 19 (i + 1) (nI (l 1 i))) 20 (i + 1) (nI (l 2 i)), ?_, ?_, ?_, rfl⟩
  · have e1 : ∀ j, j < 8 → h.1 19 j = nI (l 1 j) := fun j hj => hL.2.2.2 1 j (by omega) (by omega) hj
    have e2 : ∀ j, j < 8 → h.1 20 j = nI (l 2 j) := fun j hj => hL.2.2.2 2 j (by omega) (by omega) hj
    rw [m18, nI_p1]
    simp only [q_ix_n (show i < 8 by omega) (show 8 < 2147483648 by decide), q_ix_n hi (show 8 < 2147483648 by decide)]
    rw [e1 i (by omega), e1 (i + 1) hi, e2 i (by omega), e2 (i + 1) hi]
  · rw [← sw_ql]
    exact at_a (o := 18) (b := 2) (by omega) (at_a (o := 18) (b := 1) (by omega) (at_a (o := 18) (b := 2) (by omega) (at_a (o := 18) (b := 1) (by omega) hL)))
  · exact qc_sc_tr (qc_si (by omega)) (qc_sc_tr (qc_si (by omega)) (qc_sc_tr (qc_si (by omega)) (qc_si (by omega))))
theorem s165 (d : Nat) {h : q_S} {l : qv_L} (hL : qw_at h l) {i : Nat} (hi : i + 1 < 8) : ∃ h2, q_sem (d + 1) 165 h [.ref 67, .int (nI i)] = some (h2, none) ∧ qw_at h2 (qv_sw l i) ∧ qy h h2 := by
  refine ⟨q_si (q_si (q_si (q_si h 68 i (nI (l 1 (i + 1)))) 69 i (nI (l 2 (i + 1)))) 68 (i + 1) (nI (l 1 i))) 69 (i + 1) (nI (l 2 i)), ?_, ?_, ?_⟩
  · have e1 : ∀ j, j < 8 → h.1 68 j = nI (l 1 j) := fun j hj => hL.2.2.2 1 j (by omega) (by omega) hj
    have e2 : ∀ j, j < 8 → h.1 69 j = nI (l 2 j) := fun j hj => hL.2.2.2 2 j (by omega) (by omega) hj
    rw [m165, nI_p1]
    simp only [q_ix_n (show i < 8 by omega) (show 8 < 2147483648 by decide), q_ix_n hi (show 8 < 2147483648 by decide)]
    rw [e1 i (by omega), e1 (i + 1) hi, e2 i (by omega), e2 (i + 1) hi]
  · rw [← sw_ql]
    exact aw_a (b := 2) (by omega) (aw_a (b := 1) (by omega) (aw_a (b := 2) (by omega) (aw_a (b := 1) (by omega) hL)))
  · exact qy_tr (qy_si (by omega)) (qy_tr (qy_si (by omega)) (qy_tr (qy_si (by omega)) (qy_si (by omega))))
def q_cg (l : qv_L) (k q : Nat) : Nat → Nat → Int32 × Nat → Int32
  | 0, _, r => r.1
  | m + 1, i, r => q_cg l k q m (i + 1) (if r.2 < qv_f (qv_sw l i) k q then (nI i, qv_f (qv_sw l i) k q) else r)
theorem l79 (X : q_X) (d : Nat) (l : qv_L) (hl : qv_ok l) (k q : Nat) (hk : k < l 0 0) (hq1 : 1 ≤ q) (hq : q ≤ 16) (h0 : q_S) : ∀ m f i r h, i + 1 + m = l 0 0 → m < f → r.2 ≤ 9520 → qv_at h 12 l → qv_at h 18 l → qr_z h → qc_sc h0 h → ∃ h2, q_go e_79 X (q_sem (d + 6)) f 49 [(0, .ref 0), (1, .int (nI k)), (2, .int (nI q)), (3, .int r.1), (4, .int (nI r.2)), (5, .int (nI i))] [] h = some (h2, some (.int (q_cg l k q m i r))) ∧ qc_sc h0 h2 ∧ qr_z h2 := by
  have h8 := hl.1
  intro m
  induction m with
  | zero =>
    intro f i r h hm hf hr e0 e1 e2 e3
    obtain ⟨f, rfl⟩ : ∃ g, f = g + 1 := ⟨f - 1, by omega⟩
    refine ⟨h, ?_, e3, e2⟩
    rw [b79_49, e0.1, nI_p1, if_neg (by rw [nI_lt_iff (by omega) (by omega)]; omega), q_cg]
  | succ m ih =>
    intro f i r h hm hf hr e0 e1 e2 e3
    obtain ⟨f, rfl⟩ : ∃ g, f = g + 1 := ⟨f - 1, by omega⟩
    obtain ⟨h2, a1, a2, a3, a4⟩ := s18 (d + 5) e1 (i := i) (by omega)
    have ok := ok_sw hl (i := i) (by omega)
    obtain ⟨h3, g1, g2, g3⟩ := s112t d h2 (qv_sw l i) ok k q hq1 hq hk a2 (qz_fr2 a4 e2)
    obtain ⟨h4, b1, b2, b3, b4⟩ := s18 (d + 5) (qr_sc_at g2 (Or.inr (Or.inl rfl)) a2) (i := i) (by omega)
    rw [sw_sw] at b2
    have sc1 := qc_sc_tr a3 (qc_sc_tr (qc_of g2) b3)
    have sc := qc_sc_tr e3 sc1
    have e0' : qv_at h4 12 l := f_c1 (fun a j q => sc1.1 a j (by omega) (by omega)) e0
    have hb := qv_f_bd ok hq k
    rw [b79_49, e0.1, nI_p1, if_pos (by rw [nI_lt_iff (by omega) (by omega)]; omega), a1, q_c0_s, g1, q_c1_s, b1, q_c0_s, q_cg]
    by_cases z : r.2 < qv_f (qv_sw l i) k q
    · rw [if_pos (by rw [nI_lt_iff (by omega) (by omega)]; exact z), if_pos z]
      exact ih f (i + 1) (nI i, qv_f (qv_sw l i) k q) h4 (by omega) (by omega) hb e0' b2 (qz_fr2 b4 g3) sc
    · rw [if_neg (by rw [nI_lt_iff (by omega) (by omega)]; exact z), if_neg z]
      exact ih f (i + 1) r h4 (by omega) (by omega) hr e0' b2 (qz_fr2 b4 g3) sc
theorem l166 (X : q_X) (d : Nat) (l : qv_L) (hl : qv_ok l) (k q : Nat) (hk : k < l 0 0) (hq1 : 1 ≤ q) (hq : q ≤ 16) (h0 : q_S) : ∀ m f i r h, i + 1 + m = l 0 0 → m < f → r.2 ≤ 9520 → qw_at h l → qy h0 h → ∃ h2, q_go e_166 X (q_sem (d + 4)) f 25 [(0, .ref 67), (1, .int (nI k)), (2, .int (nI q)), (3, .int r.1), (4, .int (nI r.2)), (5, .int (nI i))] [] h = some (h2, some (.int (q_cg l k q m i r))) ∧ qy h0 h2 ∧ qw_at h2 l := by
  have h8 := hl.1
  intro m
  induction m with
  | zero =>
    intro f i r h hm hf hr e0 e3
    obtain ⟨f, rfl⟩ : ∃ g, f = g + 1 := ⟨f - 1, by omega⟩
    refine ⟨h, ?_, e3, e0⟩
    rw [b166_25, e0.1, show l 0 0 = i + 1 by omega, nI_m1, if_neg (by rw [nI_lt_iff (by omega) (by omega)]; omega), q_cg]
  | succ m ih =>
    intro f i r h hm hf hr e0 e3
    obtain ⟨f, rfl⟩ : ∃ g, f = g + 1 := ⟨f - 1, by omega⟩
    obtain ⟨h2, a1, a2, a3⟩ := s165 (d + 3) e0 (i := i) (by omega)
    have ok := ok_sw hl (i := i) (by omega)
    obtain ⟨h3, g1, g2⟩ := s133 d h2 (qv_sw l i) ok k q hq1 hq hk a2
    obtain ⟨h4, b1, b2, b3⟩ := s165 (d + 3) (qw_sc_at g2 a2) (i := i) (by omega)
    rw [sw_sw] at b2
    have sc := qy_tr e3 (qy_tr a3 (qy_tr (qy_of g2) b3))
    have hb := qv_f_bd ok hq k
    obtain ⟨n, hn⟩ : ∃ n, l 0 0 = n + 1 := ⟨l 0 0 - 1, by omega⟩
    rw [b166_25, e0.1, hn, nI_m1, if_pos (by rw [nI_lt_iff (by omega) (by omega)]; omega), nI_p1, a1, q_c0_s, g1, q_c1_s, b1, q_c0_s, q_cg]
    by_cases z : r.2 < qv_f (qv_sw l i) k q
    · rw [if_pos (by rw [nI_lt_iff (by omega) (by omega)]; exact z), if_pos z]
      exact ih f (i + 1) (nI i, qv_f (qv_sw l i) k q) h4 (by omega) (by omega) hb b2 sc
    · rw [if_neg (by rw [nI_lt_iff (by omega) (by omega)]; exact z), if_neg z]
      exact ih f (i + 1) r h4 (by omega) (by omega) hr b2 sc
theorem c79 (x y : Int32) : qs_st 79 166 [.int x, .int y] := by
  intro s hs
  have h8 := hs.1.1
  by_cases g : qg_d s.1 x ∧ qg_q y
  · obtain ⟨q, hq1, hq, rfl⟩ := qg_qN g.2
    obtain ⟨k, hk, rfl⟩ := qg_dN hs.1.1 g.1
    have hb := qv_f_bd hs.1 hq k
    refine qs_sy (.int (q_cg s.1 k q (s.1 0 0 - 1) 0 (-2, qv_f s.1 k q))) hs ?_ ?_
    · intro d h hc
      obtain ⟨h2, e1, e2, e3, e4⟩ := s16_18_12 (d + 12) hc.1
      have c12 : qv_at h2 12 s.1 := f_c1 (fun a j q => e3 a j (by omega)) hc.1
      obtain ⟨h3, j1, j2, j3⟩ := s112 (d + 7) h2 s.1 hs.1 k q hq1 hq hk c12 (qz_fr2 e4 hc.2.2.2.2.2.2.2)
      obtain ⟨h4, f1, f2, f3⟩ := l79 q_X0 (d + 7) s.1 hs.1 k q hk hq1 hq h (s.1 0 0 - 1) 999 0 (-2, qv_f s.1 k q) h3 (by omega) (by omega) hb (qr_sc_at j2 (Or.inl rfl) c12) (qr_sc_at j2 (Or.inr (Or.inl rfl)) e2) j3 (qc_sc_tr (qc_fr e3 e4) (qc_of j2))
      refine ⟨h4, ?_, f2, f3⟩
      rw [m79, s19p _ hc.1 g.1, q_c1_s, if_neg (by decide), s106p _ _ g.2, q_c1_s, if_neg (by decide), e1, q_c0_s, j1, q_c1_s]
      exact f1
    · intro d h hr
      obtain ⟨h3, j1, j2⟩ := s133 (d + 9) h s.1 hs.1 k q hq1 hq hk hr.1
      obtain ⟨h4, f1, f2, f3⟩ := l166 q_X0 (d + 9) s.1 hs.1 k q hk hq1 hq h (s.1 0 0 - 1) 999 0 (-2, qv_f s.1 k q) h3 (by omega) (by omega) hb (qw_sc_at j2 hr.1) (qy_of j2)
      refine ⟨h4, ?_, f2, f3⟩
      rw [m166, s155p _ hs.1 hr.1 g, q_c1_s, if_neg (by decide), j1, q_c1_s]
      exact f1
  · refine qs_no (.int (-1)) hs ?_ ?_
    · intro d h hc
      rw [m79]
      by_cases a : qg_d s.1 x
      · rw [s19p _ hc.1 a, q_c1_s, if_neg (by decide), s106n _ _ (fun b => g ⟨a, b⟩), q_c1_s, if_pos rfl]
      · rw [s19n _ hc.1 a, q_c1_s, if_pos rfl]
    · intro d h hr
      rw [m166, s155n _ hs.1 hr.1 g, q_c1_s, if_pos rfl]
