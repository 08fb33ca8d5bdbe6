/-! ===== judge ===== -/
theorem gb82_22 {r : Nat} (hr : r < 3) (X : q_X) (O : q_O) (n : Nat) (h : q_S) (x2 : Int32) : q_go e_82 X O (n + 1) 22 [(0, .ref 0), (2, .int x2)] [.ref (61 + r)] h =
  q_c1 (O 48 h [.ref (61 + r)]) (fun h1 v2 =>
  if v2 = 0 then
    q_c0 (O 36 h1 [.ref 43, .ref 12]) (fun h3 =>
    q_go e_82 X O n 47 [(0, .ref 0), (2, .int x2), (3, .ref (61 + r)), (4, .int 0)] [] h3)
  else
    some (h1, some (.int (-11)))) := by
  rcases q3 hr with rfl | rfl | rfl
  · exact b82_22 ..
  · exact b82_22_1 ..
  · exact b82_22_2 ..
theorem gb82_47 {r : Nat} (hr : r < 3) (X : q_X) (O : q_O) (n : Nat) (h : q_S) (x2 : Int32) (x4 : Int32) : q_go e_82 X O (n + 1) 47 [(0, .ref 0), (2, .int x2), (3, .ref (61 + r)), (4, .int x4)] [] h =
  if x4 < (h.1 12 6) then
    if x4 < (h.1 (61 + r) 2) then
      q_ix x4 40 (fun j1 =>
      q_c1 (O 44 h [.ref 43, .int x4, .int x2, .long (h.2.1 (64 + r) j1)]) (fun h2 v3 =>
      if v3 = 0 then
        some (h2, some (.int x4))
      else
        q_go e_82 X O n 47 [(0, .ref 0), (2, .int x2), (3, .ref (61 + r)), (4, .int (x4 + 1))] [] h2))
    else
      some (h, some (.int (100 + x4)))
  else
    some (h, some (.int (-2))) := by
  rcases q3 hr with rfl | rfl | rfl
  · exact b82_47 ..
  · exact b82_47_1 ..
  · exact b82_47_2 ..
theorem lg_eq0 (a b : Int64) : lg_cmp a b = 0 ↔ a = b := by
  have ra := iL_rng a
  have rb := iL_rng b
  have h1 := lg_lt ra.1 ra.2 rb.1 rb.2
  have h2 := lg_gt ra.1 ra.2 rb.1 rb.2
  rw [← iL_all a, ← iL_all b] at h1 h2
  constructor
  · intro e
    rw [e] at h1 h2
    have n1 : ¬ a.toInt < b.toInt := fun q => absurd (h1.mpr q) (by decide)
    have n2 : ¬ b.toInt < a.toInt := fun q => absurd (h2.mpr q) (by decide)
    exact Int64.toInt_inj.mp (by omega)
  · intro e
    subst e
    have n1 : ¬ lg_cmp a a < 0 := fun q => absurd (h1.mp q) (by omega)
    have n2 : ¬ 0 < lg_cmp a a := fun q => absurd (h2.mp q) (by omega)
    rw [Int32.lt_iff_toInt_lt] at n1 n2
    have e0 : (0 : Int32).toInt = 0 := rfl
    exact Int32.toInt_inj.mp (by omega)
def q_jd (l : qv_L) (q n : Nat) (P : Nat → Int64) : Nat → Nat → Int32
  | 0, _ => -2
  | m + 1, k => if k < n then (if P k = iL (qv_f l k q) then q_jd l q n P m (k + 1) else nI k) else 100 + nI k
theorem l82 (X : q_X) (d : Nat) (l : qv_L) (hl : qv_ok l) (q : Nat) (hq1 : 1 ≤ q) (hq : q ≤ 16) (r : Nat) (hr : r < 3) (n : Nat) (hn : n ≤ 40) (P : Nat → Int64) (h0 : q_S) : ∀ m f k h, k + m = l 0 0 → m < f → qv_at h 12 l → h.1 (61 + r) 2 = nI n → (∀ i, i < 40 → h.2.1 (64 + r) i = P i) → qr_at h l → qr_z h → qc_sc h0 h → ∃ h2, q_go e_82 X (q_sem (d + 4)) f 47 [(0, .ref 0), (2, .int (nI q)), (3, .ref (61 + r)), (4, .int (nI k))] [] h = some (h2, some (.int (q_jd l q n P m k))) ∧ qc_sc h0 h2 ∧ qr_z h2 := by
  have h8 := hl.1
  intro m
  induction m with
  | zero =>
    intro f k h hm hf e0 es ep e1 e2 e3
    obtain ⟨f, rfl⟩ : ∃ g, f = g + 1 := ⟨f - 1, by omega⟩
    exact ⟨h, by rw [gb82_47 hr, e0.1, if_neg (by rw [nI_lt_iff (by omega) (by omega)]; omega)]; rfl, e3, e2⟩
  | succ m ih =>
    intro f k h hm hf e0 es ep e1 e2 e3
    obtain ⟨f, rfl⟩ : ∃ g, f = g + 1 := ⟨f - 1, by omega⟩
    rw [gb82_47 hr, e0.1, if_pos (by rw [nI_lt_iff (by omega) (by omega)]; omega), es, q_jd]
    by_cases z : k < n
    · obtain ⟨h2, g1, g2, g3⟩ := s44 d h l hl k q hq1 hq (by omega) (P k) e1 e2
      have sc := qr_fr_sc g2
      rw [if_pos (by rw [nI_lt_iff (by omega) (by omega)]; exact z), if_pos z, q_ix_n (by omega) (by decide), ep k (by omega), g1, q_c1_s, nI_p1]
      by_cases w : P k = iL (qv_f l k q)
      · rw [if_pos w, if_pos w, if_neg (by decide)]
        exact ih f (k + 1) h2 (by omega) (by omega) (qr_sc_at sc (Or.inl rfl) e0) ((sc.1 _ _ (by omega)).trans es) (fun i hi => (congrFun (sc.2.2 _ (by omega)) i).trans (ep i hi)) (qr_at_fr g2 e1) g3 (qc_sc_tr e3 (qc_of sc))
      · rw [if_neg w, if_neg w, if_pos rfl]
        exact ⟨h2, rfl, qc_sc_tr e3 (qc_of sc), g3⟩
    · rw [if_neg (by rw [nI_lt_iff (by omega) (by omega)]; exact z), if_neg z]
      exact ⟨h, rfl, e3, e2⟩
theorem l179 (X : q_X) (d : Nat) (l : qv_L) (hl : qv_ok l) (q : Nat) (hq1 : 1 ≤ q) (hq : q ≤ 16) (r : Nat) (hr : r < 3) (n : Nat) (hn : n ≤ 40) (P : Nat → Int64) (h0 : q_S) : ∀ m f k h, k + m = l 0 0 → m < f → qw_at h l → h.1 86 r = nI n → (∀ i, i < 40 → h.2.1 87 (40 * r + i) = P i) → qw_sc h0 h → ∃ h2, q_go e_179 X (q_sem (d + 4)) f 30 [(0, .ref 67), (1, .int (nI r)), (2, .int (nI q)), (3, .int (nI k))] [] h = some (h2, some (.int (q_jd l q n P m k))) ∧ qw_sc h0 h2 := by
  have h8 := hl.1
  intro m
  induction m with
  | zero =>
    intro f k h hm hf e0 es ep e3
    obtain ⟨f, rfl⟩ : ∃ g, f = g + 1 := ⟨f - 1, by omega⟩
    exact ⟨h, by rw [b179_30, e0.1, if_neg (by rw [nI_lt_iff (by omega) (by omega)]; omega)]; rfl, e3⟩
  | succ m ih =>
    intro f k h hm hf e0 es ep e3
    obtain ⟨f, rfl⟩ : ∃ g, f = g + 1 := ⟨f - 1, by omega⟩
    rw [b179_30, e0.1, if_pos (by rw [nI_lt_iff (by omega) (by omega)]; omega), q_ix_n hr (by decide), es, q_jd]
    by_cases z : k < n
    · obtain ⟨h2, g1, g2⟩ := s133 d h l hl k q hq1 hq (by omega) e0
      have hb := qv_f_bd hl hq k
      have ep2 : ∀ i, i < 40 → h2.2.1 87 (40 * r + i) = P i := fun i hi => (congrFun (g2.2.2 87 (by decide)) _).trans (ep i hi)
      rw [if_pos (by rw [nI_lt_iff (by omega) (by omega)]; exact z), if_pos z, g1, q_c1_s, show (40 : Int32) = nI 40 from rfl, pk_mul, nI_add, q_ix_n (by omega) (by decide), ep2 k (by omega), nI_L (by omega), nI_p1]
      by_cases w : P k = iL (qv_f l k q)
      · rw [if_pos ((lg_eq0 _ _).mpr w.symm), if_pos w]
        exact ih f (k + 1) h2 (by omega) (by omega) (qw_sc_at g2 e0) ((congrFun (g2.1 86 (by decide)) _).trans es) ep2 (qw_sc_tr e3 g2)
      · rw [if_neg (fun e => w ((lg_eq0 _ _).mp e).symm), if_neg w]
        exact ⟨h2, rfl, qw_sc_tr e3 g2⟩
    · rw [if_neg (by rw [nI_lt_iff (by omega) (by omega)]; exact z), if_neg z]
      exact ⟨h, rfl, e3⟩
theorem c82 (x y : Int32) : qs_st 82 179 [.int x, .int y] := by
  intro s hs
  have h8 := hs.1.1
  by_cases g : qg_r x
  · by_cases g2 : qg_q y
    · obtain ⟨r, hr, rfl⟩ := qg_rN g
      obtain ⟨q, hq1, hq, rfl⟩ := qg_qN g2
      obtain ⟨n, hn, e2, e1⟩ := hs.2.2.2.2.2.1 r hr
      rcases e1 with ⟨e1, n0⟩ | ⟨k, hk, e1⟩
      · refine qs_no (.int (-11)) hs ?_ ?_
        · intro d h hc
          have c6 := hc.2.2.2.2.2.1 r hr
          rw [m82, s109p _ _ g, q_c1_s, if_neg (by decide), s106p _ _ g2, q_c1_s, if_neg (by decide), q_ix_n hr (by decide), rf60 hr, gb82_22 hr, gm48 hr, c6.1, e1, if_pos rfl, q_c1_s, if_neg (by decide)]
        · intro d h hc
          have c6 := hc.2.2.2.2.2.1 r hr
          rw [m179, s168p _ _ g, q_c1_s, if_neg (by decide), s123p _ _ g2, q_c1_s, if_neg (by decide), q_ix_n hr (by decide), c6.1, e1, if_pos (by decide)]
      · refine qs_sc (.int (q_jd s.1 q n (s.2.2.2 r) (s.1 0 0) 0)) hs ?_ ?_
        · intro d h hc
          have c6 := hc.2.2.2.2.2.1 r hr
          obtain ⟨h2, i1, i2, i3, i4⟩ := s36z (d + 8) h s.1 hs.1 (Or.inl rfl) hc.1 hc.2.2.2.2.2.2.2
          obtain ⟨h3, f1, f2, f3⟩ := l82 q_X0 (d + 9) s.1 hs.1 q hq1 hq r hr n hn (s.2.2.2 r) h (s.1 0 0) 998 0 h2 (by omega) (by omega) (qr_sc_at i3 (Or.inl rfl) hc.1) ((i3.1 _ _ (by omega)).trans (c6.2.1.trans e2)) (fun i hi => (congrFun (i3.2.2 _ (by omega)) i).trans (c6.2.2 i hi)) i2 i4 (qc_of i3)
          refine ⟨h3, ?_, f2, f3⟩
          rw [m82, s109p _ _ g, q_c1_s, if_neg (by decide), s106p _ _ g2, q_c1_s, if_neg (by decide), q_ix_n hr (by decide), rf60 hr, gb82_22 hr, gm48 hr, c6.1, e1, if_neg (nI_nm1 hk), q_c1_s, if_pos rfl, i1, q_c0_s]
          exact f1
        · intro d h hc
          have c6 := hc.2.2.2.2.2.1 r hr
          obtain ⟨h3, f1, f2⟩ := l179 q_X0 (d + 9) s.1 hs.1 q hq1 hq r hr n hn (s.2.2.2 r) h (s.1 0 0) 999 0 h (by omega) (by omega) hc.1 (c6.2.1.trans e2) c6.2.2 (qw_sc_rf h)
          refine ⟨h3, ?_, qp_of f2⟩
          rw [m179, s168p _ _ g, q_c1_s, if_neg (by decide), s123p _ _ g2, q_c1_s, if_neg (by decide), q_ix_n hr (by decide), c6.1, e1, if_neg (nI_lt0 (by omega))]
          exact f1
    · refine qs_no (.int (-1)) hs ?_ ?_
      · intro d h hc
        rw [m82, s109p _ _ g, q_c1_s, if_neg (by decide), s106n _ _ g2, q_c1_s, if_pos rfl]
      · intro d h hc
        rw [m179, s168p _ _ g, q_c1_s, if_neg (by decide), s123n _ _ g2, q_c1_s, if_pos rfl]
  · refine qs_no (.int (-1)) hs ?_ ?_
    · intro d h hc
      rw [m82, s109n _ _ g, q_c1_s, if_pos rfl]
    · intro d h hc
      rw [m179, s168n _ _ g, q_c1_s, if_pos rfl]
