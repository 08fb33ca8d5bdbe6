/-! ===== put, get, count ===== -/
theorem qg_m1b {n m : Nat} (hn : n ≤ 1000) (hm : m < 2147483648) : nI n - 1 < nI m ↔ ¬ nI m < nI n := by
  rw [nI_lt_iff hm (by omega)]
  rcases Nat.eq_zero_or_pos n with q | q
  · subst q
    have e : nI 0 - 1 = -1 := by decide
    rw [e]
    have : ¬ nI m < 0 := nI_lt0 hm
    constructor
    · intro _; omega
    · intro _
      rw [Int32.lt_iff_toInt_lt] at this ⊢
      have e0 : (0 : Int32).toInt = 0 := rfl
      have e1 : (-1 : Int32).toInt = -1 := rfl
      omega
  · obtain ⟨k, rfl⟩ : ∃ k, n = k + 1 := ⟨n - 1, by omega⟩
    rw [nI_m1, nI_lt_iff (by omega) hm]
    omega
theorem qg_m1i {n : Nat} (hn : n ≤ 1000) {x : Int32} : (¬ x < 0 ∧ x < nI n) ↔ (¬ x < 0 ∧ ¬ nI n - 1 < x) := by
  constructor
  · rintro ⟨a, b⟩
    obtain ⟨m, hm, rfl⟩ := qg_nat a
    exact ⟨a, fun c => (qg_m1b hn hm).mp c b⟩
  · rintro ⟨a, b⟩
    obtain ⟨m, hm, rfl⟩ := qg_nat a
    exact ⟨a, Classical.byContradiction fun c => b ((qg_m1b hn hm).mpr c)⟩
def qg_i (n : Nat) (x : Int32) : Prop := ¬ x < 0 ∧ x < nI n
theorem qg_iN {n : Nat} (hn : n ≤ 1000) {x : Int32} (g : qg_i n x) : ∃ i, i < n ∧ x = nI i := by
  obtain ⟨m, hm, rfl⟩ := qg_nat g.1
  have b := g.2
  rw [nI_lt_iff hm (by omega)] at b
  exact ⟨m, b, rfl⟩
theorem s50p (d : Nat) {h : q_S} {r : Nat} (hr : r < 3) {n : Nat} (e : h.1 (61 + r) 2 = nI n) {x : Int32} (g : qg_i n x) : q_sem (d + 1) 50 h [.ref (61 + r), .int x] = some (h, some (.int 1)) := by
  rw [gm50 hr, if_neg g.1, e, if_pos g.2]
theorem s50n (d : Nat) {h : q_S} {r : Nat} (hr : r < 3) {n : Nat} (e : h.1 (61 + r) 2 = nI n) {x : Int32} (g : ¬ qg_i n x) : q_sem (d + 1) 50 h [.ref (61 + r), .int x] = some (h, some (.int 0)) := by
  rw [gm50 hr, e]
  by_cases a : x < 0
  · rw [if_pos a]
  · rw [if_neg a, if_neg fun b => g ⟨a, b⟩]
theorem s120ip (d : Nat) (h : q_S) {n : Nat} (hn : n ≤ 1000) {x : Int32} (g : qg_i n x) : q_sem (d + 1) 120 h [.int x, .int 0, .int (nI n - 1)] = some (h, some (.int 1)) :=
  have q := (qg_m1i hn).mp g
  s120p _ _ q.1 q.2
theorem s120in (d : Nat) (h : q_S) {n : Nat} (hn : n ≤ 1000) {x : Int32} (g : ¬ qg_i n x) : q_sem (d + 1) 120 h [.int x, .int 0, .int (nI n - 1)] = some (h, some (.int 0)) :=
  s120n _ _ (fun q => g ((qg_m1i hn).mpr q))
def q_nw (k : Nat) (v : Int64) : Int64 := if k = 0 then v.toInt32.toInt8.toInt32.toInt64 else if k = 1 then v.toInt32.toInt64 else v
theorem s169 (d : Nat) (h : q_S) {k : Nat} (hk : k ≤ 2) (v : Int64) : q_sem (d + 1) 169 h [.int (nI k), .long v] = some (h, some (.long (q_nw k v))) := by
  rw [m169]
  rcases (by omega : k = 0 ∨ k = 1 ∨ k = 2) with rfl | rfl | rfl <;> rfl
theorem s52 (d : Nat) (h : q_S) {r : Nat} (hr : r < 3) {k : Nat} (hk : k ≤ 2) (e : h.1 (61 + r) 1 = nI k) {i : Nat} (hi : i < 40) (v : Int64) : q_sem (d + 1) 52 h [.ref (61 + r), .int (nI i), .long v] = some (q_sl h (64 + r) i (q_nw k v), none) := by
  rw [gm52 hr, e, q_ix_n hi (by decide), q_ix_n hi (by decide), q_ix_n hi (by decide)]
  rcases (by omega : k = 0 ∨ k = 1 ∨ k = 2) with rfl | rfl | rfl <;> rfl
theorem nI_nm1 {k : Nat} (hk : k ≤ 2) : ¬ nI k = -1 := by
  rcases (by omega : k = 0 ∨ k = 1 ∨ k = 2) with rfl | rfl | rfl <;> decide
def qp_s (P : Nat → Nat → Int64) (r i : Nat) (v : Int64) : Nat → Nat → Int64 := fun a j => if a = r ∧ j = i then v else P a j
theorem c6_s {h : q_S} {t : qT} {P : Nat → Nat → Int64} {r i : Nat} {v : Int64} (c : qs_c6 h t P) : qs_c6 (q_sl h (64 + r) i v) t (qp_s P r i v) := by
  intro a ha
  obtain ⟨d1, d2, d3⟩ := c a ha
  refine ⟨d1, d2, fun j hj => ?_⟩
  simp only [qp_s]
  by_cases z : a = r ∧ j = i
  · rw [if_pos z, z.1, z.2, qr_sl_eq]
  · rw [if_neg z, qr_sl_ne (by omega)]
    exact d3 j hj
theorem r6_s {h : q_S} {t : qT} {P : Nat → Nat → Int64} {r i : Nat} {v : Int64} (hi : i < 40) (c : qs_r6 h t P) : qs_r6 (q_sl h 87 (40 * r + i) v) t (qp_s P r i v) := by
  intro a ha
  obtain ⟨d1, d2, d3⟩ := c a ha
  refine ⟨d1, d2, fun j hj => ?_⟩
  simp only [qp_s]
  by_cases z : a = r ∧ j = i
  · rw [if_pos z, z.1, z.2, qr_sl_eq]
  · rw [if_neg z, qr_sl_ne (by omega)]
    exact d3 j hj
theorem C_s {h : q_S} {s : qs} {r i : Nat} {v : Int64} (hr : r < 3) (c : qs_C h s) : qs_C (q_sl h (64 + r) i v) (s.1, s.2.1, s.2.2.1, qp_s s.2.2.2 r i v) := by
  obtain ⟨c1, c2, c3, c4, c5, c6, c7, c8⟩ := c
  exact mk_C c1 c2 c3 c4 c5 (c6_s c6) c7 (f_z (fun a j q => qr_sl_ne (by omega)) c8)
theorem R_s {h : q_S} {s : qs} {r i : Nat} {v : Int64} (hi : i < 40) (c : qs_R h s) : qs_R (q_sl h 87 (40 * r + i) v) (s.1, s.2.1, s.2.2.1, qp_s s.2.2.2 r i v) := by
  obtain ⟨c1, c2, c3, c4, c5, c6, c7⟩ := c
  exact mk_R c1 c2 c3 c4 c5 (r6_s hi c6) c7
theorem c93 (x y : Int32) (z : Int64) : qs_st 93 171 [.int x, .int y, .long z] := by
  intro s hs
  by_cases g : qg_r x
  · obtain ⟨r, hr, rfl⟩ := qg_rN g
    obtain ⟨n, hn, e2, e1⟩ := hs.2.2.2.2.2.1 r hr
    rcases e1 with ⟨e1, n0⟩ | ⟨k, hk, e1⟩
    · refine qs_no (.int (-11)) hs ?_ ?_
      · intro d h hc
        have c6 := hc.2.2.2.2.2.1 r hr
        rw [m93, s109p _ _ g, q_c1_s, if_neg (by decide), q_ix_n hr (by decide), rf60 hr, gb93_15 hr, gm48 hr, c6.1, e1, if_pos rfl, q_c1_s, if_neg (by decide)]
      · intro d h hc
        have c6 := hc.2.2.2.2.2.1 r hr
        rw [m171, s168p _ _ g, q_c1_s, if_neg (by decide), q_ix_n hr (by decide), c6.1, e1, if_pos (by decide)]
    · by_cases gi : qg_i n y
      · obtain ⟨i, hi, rfl⟩ := qg_iN (by omega) gi
        refine ⟨.int 1, (s.1, s.2.1, s.2.2.1, qp_s s.2.2.2 r i (q_nw k z)), hs, ?_, ?_⟩
        · intro d h hc
          have c6 := hc.2.2.2.2.2.1 r hr
          refine ⟨_, ?_, C_s hr hc⟩
          rw [m93, s109p _ _ g, q_c1_s, if_neg (by decide), q_ix_n hr (by decide), rf60 hr, gb93_15 hr, gm48 hr, c6.1, e1, if_neg (nI_nm1 hk), q_c1_s, if_pos rfl, q_ix_n hr (by decide), rf60 hr, gb93_30 hr, s50p _ hr (c6.2.1.trans e2) gi, q_c1_s, if_neg (by decide), q_ix_n hr (by decide), rf60 hr, gb93_46 hr, s52 _ _ hr hk (c6.1.trans e1) (by omega), q_c0_s]
        · intro d h hc
          have c6 := hc.2.2.2.2.2.1 r hr
          refine ⟨_, ?_, R_s (i := i) (by omega) hc⟩
          rw [m171, s168p _ _ g, q_c1_s, if_neg (by decide), q_ix_n hr (by decide), c6.1, e1, if_neg (nI_lt0 (by omega)), q_ix_n hr (by decide), c6.2.1, e2, s120ip _ _ (by omega) gi, q_c1_s, if_neg (by decide), q_ix_n hr (by decide), c6.1, e1, s169 _ _ hk, q_c3_s, show (40 : Int32) = nI 40 from rfl, pk_mul, nI_add, q_ix_n (by omega) (by decide)]
      · refine qs_no (.int (-13)) hs ?_ ?_
        · intro d h hc
          have c6 := hc.2.2.2.2.2.1 r hr
          rw [m93, s109p _ _ g, q_c1_s, if_neg (by decide), q_ix_n hr (by decide), rf60 hr, gb93_15 hr, gm48 hr, c6.1, e1, if_neg (nI_nm1 hk), q_c1_s, if_pos rfl, q_ix_n hr (by decide), rf60 hr, gb93_30 hr, s50n _ hr (c6.2.1.trans e2) gi, q_c1_s, if_pos rfl]
        · intro d h hc
          have c6 := hc.2.2.2.2.2.1 r hr
          rw [m171, s168p _ _ g, q_c1_s, if_neg (by decide), q_ix_n hr (by decide), c6.1, e1, if_neg (nI_lt0 (by omega)), q_ix_n hr (by decide), c6.2.1, e2, s120in _ _ (by omega) gi, q_c1_s, if_pos rfl]
  · refine qs_no (.int (-1)) hs ?_ ?_
    · intro d h hc
      rw [m93, s109n _ _ g, q_c1_s, if_pos rfl]
    · intro d h hc
      rw [m171, s168n _ _ g, q_c1_s, if_pos rfl]
theorem c94 (x y : Int32) : qs_st 94 172 [.int x, .int y] := by
  intro s hs
  by_cases g : qg_r x
  · obtain ⟨r, hr, rfl⟩ := qg_rN g
    obtain ⟨n, hn, e2, e1⟩ := hs.2.2.2.2.2.1 r hr
    by_cases gi : qg_i n y
    · obtain ⟨i, hi, rfl⟩ := qg_iN (by omega) gi
      rcases e1 with ⟨e1, n0⟩ | ⟨k, hk, e1⟩
      · omega
      refine qs_no (.long (s.2.2.2 r i)) hs ?_ ?_
      · intro d h hc
        have c6 := hc.2.2.2.2.2.1 r hr
        rw [m94, s109p _ _ g, q_c1_s, if_neg (by decide), q_ix_n hr (by decide), rf60 hr, gb94_13 hr, s50p _ hr (c6.2.1.trans e2) gi, q_c1_s, if_neg (by decide), q_ix_n hr (by decide), rf60 hr, gb94_26 hr, q_ix_n (by omega) (by decide), c6.2.2 i (by omega)]
      · intro d h hc
        have c6 := hc.2.2.2.2.2.1 r hr
        rw [m172, s168p _ _ g, q_c1_s, if_neg (by decide), q_ix_n hr (by decide), c6.1, e1, if_neg (nI_lt0 (by omega)), q_ix_n hr (by decide), c6.2.1, e2, s120ip _ _ (by omega) gi, q_c1_s, if_neg (by decide), show (40 : Int32) = nI 40 from rfl, pk_mul, nI_add, q_ix_n (by omega) (by decide), c6.2.2 i (by omega)]
    · refine qs_no (.long (Int64.ofNat 9223372036854775808)) hs ?_ ?_
      · intro d h hc
        have c6 := hc.2.2.2.2.2.1 r hr
        rw [m94, s109p _ _ g, q_c1_s, if_neg (by decide), q_ix_n hr (by decide), rf60 hr, gb94_13 hr, s50n _ hr (c6.2.1.trans e2) gi, q_c1_s, if_pos rfl]
      · intro d h hc
        have c6 := hc.2.2.2.2.2.1 r hr
        rw [m172, s168p _ _ g, q_c1_s, if_neg (by decide), q_ix_n hr (by decide), c6.1]
        by_cases a : s.2.2.1 0 (4 + r) < 0
        · rw [if_pos a]
        · rw [if_neg a, q_ix_n hr (by decide), c6.2.1, e2, s120in _ _ (by omega) gi, q_c1_s, if_pos rfl]
  · refine qs_no (.long (Int64.ofNat 9223372036854775808)) hs ?_ ?_
    · intro d h hc
      rw [m94, s109n _ _ g, q_c1_s, if_pos rfl]
    · intro d h hc
      rw [m172, s168n _ _ g, q_c1_s, if_pos rfl]
/-- how many rows are there -/
def q_there (t : qT) : Nat → Nat
  | 0 => 0
  | r + 1 => if t 0 (4 + r) = -1 then q_there t r else q_there t r + 1
theorem l111 (X : q_X) (d : Nat) (s : qs) (h : q_S) (hc : qs_C h s) : ∀ m f i, i + m = 3 → 2 * m < f → q_go e_111 X (q_sem (d + 1)) f 4 [(0, .ref 0), (1, .int (nI (q_there s.2.2.1 i))), (2, .int (nI i))] [] h = some (h, some (.int (nI (q_there s.2.2.1 3)))) := by
  intro m
  induction m with
  | zero =>
    intro f i hi hf
    obtain ⟨f, rfl⟩ : ∃ g, f = g + 1 := ⟨f - 1, by omega⟩
    have : i = 3 := by omega
    subst this
    rw [b111_4, if_neg (by decide)]
  | succ m ih =>
    intro f i hi hf
    obtain ⟨f, rfl⟩ : ∃ g, f = g + 1 + 1 := ⟨f - 2, by omega⟩
    have hr : i < 3 := by omega
    have ih := ih f (i + 1) (by omega) (by omega)
    have c6 := (hc.2.2.2.2.2.1 i hr).1
    rw [b111_4, if_pos (by rw [show (3 : Int32) = nI 3 from rfl, nI_lt_iff (by omega) (by omega)]; omega), q_ix_n hr (by decide), rf60 hr, gb111_15 hr, gm48 hr, c6, nI_p1 i]
    rw [q_there] at ih
    by_cases z : s.2.2.1 0 (4 + i) = -1
    · rw [if_pos z] at ih
      rw [if_pos z, q_c1_s, if_neg (by decide)]
      exact ih
    · rw [if_neg z] at ih
      rw [if_neg z, q_c1_s, if_pos rfl, nI_p1 (q_there s.2.2.1 i)]
      exact ih
theorem l206 (X : q_X) (O : q_O) (s : qs) (hs : qs_ok s) (h : q_S) (hc : qs_R h s) : ∀ m f i, i + m = 3 → m < f → q_go e_206 X O f 4 [(0, .ref 67), (1, .int (nI (q_there s.2.2.1 i))), (2, .int (nI i))] [] h = some (h, some (.int (nI (q_there s.2.2.1 3)))) := by
  intro m
  induction m with
  | zero =>
    intro f i hi hf
    obtain ⟨f, rfl⟩ : ∃ g, f = g + 1 := ⟨f - 1, by omega⟩
    have : i = 3 := by omega
    subst this
    rw [b206_4, if_neg (by decide)]
  | succ m ih =>
    intro f i hi hf
    obtain ⟨f, rfl⟩ : ∃ g, f = g + 1 := ⟨f - 1, by omega⟩
    have hr : i < 3 := by omega
    have ih := ih f (i + 1) (by omega) (by omega)
    have c6 := (hc.2.2.2.2.2.1 i hr).1
    obtain ⟨n, hn, e2, e1⟩ := hs.2.2.2.2.2.1 i hr
    rw [b206_4, if_pos (by rw [show (3 : Int32) = nI 3 from rfl, nI_lt_iff (by omega) (by omega)]; omega), q_ix_n hr (by decide), c6, nI_p1]
    rw [q_there] at ih
    rcases e1 with ⟨e1, n0⟩ | ⟨k, hk, e1⟩
    · rw [if_pos e1] at ih
      rw [e1, if_pos (by decide), show nI (q_there s.2.2.1 i) + 0 = nI (q_there s.2.2.1 i) from Int32.add_zero _]
      exact ih
    · rw [if_neg (by rw [e1]; exact nI_nm1 hk)] at ih
      rw [e1, if_neg (nI_lt0 (by omega)), nI_p1]
      exact ih
theorem c103 (x : Int32) : qs_st 103 207 [.int x] := by
  intro s hs
  have h8 := hs.1.1
  by_cases x0 : x = 0
  · exact qs_no (.int (nI (s.1 0 0))) hs (fun d h hc => by rw [m103, if_pos x0, hc.1.1]) (fun d h hc => by rw [m207, if_pos x0, hc.1.1])
  by_cases x1 : x = 1
  · exact qs_no (.int (nI (s.1 0 1))) hs (fun d h hc => by rw [m103, if_neg x0, if_pos x1, hc.1.2.1]) (fun d h hc => by rw [m207, if_neg x0, if_pos x1, hc.1.2.1])
  by_cases x2 : x = 2
  · exact qs_no (.int (nI (s.1 0 2))) hs (fun d h hc => by rw [m103, if_neg x0, if_neg x1, if_pos x2, hc.1.2.2.1]) (fun d h hc => by rw [m207, if_neg x0, if_neg x1, if_pos x2, hc.1.2.2.1])
  by_cases x3 : x = 3
  · refine qs_no (.int (nI (qv_rat s.1 (s.1 0 0 - 1)))) hs (fun d h hc => ?_) (fun d h hc => by rw [m207, if_neg x0, if_neg x1, if_neg x2, if_pos x3, s127 _ h s.1 hs.1 hc.1, q_c1_s])
    rw [m103, if_neg x0, if_neg x1, if_neg x2, if_pos x3, hc.1.1]
    rcases Nat.eq_zero_or_pos (s.1 0 0) with z | z
    · rw [z, show nI 0 - 1 = -1 by decide, s25m_12, q_c1_s]
      rfl
    · obtain ⟨k, hk⟩ : ∃ k, s.1 0 0 = k + 1 := ⟨s.1 0 0 - 1, by omega⟩
      rw [hk, nI_m1, s25_12 _ h s.1 k hc.1 (by omega), q_c1_s, Nat.add_sub_cancel]
  by_cases x4 : x = 4
  · exact qs_no (.int (s.2.2.1 0 0)) hs (fun d h hc => by rw [m103, if_neg x0, if_neg x1, if_neg x2, if_neg x3, if_pos x4, hc.2.2.1.1]) (fun d h hc => by rw [m207, if_neg x0, if_neg x1, if_neg x2, if_neg x3, if_pos x4, hc.2.2.1.1])
  by_cases x5 : x = 5
  · exact qs_no (.int (s.2.2.1 0 1)) hs (fun d h hc => by rw [m103, if_neg x0, if_neg x1, if_neg x2, if_neg x3, if_neg x4, if_pos x5, hc.2.2.2.1.1]) (fun d h hc => by rw [m207, if_neg x0, if_neg x1, if_neg x2, if_neg x3, if_neg x4, if_pos x5, hc.2.2.2.1.1])
  by_cases x6 : x = 6
  · exact qs_no (.int (s.2.2.1 0 2)) hs (fun d h hc => by rw [m103, if_neg x0, if_neg x1, if_neg x2, if_neg x3, if_neg x4, if_neg x5, if_pos x6, hc.2.2.2.1.2.1]) (fun d h hc => by rw [m207, if_neg x0, if_neg x1, if_neg x2, if_neg x3, if_neg x4, if_neg x5, if_pos x6, hc.2.2.2.1.2.1])
  by_cases x7 : x = 7
  · exact qs_no (.int (s.2.2.1 0 3)) hs (fun d h hc => by rw [m103, if_neg x0, if_neg x1, if_neg x2, if_neg x3, if_neg x4, if_neg x5, if_neg x6, if_pos x7, hc.2.2.2.2.1.1]) (fun d h hc => by rw [m207, if_neg x0, if_neg x1, if_neg x2, if_neg x3, if_neg x4, if_neg x5, if_neg x6, if_pos x7, hc.2.2.2.2.1.1])
  by_cases x8 : x = 8
  · refine qs_no (.int (nI (q_there s.2.2.1 3))) hs (fun d h hc => ?_) (fun d h hc => ?_)
    · rw [m103, if_neg x0, if_neg x1, if_neg x2, if_neg x3, if_neg x4, if_neg x5, if_neg x6, if_neg x7, if_pos x8, m111, show q_go e_111 q_X0 (q_sem (d + 12)) 999 4 [(0, .ref 0), (1, .int 0), (2, .int 0)] [] h = _ from l111 q_X0 (d + 11) s h hc 3 999 0 (by omega) (by omega), q_c1_s]
    · rw [m207, if_neg x0, if_neg x1, if_neg x2, if_neg x3, if_neg x4, if_neg x5, if_neg x6, if_neg x7, if_pos x8, m206, show q_go e_206 q_X0 (q_sem (d + 12)) 999 4 [(0, .ref 67), (1, .int 0), (2, .int 0)] [] h = _ from l206 q_X0 (q_sem (d + 12)) s hs h hc 3 999 0 (by omega) (by omega), q_c1_s]
  · exact qs_no (.int (-1)) hs (fun d h hc => by rw [m103, if_neg x0, if_neg x1, if_neg x2, if_neg x3, if_neg x4, if_neg x5, if_neg x6, if_neg x7, if_neg x8]) (fun d h hc => by rw [m207, if_neg x0, if_neg x1, if_neg x2, if_neg x3, if_neg x4, if_neg x5, if_neg x6, if_neg x7, if_neg x8])
