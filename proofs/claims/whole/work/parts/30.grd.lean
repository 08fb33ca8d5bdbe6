/-! ===== guards of both ===== -/
theorem ifp {α : Type} {c : Prop} [Decidable c] {a b : α} (h : c) : (if c then a else b) = a := if_pos h
theorem ifn {α : Type} {c : Prop} [Decidable c] {a b : α} (h : ¬ c) : (if c then a else b) = b := if_neg h
theorem s106p (d : Nat) (h : q_S) {x : Int32} (g : qg_q x) : q_sem (d + 1) 106 h [.int x] = some (h, some (.int 1)) := by
  rw [m106, if_neg g.1, if_neg g.2]
theorem s106n (d : Nat) (h : q_S) {x : Int32} (g : ¬ qg_q x) : q_sem (d + 1) 106 h [.int x] = some (h, some (.int 0)) := by
  rw [m106]
  by_cases a : x < 1
  · rw [if_pos a]
  · rw [if_neg a, if_pos (Classical.byContradiction fun b => g ⟨a, b⟩)]
theorem s107p (d : Nat) (h : q_S) {x y : Int32} (g : qg_p x ∧ qg_q y) : q_sem (d + 2) 107 h [.int x, .int y] = some (h, some (.int 1)) := by
  rw [m107, if_neg g.1.1, if_neg g.1.2, s106p _ _ g.2, q_c1_s, if_neg (by decide)]
theorem s107n (d : Nat) (h : q_S) {x y : Int32} (g : ¬ (qg_p x ∧ qg_q y)) : q_sem (d + 2) 107 h [.int x, .int y] = some (h, some (.int 0)) := by
  rw [m107]
  by_cases a : x < 0
  · rw [if_pos a]
  by_cases b : 9999 < x
  · rw [if_neg a, if_pos b]
  rw [if_neg a, if_neg b, s106n _ _ (fun c => g ⟨⟨a, b⟩, c⟩), q_c1_s, if_pos rfl]
theorem s120p (d : Nat) (h : q_S) {x y z : Int32} (a : ¬ x < y) (b : ¬ z < x) : q_sem (d + 1) 120 h [.int x, .int y, .int z] = some (h, some (.int 1)) := by
  rw [m120, if_neg a, if_neg b]
theorem s120n (d : Nat) (h : q_S) {x y z : Int32} (g : ¬ (¬ x < y ∧ ¬ z < x)) : q_sem (d + 1) 120 h [.int x, .int y, .int z] = some (h, some (.int 0)) := by
  rw [m120]
  by_cases a : x < y
  · rw [if_pos a]
  · rw [if_neg a, if_pos (Classical.byContradiction fun b => g ⟨a, b⟩)]
theorem s123p (d : Nat) (h : q_S) {x : Int32} (g : qg_q x) : q_sem (d + 2) 123 h [.int x] = some (h, some (.int 1)) := by
  rw [m123, s120p _ _ g.1 g.2, q_c1_s, if_pos (by decide)]
theorem s123n (d : Nat) (h : q_S) {x : Int32} (g : ¬ qg_q x) : q_sem (d + 2) 123 h [.int x] = some (h, some (.int 0)) := by
  rw [m123, s120n _ _ g, q_c1_s, if_pos (by decide)]
theorem s124p (d : Nat) (h : q_S) {x y : Int32} (g : qg_p x ∧ qg_q y) : q_sem (d + 3) 124 h [.int x, .int y] = some (h, some (.int 1)) := by
  rw [m124, s120p _ _ g.1.1 g.1.2, q_c1_s, if_neg (by decide), s123p _ _ g.2, q_c1_s, if_neg (by decide)]
theorem s124n (d : Nat) (h : q_S) {x y : Int32} (g : ¬ (qg_p x ∧ qg_q y)) : q_sem (d + 3) 124 h [.int x, .int y] = some (h, some (.int 0)) := by
  rw [m124]
  by_cases a : qg_p x
  · rw [s120p _ _ a.1 a.2, q_c1_s, if_neg (by decide), s123n _ _ (fun c => g ⟨a, c⟩), q_c1_s, if_pos rfl]
  · rw [s120n _ _ a, q_c1_s, if_pos rfl]
theorem qg_m1 {n m : Nat} (hn : n ≤ 8) (hm : m < 2147483648) : nI n - 1 < nI m ↔ ¬ nI m < nI n := by
  rw [nI_lt_iff hm (by omega)]
  rcases Nat.eq_zero_or_pos n with q | q
  · subst q
    have e : nI 0 - 1 = -1 := by decide
    rw [e]
    have : ¬ nI m < 0 := nI_lt0 hm
    constructor
    · intro _; omega
    · intro _
      rw [Int32.lt_iff_toInt_lt] at this ⊢
      have e0 : (0 : Int32).toInt = 0 := rfl
      have e1 : (-1 : Int32).toInt = -1 := rfl
      omega
  · obtain ⟨k, rfl⟩ : ∃ k, n = k + 1 := ⟨n - 1, by omega⟩
    rw [nI_m1, nI_lt_iff (by omega) hm]
    omega
theorem qg_m2 {n m : Nat} (hn : n ≤ 8) (hm : m < 2147483648) : nI n - 2 < nI m ↔ ¬ nI m < nI n - 1 := by
  rcases Nat.eq_zero_or_pos n with q | q
  · subst q
    have e : nI 0 - 1 = -1 := by decide
    have e2 : nI 0 - 2 = -2 := by decide
    rw [e, e2]
    have : ¬ nI m < 0 := nI_lt0 hm
    rw [Int32.lt_iff_toInt_lt] at this
    rw [Int32.lt_iff_toInt_lt, Int32.lt_iff_toInt_lt]
    have e0 : (0 : Int32).toInt = 0 := rfl
    have e1 : (-1 : Int32).toInt = -1 := rfl
    have e3 : (-2 : Int32).toInt = -2 := rfl
    omega
  · obtain ⟨k, rfl⟩ : ∃ k, n = k + 1 := ⟨n - 1, by omega⟩
    have e : nI (k + 1) - 2 = nI k - 1 := by
      rw [← nI_m1 k]
      generalize nI (k + 1) = z
      have : (2 : Int32) = 1 + 1 := by decide
      rw [this, Int32.sub_sub]
    rw [e, nI_m1]
    exact qg_m1 (by omega) hm
theorem s19p (d : Nat) {h : q_S} {l : qv_L} (hL : qv_at h 12 l) {x : Int32} (g : qg_d l x) : q_sem (d + 1) 19 h [.ref 12, .int x] = some (h, some (.int 1)) := by
  rw [m19, if_neg g.1, hL.1, if_pos g.2]
theorem s19n (d : Nat) {h : q_S} {l : qv_L} (hL : qv_at h 12 l) {x : Int32} (g : ¬ qg_d l x) : q_sem (d + 1) 19 h [.ref 12, .int x] = some (h, some (.int 0)) := by
  rw [m19, hL.1]
  by_cases a : x < 0
  · rw [if_pos a]
  · rw [if_neg a, if_neg fun b => g ⟨a, b⟩]
theorem s20p (d : Nat) {h : q_S} {l : qv_L} (hL : qv_at h 12 l) {x : Int32} (g : qg_s l x) : q_sem (d + 1) 20 h [.ref 12, .int x] = some (h, some (.int 1)) := by
  rw [m20, if_neg g.1, hL.1, if_pos g.2]
theorem s20n (d : Nat) {h : q_S} {l : qv_L} (hL : qv_at h 12 l) {x : Int32} (g : ¬ qg_s l x) : q_sem (d + 1) 20 h [.ref 12, .int x] = some (h, some (.int 0)) := by
  rw [m20, hL.1]
  by_cases a : x < 0
  · rw [if_pos a]
  · rw [if_neg a, if_neg fun b => g ⟨a, b⟩]
theorem qg_d_iff {l : qv_L} (hl : l 0 0 ≤ 8) {x : Int32} : qg_d l x ↔ (¬ x < 0 ∧ ¬ nI (l 0 0) - 1 < x) := by
  unfold qg_d
  constructor
  · rintro ⟨a, b⟩
    obtain ⟨m, hm, rfl⟩ := qg_nat a
    exact ⟨a, fun c => (qg_m1 hl hm).mp c b⟩
  · rintro ⟨a, b⟩
    obtain ⟨m, hm, rfl⟩ := qg_nat a
    exact ⟨a, Classical.byContradiction fun c => b ((qg_m1 hl hm).mpr c)⟩
theorem qg_s_iff {l : qv_L} (hl : l 0 0 ≤ 8) {x : Int32} : qg_s l x ↔ (¬ x < 0 ∧ ¬ nI (l 0 0) - 2 < x) := by
  unfold qg_s
  constructor
  · rintro ⟨a, b⟩
    obtain ⟨m, hm, rfl⟩ := qg_nat a
    exact ⟨a, fun c => (qg_m2 hl hm).mp c b⟩
  · rintro ⟨a, b⟩
    obtain ⟨m, hm, rfl⟩ := qg_nat a
    exact ⟨a, Classical.byContradiction fun c => b ((qg_m2 hl hm).mpr c)⟩
theorem s121p (d : Nat) {h : q_S} {l : qv_L} (hl : qv_ok l) (hL : qw_at h l) {x : Int32} (g : qg_d l x) : q_sem (d + 2) 121 h [.ref 67, .int x] = some (h, some (.int 1)) := by
  have g := (qg_d_iff hl.1).mp g
  rw [m121, hL.1, s120p _ _ g.1 g.2, q_c1_s, if_pos (by decide)]
theorem s121n (d : Nat) {h : q_S} {l : qv_L} (hl : qv_ok l) (hL : qw_at h l) {x : Int32} (g : ¬ qg_d l x) : q_sem (d + 2) 121 h [.ref 67, .int x] = some (h, some (.int 0)) := by
  rw [m121, hL.1, s120n _ _ (fun q => g ((qg_d_iff hl.1).mpr q)), q_c1_s, if_pos (by decide)]
theorem s122p (d : Nat) {h : q_S} {l : qv_L} (hl : qv_ok l) (hL : qw_at h l) {x : Int32} (g : qg_s l x) : q_sem (d + 2) 122 h [.ref 67, .int x] = some (h, some (.int 1)) := by
  have g := (qg_s_iff hl.1).mp g
  rw [m122, hL.1, s120p _ _ g.1 g.2, q_c1_s, if_pos (by decide)]
theorem s122n (d : Nat) {h : q_S} {l : qv_L} (hl : qv_ok l) (hL : qw_at h l) {x : Int32} (g : ¬ qg_s l x) : q_sem (d + 2) 122 h [.ref 67, .int x] = some (h, some (.int 0)) := by
  rw [m122, hL.1, s120n _ _ (fun q => g ((qg_s_iff hl.1).mpr q)), q_c1_s, if_pos (by decide)]
theorem s155p (d : Nat) {h : q_S} {l : qv_L} (hl : qv_ok l) (hL : qw_at h l) {x y : Int32} (g : qg_d l x ∧ qg_q y) : q_sem (d + 3) 155 h [.ref 67, .int x, .int y] = some (h, some (.int 1)) := by
  rw [m155, s121p _ hl hL g.1, q_c1_s, if_neg (by decide), s123p _ _ g.2, q_c1_s, if_neg (by decide)]
theorem s155n (d : Nat) {h : q_S} {l : qv_L} (hl : qv_ok l) (hL : qw_at h l) {x y : Int32} (g : ¬ (qg_d l x ∧ qg_q y)) : q_sem (d + 3) 155 h [.ref 67, .int x, .int y] = some (h, some (.int 0)) := by
  rw [m155]
  by_cases a : qg_d l x
  · rw [s121p _ hl hL a, q_c1_s, if_neg (by decide), s123n _ _ (fun c => g ⟨a, c⟩), q_c1_s, if_pos rfl]
  · rw [s121n _ hl hL a, q_c1_s, if_pos rfl]
theorem qg_qN {x : Int32} (g : qg_q x) : ∃ q, 1 ≤ q ∧ q ≤ 16 ∧ x = nI q := by
  have h0 : ¬ x < 0 := by
    intro a
    refine g.1 ?_
    rw [Int32.lt_iff_toInt_lt] at a ⊢
    have e0 : (0 : Int32).toInt = 0 := rfl
    have e1 : (1 : Int32).toInt = 1 := rfl
    omega
  obtain ⟨n, hn, rfl⟩ := qg_nat h0
  refine ⟨n, ?_, ?_, rfl⟩
  · have a := g.1
    rw [show (1 : Int32) = nI 1 from rfl, nI_lt_iff hn (by decide)] at a
    omega
  · have a := g.2
    rw [show (16 : Int32) = nI 16 from rfl, nI_lt_iff (by decide) hn] at a
    omega
theorem qg_pN {x : Int32} (g : qg_p x) : ∃ p, p ≤ 9999 ∧ x = nI p := by
  obtain ⟨n, hn, rfl⟩ := qg_nat g.1
  refine ⟨n, ?_, rfl⟩
  have a := g.2
  rw [show (9999 : Int32) = nI 9999 from rfl, nI_lt_iff (by decide) hn] at a
  omega
theorem qg_dN {l : qv_L} (hl : l 0 0 ≤ 8) {x : Int32} (g : qg_d l x) : ∃ i, i < l 0 0 ∧ x = nI i := by
  obtain ⟨n, hn, rfl⟩ := qg_nat g.1
  refine ⟨n, ?_, rfl⟩
  have a := g.2
  rw [nI_lt_iff hn (by omega)] at a
  exact a
theorem qg_sN {l : qv_L} (hl : l 0 0 ≤ 8) {x : Int32} (g : qg_s l x) : ∃ i, i + 1 < l 0 0 ∧ x = nI i := by
  obtain ⟨n, hn, rfl⟩ := qg_nat g.1
  refine ⟨n, ?_, rfl⟩
  have a := g.2
  rcases Nat.eq_zero_or_pos (l 0 0) with q | q
  · rw [q] at a
    have e : nI 0 - 1 = -1 := by decide
    have := g.1
    rw [e, Int32.lt_iff_toInt_lt] at a
    rw [Int32.lt_iff_toInt_lt] at this
    have e0 : (0 : Int32).toInt = 0 := rfl
    have e1 : (-1 : Int32).toInt = -1 := rfl
    omega
  · obtain ⟨k, hk⟩ : ∃ k, l 0 0 = k + 1 := ⟨l 0 0 - 1, by omega⟩
    rw [hk, nI_m1, nI_lt_iff hn (by omega)] at a
    omega
/-- a call that is refused, and leaves all as it is -/
theorem qs_no {y y' : Nat} {as : List Value} {s : qs} (v : Value) (hs : qs_ok s) (a : ∀ (d : Nat) (h : q_S), qs_C h s → q_sem (d + 14) y h (.ref 0 :: as) = some (h, some v)) (b : ∀ (d : Nat) (h : q_S), qs_R h s → q_sem (d + 14) y' h (.ref 67 :: as) = some (h, some v)) : ∃ v s', qs_ok s' ∧ (∀ (d : Nat) (h : q_S), qs_C h s → ∃ h1, q_sem (d + 14) y h (.ref 0 :: as) = some (h1, some v) ∧ qs_C h1 s') ∧ (∀ (d : Nat) (h : q_S), qs_R h s → ∃ h1, q_sem (d + 14) y' h (.ref 67 :: as) = some (h1, some v) ∧ qs_R h1 s') :=
  ⟨v, s, hs, fun d h hc => ⟨h, a d h hc, hc⟩, fun d h hr => ⟨h, b d h hr, hr⟩⟩
/-- a call that leaves all but scratch as it is -/
theorem qs_sc {y y' : Nat} {as : List Value} {s : qs} (v : Value) (hs : qs_ok s) (a : ∀ (d : Nat) (h : q_S), qs_C h s → ∃ h1, q_sem (d + 14) y h (.ref 0 :: as) = some (h1, some v) ∧ qc_sc h h1 ∧ qr_z h1) (b : ∀ (d : Nat) (h : q_S), qs_R h s → ∃ h1, q_sem (d + 14) y' h (.ref 67 :: as) = some (h1, some v) ∧ qp_sc h h1) : ∃ v s', qs_ok s' ∧ (∀ (d : Nat) (h : q_S), qs_C h s → ∃ h1, q_sem (d + 14) y h (.ref 0 :: as) = some (h1, some v) ∧ qs_C h1 s') ∧ (∀ (d : Nat) (h : q_S), qs_R h s → ∃ h1, q_sem (d + 14) y' h (.ref 67 :: as) = some (h1, some v) ∧ qs_R h1 s') :=
  ⟨v, s, hs, fun d h hc => by
    obtain ⟨h1, e, f, z⟩ := a d h hc
    exact ⟨h1, e, qs_C_sc f z hc⟩, fun d h hr => by
    obtain ⟨h1, e, f⟩ := b d h hr
    exact ⟨h1, e, qs_R_sc f hr⟩⟩
/-! below -/
theorem s36z (d : Nat) (h : q_S) (l : qv_L) (hl : qv_ok l) {o : Nat} (ho : o = 12 ∨ o = 18) (hL : qv_at h o l) (hz : qr_z h) : ∃ h2, q_sem (d + 5) 36 h [.ref 43, .ref o] = some (h2, none) ∧ qr_at h2 l ∧ qr_sc h h2 ∧ qr_z h2 := by
  obtain ⟨h2, a, b, c, e⟩ := s36 d h l hl ho hL
  exact ⟨h2, a, b, c, fun r j x y => (congrFun (e _ (by omega)) j).trans (hz r j x y)⟩
theorem c66 (x y : Int32) : qs_st 66 149 [.int x, .int y] := by
  intro s hs
  by_cases g : qg_p x ∧ qg_q y
  · obtain ⟨p, hp, rfl⟩ := qg_pN g.1
    obtain ⟨q, hq1, hq, rfl⟩ := qg_qN g.2
    refine qs_sc (.int (nI (qB s.1 p q 0 (s.1 0 0)))) hs ?_ ?_
    · intro d h hc
      obtain ⟨h2, e1, e2, e3, e4⟩ := s36z (d + 8) h s.1 hs.1 (Or.inl rfl) hc.1 hc.2.2.2.2.2.2.2
      obtain ⟨h3, f1, f2, f3, f4⟩ := s37 (d + 10) h2 s.1 hs.1 p q (by omega) hq e2 e4
      refine ⟨h3, ?_, qc_sc_tr (qc_of e3) (qc_of (qr_fr_sc f2)), f3⟩
      rw [m66, s107p _ _ g, q_c1_s, if_neg (by decide), e1, q_c0_s, f1, q_c1_s]
    · intro d h hr
      obtain ⟨h2, e1, e2, e3⟩ := s126 (d + 11) h s.1 hs.1 hr.1
      obtain ⟨h3, f1, f2, f3, f4⟩ := s131 (d + 10) h2 s.1 hs.1 p q (by omega) hq (qw_sc_at e3 hr.1) e2
      refine ⟨h3, ?_, qp_sc_tr (qp_of e3) (qp_of f2)⟩
      rw [m149, s124p _ _ g, q_c1_s, if_neg (by decide), e1, q_c0_s, f1, q_c1_s]
  · refine qs_no (.int (-1)) hs ?_ ?_
    · intro d h hc
      rw [m66, s107n _ _ g, q_c1_s, if_pos rfl]
    · intro d h hr
      rw [m149, s124n _ _ g, q_c1_s, if_pos rfl]
