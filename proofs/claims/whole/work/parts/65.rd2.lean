/-! ===== read: the reference reads ===== -/
/-- the text on the reference's tape -/
def tp_R (h : q_S) (n : Nat) (X : Nat → Int32) : Prop := h.1 67 35 = nI n ∧ ∀ i, i < n → h.1 92 i = X i
theorem tp_fr {h h2 : q_S} {n : Nat} {X : Nat → Int32} (t : tp_R h n X) (u : ∀ b c, (b = 67 ∧ c = 35) ∨ b = 92 → h2.1 b c = h.1 b c) : tp_R h2 n X := ⟨(u _ _ (by omega)).trans t.1, fun i hi => (u _ _ (by omega)).trans (t.2 i hi)⟩
theorem s186 {X : Nat → Int32} {n : Nat} (hn : n ≤ 80) (hX : ∀ i, n ≤ i → X i = -1) (hc : ∀ i, i < n → ∃ c, 32 ≤ c ∧ c ≤ 126 ∧ X i = nI c) (d : Nat) {h : q_S} (t : tp_R h n X) {i : Nat} (hi : i ≤ n) (e : h.1 67 36 = nI i) : q_sem (d + 1) 186 h [.ref 67] = some (h, some (.int (X i))) := by
  rw [m186, e, t.1]
  by_cases il : i < n
  · rw [if_pos (by rw [nI_lt_iff (by omega) (by omega)]; exact il), q_ix_n (by omega) (by decide), t.2 i il]
  · rw [if_neg (by rw [nI_lt_iff (by omega) (by omega)]; exact il), hX i (by omega)]
theorem fg_N {X : Nat → Int32} {n : Nat} (hn : n ≤ 80) (hX : ∀ i, n ≤ i → X i = -1) (hc : ∀ i, i < n → ∃ c, 32 ≤ c ∧ c ≤ 126 ∧ X i = nI c) {i : Nat} (g : qg_f (X i)) : ∃ c, c ≤ 9 ∧ X i - 48 = nI c := by
  have il := f_lt hX g
  obtain ⟨c, -, hc2, e⟩ := hc i il
  obtain ⟨g1, g2⟩ := g
  rw [e, show (48 : Int32) = nI 48 from rfl, nI_lt_iff (by omega) (by omega)] at g1
  rw [e, show (57 : Int32) = nI 57 from rfl, nI_lt_iff (by omega) (by omega)] at g2
  exact ⟨c - 48, by omega, by rw [e, show (48 : Int32) = nI 48 from rfl, pk_sub (by omega)]⟩
theorem nv_pos {X : Nat → Int32} {n : Nat} (hn : n ≤ 80) (hX : ∀ i, n ≤ i → X i = -1) (hc : ∀ i, i < n → ∃ c, 32 ≤ c ∧ c ≤ 126 ∧ X i = nI c) {i : Nat} (g : qg_f (X i)) : ¬ qd_nv X i < 0 := by
  obtain ⟨c, h9, e⟩ := fg_N hn hX hc g
  unfold qd_nv
  by_cases g2 : qg_f (X (i + 1))
  · obtain ⟨c2, h92, e2⟩ := fg_N hn hX hc g2
    rw [if_pos g2, e, Int32.sub_eq_add_neg (10 * nI c + X (i + 1)), Int32.add_assoc, ← Int32.sub_eq_add_neg, e2, show (10 : Int32) = nI 10 from rfl, pk_mul, nI_add]
    exact nI_lt0 (by omega)
  · rw [if_neg g2, e]
    exact nI_lt0 (by omega)
theorem s188p {X : Nat → Int32} {n : Nat} (hn : n ≤ 80) (hX : ∀ i, n ≤ i → X i = -1) (hc : ∀ i, i < n → ∃ c, 32 ≤ c ∧ c ≤ 126 ∧ X i = nI c) (d : Nat) {h : q_S} (t : tp_R h n X) {i : Nat} (g : qg_f (X i)) (e : h.1 67 36 = nI i) : ∃ h2, q_sem (d + 2) 188 h [.ref 67] = some (h2, some (.int (qd_nv X i))) ∧ h2.1 67 36 = nI (qd_ne X i) ∧ (∀ b c, ¬ (b = 67 ∧ c = 36) → h2.1 b c = h.1 b c) ∧ h2.2 = h.2 := by
  have il := f_lt hX g
  have t2 : tp_R (q_si h 67 36 (nI (i + 1))) n X := tp_fr t (fun b c q => qw_si_ne (by omega))
  have st : ∀ res : Option (q_S × Option Value), q_c1 ((q_sem (d + 1)) 120 (q_si h 67 36 (nI (i + 1))) [.int (X (i + 1)), .int 48, .int 57]) (fun h9 v10 => if v10 = 0 then some (h9, some (.int (X i - 48))) else q_c1 ((q_sem (d + 1)) 186 h9 [.ref 67]) (fun h11 v12 => some ((q_si h11 67 36 ((h11.1 67 36) + 1)), some (.int (((10 * (X i - 48)) + v12) - 48))))) = res → q_sem (d + 2) 188 h [.ref 67] = res := by
    intro res r
    rw [m188, s186 hn hX hc _ t (by omega) e, q_c1_s, s120p _ _ g.1 g.2, q_c1_s, if_neg (by decide), s186 hn hX hc _ t (by omega) e, q_c1_s, e, nI_p1, s186 hn hX hc _ t2 (i := i + 1) (by omega) (qw_si_eq ..), q_c1_s]
    exact r
  by_cases g2 : qg_f (X (i + 1))
  · have il2 := f_lt hX g2
    refine ⟨q_si (q_si h 67 36 (nI (i + 1))) 67 36 (nI (i + 2)), st _ ?_, by rw [qw_si_eq, ne_p g2], fun b c q => by rw [qw_si_ne (by omega), qw_si_ne (by omega)], rfl⟩
    rw [s120p _ _ g2.1 g2.2, q_c1_s, if_neg (by decide), s186 hn hX hc _ t2 (i := i + 1) (by omega) (qw_si_eq ..), q_c1_s, qw_si_eq, nI_p1, qd_nv, if_pos g2]
  · refine ⟨q_si h 67 36 (nI (i + 1)), st _ ?_, by rw [qw_si_eq, ne_n g2], fun b c q => by rw [qw_si_ne (by omega)], rfl⟩
    rw [s120n _ _ g2, q_c1_s, if_pos rfl, qd_nv, if_neg g2]
theorem s188n {X : Nat → Int32} {n : Nat} (hn : n ≤ 80) (hX : ∀ i, n ≤ i → X i = -1) (hc : ∀ i, i < n → ∃ c, 32 ≤ c ∧ c ≤ 126 ∧ X i = nI c) (d : Nat) {h : q_S} (t : tp_R h n X) {i : Nat} (hi : i ≤ n) (g : ¬ qg_f (X i)) (e : h.1 67 36 = nI i) : q_sem (d + 2) 188 h [.ref 67] = some (h, some (.int (-1))) := by
  rw [m188, s186 hn hX hc _ t hi e, q_c1_s, s120n _ _ g, q_c1_s, if_pos rfl]
def qd_nw (X : Nat → Int32) : Nat → Nat → Int32
  | 0, i => qd_nv X i
  | j + 1, i => qd_nw X j (qd_ne X i + 1)
theorem st69 (O : q_O) (f : Nat) {h h1 : q_S} {j a : Nat} {x1 v : Int32} (hj : j ≤ 2) (ha : a < 40) (e : O 188 h [.ref 67] = some (h1, some (.int v))) (ep : ¬ v < 0) (e37 : h1.1 67 37 = nI a) : q_go e_189 q_X0 O (f + 2) 69 [(0, .ref 67), (1, .int x1), (2, .int (nI j))] [] h = q_go e_189 q_X0 O f 39 [(0, .ref 67), (1, .int x1), (2, .int (nI (j + 1)))] [] (q_si h1 (94 + j) a v) := by
  rw [b189_69, e, q_c1_s, if_neg ep]
  rcases (by omega : j = 0 ∨ j = 1 ∨ j = 2) with rfl | rfl | rfl
  · rw [if_pos (by decide), e37, q_ix_n ha (by decide), if_neg (by decide), b189_109, if_neg (by decide), nI_p1]
  · rw [if_neg (by decide), if_pos (by decide), e37, q_ix_n ha (by decide), b189_109, if_neg (by decide), nI_p1]
  · rw [if_neg (by decide), if_neg (by decide), b189_109, if_pos (by decide), e37, q_ix_n ha (by decide), nI_p1]
def fr_R (h h2 : q_S) (b0 a : Nat) : Prop := (∀ b c, ¬ (b = 67 ∧ (c = 36 ∨ c = 37)) → ¬ (b0 ≤ b ∧ b ≤ 96 ∧ c = a) → h2.1 b c = h.1 b c) ∧ h2.2 = h.2
theorem fr_tr {h h2 h3 : q_S} {b0 b1 a : Nat} (x : fr_R h h2 b0 a) (y : fr_R h2 h3 b1 a) (hb : b0 ≤ b1) : fr_R h h3 b0 a := ⟨fun b c p q => (y.1 b c p (by omega)).trans (x.1 b c p q), y.2.trans x.2⟩
theorem l189 {X : Nat → Int32} {n : Nat} (hn : n ≤ 80) (hX : ∀ i, n ≤ i → X i = -1) (hc : ∀ i, i < n → ∃ c, 32 ≤ c ∧ c ≤ 126 ∧ X i = nI c) (d K a : Nat) (hK : K ≤ 3) (ha : a < 40) : ∀ m j i f h, j + (m + 1) = K → i ≤ n → 3 * m + 3 < f → tp_R h n X → h.1 67 36 = nI i → h.1 67 37 = nI a → (match qd_ns X (m + 1) i with
    | .inl p => ∃ h2, q_go e_189 q_X0 (q_sem (d + 2)) f 69 [(0, .ref 67), (1, .int (nI K)), (2, .int (nI j))] [] h = some (h2, some (.int 0)) ∧ h2.1 67 36 = nI p ∧ fr_R h h2 (94 + j) a
    | .inr e => ∃ h2, q_go e_189 q_X0 (q_sem (d + 2)) f 69 [(0, .ref 67), (1, .int (nI K)), (2, .int (nI j))] [] h = some (h2, some (.int 1)) ∧ h2.1 67 36 = nI e ∧ h2.1 67 37 = nI (a + 1) ∧ (∀ u, u ≤ m → h2.1 (94 + j + u) a = qd_nw X u i) ∧ fr_R h h2 (94 + j) a) := by
  intro m
  induction m with
  | zero =>
    intro j i f h hj hi hf t e36 e37
    rw [qd_ns]
    by_cases g : qg_f (X i)
    · obtain ⟨h1, s1, s2, s3, s4⟩ := s188p hn hX hc d t g e36
      obtain ⟨f, rfl⟩ : ∃ g, f = g + 1 + 2 := ⟨f - 3, by omega⟩
      rw [if_pos g, if_pos rfl]
      have e37' : (q_si h1 (94 + j) a (qd_nv X i)).1 67 37 = nI a := by rw [qw_si_ne (by omega), s3 _ _ (by omega), e37]
      refine ⟨q_si (q_si h1 (94 + j) a (qd_nv X i)) 67 37 (nI (a + 1)), ?_, ?_, qw_si_eq .., fun u hu => ?_, fun b c p q => ?_, s4⟩
      · rw [st69 (q_sem (d + 2)) (f + 1) (by omega) ha s1 (nv_pos hn hX hc g) (by rw [s3 _ _ (by omega), e37]), b189_39, if_neg (by rw [nI_lt_iff (by omega) (by omega)]; omega), e37', nI_p1]
      · rw [qw_si_ne (by omega), qw_si_ne (by omega), s2]
      · have : u = 0 := by omega
        subst this
        rw [qw_si_ne (by omega), Nat.add_zero, qw_si_eq]
        rfl
      · rw [qw_si_ne (by omega), qw_si_ne (by omega), s3 _ _ (by omega)]
    · obtain ⟨f, rfl⟩ : ∃ g, f = g + 1 := ⟨f - 1, by omega⟩
      rw [if_neg g]
      exact ⟨h, by rw [b189_69, s188n hn hX hc d t hi g e36, q_c1_s, if_pos (by decide)], e36, fun _ _ _ _ => rfl, rfl⟩
  | succ m ih =>
    intro j i f h hj hi hf t e36 e37
    rw [qd_ns]
    by_cases g : qg_f (X i)
    · have nl := ne_le hX g
      obtain ⟨h1, s1, s2, s3, s4⟩ := s188p hn hX hc d t g e36
      obtain ⟨f, rfl⟩ : ∃ g, f = g + 1 + 2 := ⟨f - 3, by omega⟩
      rw [if_pos g, if_neg (by omega)]
      have e36' : (q_si h1 (94 + j) a (qd_nv X i)).1 67 36 = nI (qd_ne X i) := by rw [qw_si_ne (by omega), s2]
      have t2 : tp_R (q_si h1 (94 + j) a (qd_nv X i)) n X := tp_fr t (fun b c q => by rw [qw_si_ne (by omega), s3 _ _ (by omega)])
      have fr1 : fr_R h (q_si h1 (94 + j) a (qd_nv X i)) (94 + j) a := ⟨fun b c p q => by rw [qw_si_ne (by omega), s3 _ _ (by omega)], s4⟩
      have start : ∀ res : Option (q_S × Option Value), (if X (qd_ne X i) = 44 then q_go e_189 q_X0 (q_sem (d + 2)) f 69 [(0, .ref 67), (1, .int (nI K)), (2, .int (nI (j + 1)))] [] (q_si (q_si h1 (94 + j) a (qd_nv X i)) 67 36 (nI (qd_ne X i + 1))) else some (q_si h1 (94 + j) a (qd_nv X i), some (.int 0))) = res → q_go e_189 q_X0 (q_sem (d + 2)) (f + 1 + 2) 69 [(0, .ref 67), (1, .int (nI K)), (2, .int (nI j))] [] h = res := by
        intro res r
        rw [st69 (q_sem (d + 2)) (f + 1) (by omega) ha s1 (nv_pos hn hX hc g) (by rw [s3 _ _ (by omega), e37]), b189_39, if_pos (by rw [nI_lt_iff (by omega) (by omega)]; omega), if_pos (by rw [nI_pos_iff (by omega)]; omega), s186 hn hX hc _ t2 nl e36', q_c1_s, e36', nI_p1]
        exact r
      by_cases q : X (qd_ne X i) = 44
      · have el : qd_ne X i < n := X_lt hX (by rw [q]; decide)
        rw [if_pos q] at start
        rw [if_pos q]
        have ih := ih (j + 1) (qd_ne X i + 1) f (q_si (q_si h1 (94 + j) a (qd_nv X i)) 67 36 (nI (qd_ne X i + 1))) (by omega) (by omega) (by omega) (tp_fr t2 (fun b c q => qw_si_ne (by omega))) (qw_si_eq ..) (by rw [qw_si_ne (by omega), qw_si_ne (by omega), s3 _ _ (by omega), e37])
        have fr2 : fr_R h (q_si (q_si h1 (94 + j) a (qd_nv X i)) 67 36 (nI (qd_ne X i + 1))) (94 + j) a := ⟨fun b c p q => by rw [qw_si_ne (by omega)]; exact fr1.1 b c p q, s4⟩
        cases hq : qd_ns X (m + 1) (qd_ne X i + 1) with
        | inl p =>
          rw [hq] at ih
          obtain ⟨h2, i1, i2, i3⟩ := ih
          exact ⟨h2, start _ i1, i2, fr_tr fr2 i3 (by omega)⟩
        | inr e =>
          rw [hq] at ih
          obtain ⟨h2, i1, i2, i3, i4, i5⟩ := ih
          refine ⟨h2, start _ i1, i2, i3, fun u hu => ?_, fr_tr fr2 i5 (by omega)⟩
          cases u with
          | zero =>
            rw [i5.1 _ _ (by omega) (by omega), qw_si_ne (by omega), Nat.add_zero, qw_si_eq]
            rfl
          | succ u =>
            rw [show 94 + j + (u + 1) = 94 + (j + 1) + u by omega, i4 u (by omega)]
            rfl
      · rw [if_neg q] at start
        rw [if_neg q]
        exact ⟨_, start _ rfl, e36', fr1⟩
    · obtain ⟨f, rfl⟩ : ∃ g, f = g + 1 := ⟨f - 1, by omega⟩
      rw [if_neg g]
      exact ⟨h, by rw [b189_69, s188n hn hX hc d t hi g e36, q_c1_s, if_pos (by decide)], e36, fun _ _ _ _ => rfl, rfl⟩
theorem s189 {X : Nat → Int32} {n : Nat} (hn : n ≤ 80) (hX : ∀ i, n ≤ i → X i = -1) (hc : ∀ i, i < n → ∃ c, 32 ≤ c ∧ c ≤ 126 ∧ X i = nI c) (d a i : Nat) (hi : i ≤ n) (ha : i < n → a < 40) {h : q_S} (t : tp_R h n X) (e36 : h.1 67 36 = nI i) (e37 : h.1 67 37 = nI a) : (match qd_ac X i with
    | .inl p => ∃ h2, q_sem (d + 3) 189 h [.ref 67] = some (h2, some (.int 0)) ∧ h2.1 67 36 = nI p ∧ fr_R h h2 93 a
    | .inr e => ∃ h2, q_sem (d + 3) 189 h [.ref 67] = some (h2, some (.int 1)) ∧ h2.1 67 36 = nI e ∧ h2.1 67 37 = nI (a + 1) ∧ h2.1 93 a = X i ∧ (∀ u, u < qd_nk (X i) → h2.1 (94 + u) a = qd_nw X u (i + 1)) ∧ fr_R h h2 93 a) := by
  rw [qd_ac]
  by_cases z : qd_nk (X i) = 9
  · rw [if_pos z]
    exact ⟨h, by rw [m189, s186 hn hX hc _ t hi e36, q_c1_s, s187, q_c1_s, qd_nb, if_pos z, if_pos (by decide)], e36, fun _ _ _ _ => rfl, rfl⟩
  · have il := X_lt hX (i := i) (fun q => z (by rw [q]; decide))
    have ha := ha il
    have k3 : qd_nk (X i) ≤ 3 := by
      rcases nk_le (X i) with q | q
      · exact absurd q z
      · exact q
    rw [if_neg z]
    have start : ∀ res : Option (q_S × Option Value), q_go e_189 q_X0 (q_sem (d + 2)) 999 39 [(0, .ref 67), (1, .int (nI (qd_nk (X i)))), (2, .int 0)] [] (q_si (q_si h 93 a (X i)) 67 36 (nI (i + 1))) = res → q_sem (d + 3) 189 h [.ref 67] = res := by
      intro res r
      rw [m189, s186 hn hX hc _ t hi e36, q_c1_s, s187, q_c1_s, qd_nb, if_neg z, if_neg (nI_lt0 (by omega)), s186 hn hX hc _ t hi e36, q_c1_s, e37, q_ix_n ha (by decide), e36, nI_p1]
      exact r
    have fr1 : fr_R h (q_si (q_si h 93 a (X i)) 67 36 (nI (i + 1))) 93 a := ⟨fun b c p q => by rw [qw_si_ne (by omega), qw_si_ne (by omega)], rfl⟩
    have f37 : (q_si (q_si h 93 a (X i)) 67 36 (nI (i + 1))).1 67 37 = nI a := by rw [qw_si_ne (by omega), qw_si_ne (by omega), e37]
    have t2 : tp_R (q_si (q_si h 93 a (X i)) 67 36 (nI (i + 1))) n X := tp_fr t (fun b c q => by rw [qw_si_ne (by omega), qw_si_ne (by omega)])
    rcases Nat.eq_zero_or_pos (qd_nk (X i)) with k0 | k0
    · rw [k0, qd_ns]
      rw [k0] at start
      refine ⟨q_si (q_si (q_si h 93 a (X i)) 67 36 (nI (i + 1))) 67 37 (nI (a + 1)), start _ ?_, by rw [qw_si_ne (by omega), qw_si_eq], qw_si_eq .., by rw [qw_si_ne (by omega), qw_si_ne (by omega), qw_si_eq], fun u hu => absurd hu (Nat.not_lt_zero _), fun b c p q => by rw [qw_si_ne (by omega)]; exact fr1.1 b c p q, rfl⟩
      rw [b189_39, if_neg (by decide), f37, nI_p1]
    · obtain ⟨m, hm⟩ : ∃ m, qd_nk (X i) = m + 1 := ⟨qd_nk (X i) - 1, by omega⟩
      have L := l189 hn hX hc d (m + 1) a (by omega) ha m 0 (i + 1) 998 _ (by omega) (by omega) (by omega) t2 (qw_si_eq ..) f37
      have start2 : ∀ res : Option (q_S × Option Value), q_go e_189 q_X0 (q_sem (d + 2)) 998 69 [(0, .ref 67), (1, .int (nI (m + 1))), (2, .int (nI 0))] [] (q_si (q_si h 93 a (X i)) 67 36 (nI (i + 1))) = res → q_sem (d + 3) 189 h [.ref 67] = res := by
        intro res r
        refine start _ ?_
        rw [hm, b189_39, if_pos (by rw [nI_pos_iff (by omega)]; omega), if_neg (by decide)]
        exact r
      rw [hm]
      cases hq : qd_ns X (m + 1) (i + 1) with
      | inl p =>
        rw [hq] at L
        obtain ⟨h2, i1, i2, i3⟩ := L
        exact ⟨h2, start2 _ i1, i2, fr_tr fr1 i3 (by omega)⟩
      | inr e =>
        rw [hq] at L
        obtain ⟨h2, i1, i2, i3, i4, i5⟩ := L
        refine ⟨h2, start2 _ i1, i2, i3, ?_, fun u hu => ?_, fr_tr fr1 i5 (by omega)⟩
        · rw [i5.1 _ _ (by omega) (by omega), qw_si_ne (by omega), qw_si_eq]
        · have := i4 u (by omega)
          rwa [Nat.add_zero] at this
/-- where act b begins -/
def qd_sa (X : Nat → Int32) : Nat → Nat
  | 0 => 0
  | b + 1 => match qd_ac X (qd_sa X b) with
    | .inl p => p + 1
    | .inr e => e + 1
theorem sa_s {X : Nat → Int32} {b e : Nat} (h : qd_ac X (qd_sa X b) = .inr e) : qd_sa X (b + 1) = e + 1 := by
  rw [qd_sa, h]
/-- the acts that were read -/
def rc_R (h : q_S) (X : Nat → Int32) (A : Nat) : Prop := ∀ b, b < A → h.1 93 b = X (qd_sa X b) ∧ ∀ u, u < qd_nk (X (qd_sa X b)) → h.1 (94 + u) b = qd_nw X u (qd_sa X b + 1)
def qd_ok (X : Nat → Int32) (n A : Nat) : Prop := A ≤ 40 ∧ (∀ b, b < A → ∃ e, qd_ac X (qd_sa X b) = .inr e ∧ ¬ qg_f (X e)) ∧ qd_sa X A = n + 1
theorem rc_fr {h h2 : q_S} {X : Nat → Int32} {A b0 : Nat} (hb : 93 ≤ b0) (r : rc_R h X A) (f : fr_R h h2 b0 A) : rc_R h2 X A := fun b hb => ⟨(f.1 _ _ (by omega) (by omega)).trans (r b hb).1, fun u hu => (f.1 _ _ (by omega) (by omega)).trans ((r b hb).2 u hu)⟩
theorem l190 {X : Nat → Int32} {n : Nat} (hn : n ≤ 80) (hX : ∀ i, n ≤ i → X i = -1) (hc : ∀ i, i < n → ∃ c, 32 ≤ c ∧ c ≤ 126 ∧ X i = nI c) (d : Nat) : ∀ g a e f h, n - e < g → e ≤ n → 2 * (a + 1) ≤ e + 1 → g + 1 < f → tp_R h n X → h.1 67 36 = nI e → h.1 67 37 = nI (a + 1) → qd_ac X (qd_sa X a) = .inr e → (∀ b, b < a → ∃ e, qd_ac X (qd_sa X b) = .inr e ∧ ¬ qg_f (X e)) → rc_R h X (a + 1) → (match (if X e = 59 then qd_fl X n g (e + 1) else if e = n then none else some e) with
    | some p => ∃ h2, q_go e_190 q_X0 (q_sem (d + 3)) f 15 [(0, .ref 67), (1, .int 1)] [] h = some (h2, some (.int 0)) ∧ h2.1 67 36 = nI p ∧ (∀ b c, ¬ (b = 67 ∧ (c = 36 ∨ c = 37)) → ¬ (93 ≤ b ∧ b ≤ 96) → h2.1 b c = h.1 b c) ∧ h2.2 = h.2
    | none => ∃ h2 A, q_go e_190 q_X0 (q_sem (d + 3)) f 15 [(0, .ref 67), (1, .int 1)] [] h = some (h2, some (.int 1)) ∧ h2.1 67 37 = nI A ∧ qd_ok X n A ∧ rc_R h2 X A ∧ (∀ b c, ¬ (b = 67 ∧ (c = 36 ∨ c = 37)) → ¬ (93 ≤ b ∧ b ≤ 96) → h2.1 b c = h.1 b c) ∧ h2.2 = h.2) := by
  intro g
  induction g with
  | zero => intro a e f h hg; omega
  | succ g ih =>
    intro a e f h hg he ha hf t e36 e37 hac hacs rc
    obtain ⟨f, rfl⟩ : ∃ g, f = g + 1 + 1 := ⟨f - 2, by omega⟩
    by_cases q : X e = 59
    · have el : e < n := X_lt hX (by rw [q]; decide)
      have sa := sa_s hac
      have t2 : tp_R (q_si h 67 36 (nI (e + 1))) n X := tp_fr t (fun b c q => qw_si_ne (by omega))
      have S := s189 hn hX hc d (a + 1) (e + 1) (by omega) (by omega) t2 (qw_si_eq ..) (by rw [qw_si_ne (by omega), e37])
      have start : ∀ (h3 : q_S) (v4 : Int32), q_sem (d + 3) 189 (q_si h 67 36 (nI (e + 1))) [.ref 67] = some (h3, some (.int v4)) → ∀ res : Option (q_S × Option Value), q_go e_190 q_X0 (q_sem (d + 3)) (f + 1) 15 [(0, .ref 67), (1, .int v4)] [] h3 = res → q_go e_190 q_X0 (q_sem (d + 3)) (f + 1 + 1) 15 [(0, .ref 67), (1, .int 1)] [] h = res := by
        intro h3 v4 s res r
        rw [b190_15, if_neg (by decide), s186 hn hX hc _ t he e36, q_c1_s, if_pos q, e36, nI_p1, s, q_c1_s]
        exact r
      rw [if_pos q, qd_fl]
      cases hq : qd_ac X (e + 1) with
      | inl p =>
        rw [hq] at S
        obtain ⟨h2, i1, i2, i3⟩ := S
        refine ⟨h2, start h2 0 i1 _ ?_, i2, fun b c p q => ?_, i3.2⟩
        · obtain ⟨f, rfl⟩ : ∃ g, f = g + 1 := ⟨f - 1, by omega⟩
          rw [b190_15, if_pos rfl, b190_46, if_pos rfl]
        · rw [i3.1 _ _ p (by omega), qw_si_ne (by omega)]
      | inr e' =>
        rw [hq] at S
        obtain ⟨h2, i1, i2, i3, i4, i5, i6⟩ := S
        have bd := ac_bd hX hq
        have fr : ∀ b c, ¬ (b = 67 ∧ (c = 36 ∨ c = 37)) → ¬ (93 ≤ b ∧ b ≤ 96) → h2.1 b c = h.1 b c := fun b c p q => by rw [i6.1 _ _ p (by omega), qw_si_ne (by omega)]
        have ih := ih (a + 1) e' (f + 1) h2 (by omega) (by omega) (by omega) (by omega) (tp_fr t (fun b c q => fr b c (by omega) (by omega))) i2 i3 (by rw [sa]; exact hq) (fun b hb => by
          by_cases w : b = a
          · subst w; exact ⟨e, hac, by rw [q]; exact nf_59⟩
          · exact hacs b (by omega)) (fun b hb => by
          by_cases w : b = a + 1
          · subst w; rw [sa]; exact ⟨i4, i5⟩
          · have r := rc b (by omega)
            exact ⟨by rw [i6.1 _ _ (by omega) (by omega), qw_si_ne (by omega)]; exact r.1, fun u hu => by rw [i6.1 _ _ (by omega) (by omega), qw_si_ne (by omega)]; exact r.2 u hu⟩)
        show match (if X e' = 59 then qd_fl X n g (e' + 1) else if e' = n then none else some e') with
          | some p => _
          | none => _
        cases hz : (if X e' = 59 then qd_fl X n g (e' + 1) else if e' = n then none else some e') with
        | some p =>
          rw [hz] at ih
          obtain ⟨h3, j1, j2, j3, j4⟩ := ih
          exact ⟨h3, start h2 1 i1 _ j1, j2, fun b c p q => (j3 b c p q).trans (fr b c p q), j4.trans i6.2⟩
        | none =>
          rw [hz] at ih
          obtain ⟨h3, A, j1, j2, j3, j4, j5, j6⟩ := ih
          exact ⟨h3, A, start h2 1 i1 _ j1, j2, j3, j4, fun b c p q => (j5 b c p q).trans (fr b c p q), j6.trans i6.2⟩
    · have start : ∀ res : Option (q_S × Option Value), (if h.1 67 36 = h.1 67 35 then some (h, some (.int 1)) else some (h, some (.int 0))) = res → q_go e_190 q_X0 (q_sem (d + 3)) (f + 1 + 1) 15 [(0, .ref 67), (1, .int 1)] [] h = res := by
        intro res r
        rw [b190_15, if_neg (by decide), s186 hn hX hc _ t he e36, q_c1_s, if_neg q, b190_46, if_neg (by decide)]
        exact r
      rw [if_neg q]
      rw [e36, t.1] at start
      by_cases w : e = n
      · rw [if_pos w]
        refine ⟨h, a + 1, start _ (if_pos (by rw [w])), e37, ⟨by omega, fun b hb => ?_, by rw [sa_s hac, w]⟩, rc, fun _ _ _ _ => rfl, rfl⟩
        by_cases v : b = a
        · subst v; exact ⟨e, hac, by rw [hX e (by omega)]; exact nf_m1⟩
        · exact hacs b (by omega)
      · rw [if_neg w]
        exact ⟨h, start _ (if_neg (by rw [nI_eq_iff (by omega) (by omega)]; exact w)), e36, fun _ _ _ _ => rfl, rfl⟩
theorem s190 {X : Nat → Int32} {n : Nat} (hn : n ≤ 80) (hX : ∀ i, n ≤ i → X i = -1) (hc : ∀ i, i < n → ∃ c, 32 ≤ c ∧ c ≤ 126 ∧ X i = nI c) (d : Nat) {h : q_S} (t : tp_R h n X) : (match qd_fl X n (n + 1) 0 with
    | some p => ∃ h2, q_sem (d + 4) 190 h [.ref 67] = some (h2, some (.int 0)) ∧ h2.1 67 36 = nI p ∧ (∀ b c, ¬ (b = 67 ∧ (c = 36 ∨ c = 37)) → ¬ (93 ≤ b ∧ b ≤ 96) → h2.1 b c = h.1 b c) ∧ h2.2 = h.2
    | none => ∃ h2 A, q_sem (d + 4) 190 h [.ref 67] = some (h2, some (.int 1)) ∧ h2.1 67 37 = nI A ∧ qd_ok X n A ∧ rc_R h2 X A ∧ (∀ b c, ¬ (b = 67 ∧ (c = 36 ∨ c = 37)) → ¬ (93 ≤ b ∧ b ≤ 96) → h2.1 b c = h.1 b c) ∧ h2.2 = h.2) := by
  have fr0 : ∀ b c, ¬ (b = 67 ∧ (c = 36 ∨ c = 37)) → (q_si (q_si h 67 36 0) 67 37 0).1 b c = h.1 b c := fun b c q => by rw [qw_si_ne (by omega), qw_si_ne (by omega)]
  have S := s189 hn hX hc d 0 0 (by omega) (by omega) (h := q_si (q_si h 67 36 0) 67 37 0) (tp_fr t (fun b c q => fr0 b c (by omega))) (by rw [qw_si_ne (by omega), qw_si_eq]; rfl) (by rw [qw_si_eq]; rfl)
  rw [qd_fl]
  cases hq : qd_ac X 0 with
  | inl p =>
    rw [hq] at S
    obtain ⟨h2, i1, i2, i3⟩ := S
    exact ⟨h2, by rw [m190, i1, q_c1_s, b190_15, if_pos rfl, b190_46, if_pos rfl], i2, fun b c p q => (i3.1 _ _ p (by omega)).trans (fr0 b c p), i3.2⟩
  | inr e =>
    rw [hq] at S
    obtain ⟨h2, i1, i2, i3, i4, i5, i6⟩ := S
    have bd := ac_bd hX hq
    have fr : ∀ b c, ¬ (b = 67 ∧ (c = 36 ∨ c = 37)) → ¬ (93 ≤ b ∧ b ≤ 96) → h2.1 b c = h.1 b c := fun b c p q => (i6.1 _ _ p (by omega)).trans (fr0 b c p)
    have L := l190 hn hX hc d n 0 e 999 h2 (by omega) (by omega) (by omega) (by omega) (tp_fr t (fun b c q => fr b c (by omega) (by omega))) i2 i3 hq (fun b hb => absurd hb (Nat.not_lt_zero _)) (fun b hb => by
      have : b = 0 := by omega
      subst this
      exact ⟨i4, i5⟩)
    show match (if X e = 59 then qd_fl X n n (e + 1) else if e = n then none else some e) with
      | some p => _
      | none => _
    cases hz : (if X e = 59 then qd_fl X n n (e + 1) else if e = n then none else some e) with
    | some p =>
      rw [hz] at L
      obtain ⟨h3, j1, j2, j3, j4⟩ := L
      exact ⟨h3, by rw [m190, i1, q_c1_s]; exact j1, j2, fun b c p q => (j3 b c p q).trans (fr b c p q), j4.trans i6.2⟩
    | none =>
      rw [hz] at L
      obtain ⟨h3, A, j1, j2, j3, j4, j5, j6⟩ := L
      exact ⟨h3, A, by rw [m190, i1, q_c1_s]; exact j1, j2, j3, j4, fun b c p q => (j5 b c p q).trans (fr b c p q), j6.trans i6.2⟩
