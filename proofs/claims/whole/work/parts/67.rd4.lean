/-! ===== read ===== -/
theorem ix30 {f : Nat → q_A} : q_ix 0 3 f = f 0 := rfl
theorem ix31 {f : Nat → q_A} : q_ix 1 3 f = f 1 := rfl
theorem ix32 {f : Nat → q_A} : q_ix 2 3 f = f 2 := rfl
/-- both do an act alike -/
def qd_al (x : Int32) (V : Nat → Int32) : Prop := ∀ s, qs_ok s → ∃ (v : Int32) (s' : qs), qs_ok s' ∧ qk s s' ∧ (∀ (d : Nat) (h : q_S), qs_C h s → (∀ u, u < qd_nk x → h.1 59 u = V u) → ∃ h1, q_sem (d + 15) 119 h [.ref 0, .int x] = some (h1, some (.int v)) ∧ qs_C h1 s' ∧ qf_C h h1) ∧ (∀ (d : Nat) (h : q_S) (a : Nat), a < 40 → qs_Q h s → h.1 93 a = x → (∀ u, u < qd_nk x → h.1 (94 + u) a = V u) → ∃ h1, q_sem (d + 15) 191 h [.ref 67, .int (nI a)] = some (h1, some (.int v)) ∧ qs_Q h1 s' ∧ qf_R h h1)
theorem al_98 (V : Nat → Int32) : qd_al 98 V := by
  intro s hs
  obtain ⟨v, s', a1, a2, a3, a4⟩ := k64f 2 (V 0) (V 1) s hs
  refine ⟨v, s', a1, a2, fun d h hc hv => ?_, fun d h a ha hc e hv => ?_⟩
  · obtain ⟨h1, b1, b2⟩ := a3 d h hc
    exact ⟨h1, by rw [m119, if_pos rfl, ix30, ix31, hv 0 (by decide), hv 1 (by decide), b1, q_c1_s], b2⟩
  · obtain ⟨h1, b1, b2⟩ := a4 d h hc
    exact ⟨h1, by rw [m191, q_ix_n ha (by decide), e, if_pos rfl, q_ix_n ha (by decide), q_ix_n ha (by decide), show h.1 94 a = V 0 from hv 0 (by decide), show h.1 95 a = V 1 from hv 1 (by decide), b1, q_c1_s], b2⟩
theorem al_100 (V : Nat → Int32) : qd_al 100 V := by
  intro s hs
  obtain ⟨v, s', a1, a2, a3, a4⟩ := k61f (V 0) (V 1) (V 2) s hs
  refine ⟨v, s', a1, a2, fun d h hc hv => ?_, fun d h a ha hc e hv => ?_⟩
  · obtain ⟨h1, b1, b2⟩ := a3 d h hc
    exact ⟨h1, by rw [m119, if_neg (by decide), if_neg (by decide), if_pos rfl, ix30, ix31, ix32, hv 0 (by decide), hv 1 (by decide), hv 2 (by decide), b1, q_c1_s], b2⟩
  · obtain ⟨h1, b1, b2⟩ := a4 d h hc
    exact ⟨h1, by rw [m191, q_ix_n ha (by decide), e, if_neg (by decide), if_neg (by decide), if_pos rfl, q_ix_n ha (by decide), q_ix_n ha (by decide), q_ix_n ha (by decide), show h.1 94 a = V 0 from hv 0 (by decide), show h.1 95 a = V 1 from hv 1 (by decide), show h.1 96 a = V 2 from hv 2 (by decide), b1, q_c1_s], b2⟩
theorem al_103 (V : Nat → Int32) : qd_al 103 V := by
  intro s hs
  obtain ⟨v, s', a1, a2, a3, a4⟩ := k64f 3 (V 0) (V 1) s hs
  refine ⟨v, s', a1, a2, fun d h hc hv => ?_, fun d h a ha hc e hv => ?_⟩
  · obtain ⟨h1, b1, b2⟩ := a3 d h hc
    exact ⟨h1, by rw [m119, if_neg (by decide), if_neg (by decide), if_neg (by decide), if_neg (by decide), if_neg (by decide), if_pos rfl, ix30, ix31, hv 0 (by decide), hv 1 (by decide), b1, q_c1_s], b2⟩
  · obtain ⟨h1, b1, b2⟩ := a4 d h hc
    exact ⟨h1, by rw [m191, q_ix_n ha (by decide), e, if_neg (by decide), if_neg (by decide), if_neg (by decide), if_neg (by decide), if_neg (by decide), if_pos rfl, q_ix_n ha (by decide), q_ix_n ha (by decide), show h.1 94 a = V 0 from hv 0 (by decide), show h.1 95 a = V 1 from hv 1 (by decide), b1, q_c1_s], b2⟩
theorem al_105 (V : Nat → Int32) : qd_al 105 V := by
  intro s hs
  obtain ⟨v, s', a1, a2, a3, a4⟩ := k64f 0 (V 0) (V 1) s hs
  refine ⟨v, s', a1, a2, fun d h hc hv => ?_, fun d h a ha hc e hv => ?_⟩
  · obtain ⟨h1, b1, b2⟩ := a3 d h hc
    exact ⟨h1, by rw [m119, if_neg (by decide), if_neg (by decide), if_neg (by decide), if_neg (by decide), if_neg (by decide), if_neg (by decide), if_neg (by decide), if_pos rfl, ix30, ix31, hv 0 (by decide), hv 1 (by decide), b1, q_c1_s], b2⟩
  · obtain ⟨h1, b1, b2⟩ := a4 d h hc
    exact ⟨h1, by rw [m191, q_ix_n ha (by decide), e, if_neg (by decide), if_neg (by decide), if_neg (by decide), if_neg (by decide), if_neg (by decide), if_neg (by decide), if_neg (by decide), if_pos rfl, q_ix_n ha (by decide), q_ix_n ha (by decide), show h.1 94 a = V 0 from hv 0 (by decide), show h.1 95 a = V 1 from hv 1 (by decide), b1, q_c1_s], b2⟩
theorem al_107 (V : Nat → Int32) : qd_al 107 V := by
  intro s hs
  obtain ⟨v, s', a1, a2, a3, a4⟩ := k64f 1 (V 0) (V 1) s hs
  refine ⟨v, s', a1, a2, fun d h hc hv => ?_, fun d h a ha hc e hv => ?_⟩
  · obtain ⟨h1, b1, b2⟩ := a3 d h hc
    exact ⟨h1, by rw [m119, if_neg (by decide), if_neg (by decide), if_neg (by decide), if_neg (by decide), if_neg (by decide), if_neg (by decide), if_neg (by decide), if_neg (by decide), if_neg (by decide), if_pos rfl, ix30, ix31, hv 0 (by decide), hv 1 (by decide), b1, q_c1_s], b2⟩
  · obtain ⟨h1, b1, b2⟩ := a4 d h hc
    exact ⟨h1, by rw [m191, q_ix_n ha (by decide), e, if_neg (by decide), if_neg (by decide), if_neg (by decide), if_neg (by decide), if_neg (by decide), if_neg (by decide), if_neg (by decide), if_neg (by decide), if_neg (by decide), if_pos rfl, q_ix_n ha (by decide), q_ix_n ha (by decide), show h.1 94 a = V 0 from hv 0 (by decide), show h.1 95 a = V 1 from hv 1 (by decide), b1, q_c1_s], b2⟩
theorem al_110 (V : Nat → Int32) : qd_al 110 V := by
  intro s hs
  obtain ⟨v, s', a1, a2, a3, a4⟩ := k64f 4 0 (V 0) s hs
  refine ⟨v, s', a1, a2, fun d h hc hv => ?_, fun d h a ha hc e hv => ?_⟩
  · obtain ⟨h1, b1, b2⟩ := a3 d h hc
    exact ⟨h1, by rw [m119, if_neg (by decide), if_neg (by decide), if_neg (by decide), if_neg (by decide), if_neg (by decide), if_neg (by decide), if_neg (by decide), if_neg (by decide), if_neg (by decide), if_neg (by decide), if_neg (by decide), if_neg (by decide), if_pos rfl, ix30, hv 0 (by decide), b1, q_c1_s], b2⟩
  · obtain ⟨h1, b1, b2⟩ := a4 d h hc
    exact ⟨h1, by rw [m191, q_ix_n ha (by decide), e, if_neg (by decide), if_neg (by decide), if_neg (by decide), if_neg (by decide), if_neg (by decide), if_neg (by decide), if_neg (by decide), if_neg (by decide), if_neg (by decide), if_neg (by decide), if_neg (by decide), if_neg (by decide), if_pos rfl, q_ix_n ha (by decide), show h.1 94 a = V 0 from hv 0 (by decide), b1, q_c1_s], b2⟩
theorem al_119 (V : Nat → Int32) : qd_al 119 V := by
  intro s hs
  obtain ⟨v, s', a1, a2, a3, a4⟩ := k64f 5 0 (V 0) s hs
  refine ⟨v, s', a1, a2, fun d h hc hv => ?_, fun d h a ha hc e hv => ?_⟩
  · obtain ⟨h1, b1, b2⟩ := a3 d h hc
    exact ⟨h1, by rw [m119, if_neg (by decide), if_neg (by decide), if_neg (by decide), if_neg (by decide), if_neg (by decide), if_neg (by decide), if_neg (by decide), if_neg (by decide), if_neg (by decide), if_neg (by decide), if_neg (by decide), if_neg (by decide), if_neg (by decide), if_neg (by decide), if_neg (by decide), if_neg (by decide), if_neg (by decide), if_neg (by decide), if_neg (by decide), if_neg (by decide), if_neg (by decide), if_pos rfl, ix30, hv 0 (by decide), b1, q_c1_s], b2⟩
  · obtain ⟨h1, b1, b2⟩ := a4 d h hc
    exact ⟨h1, by rw [m191, q_ix_n ha (by decide), e, if_neg (by decide), if_neg (by decide), if_neg (by decide), if_neg (by decide), if_neg (by decide), if_neg (by decide), if_neg (by decide), if_neg (by decide), if_neg (by decide), if_neg (by decide), if_neg (by decide), if_neg (by decide), if_neg (by decide), if_neg (by decide), if_neg (by decide), if_neg (by decide), if_neg (by decide), if_neg (by decide), if_neg (by decide), if_neg (by decide), if_neg (by decide), if_pos rfl, q_ix_n ha (by decide), show h.1 94 a = V 0 from hv 0 (by decide), b1, q_c1_s], b2⟩
theorem al_120 (V : Nat → Int32) : qd_al 120 V := by
  intro s hs
  obtain ⟨v, s', a1, a2, a3, a4⟩ := k62f s hs
  refine ⟨v, s', a1, a2, fun d h hc hv => ?_, fun d h a ha hc e hv => ?_⟩
  · obtain ⟨h1, b1, b2⟩ := a3 d h hc
    exact ⟨h1, by rw [m119, if_neg (by decide), if_neg (by decide), if_neg (by decide), if_neg (by decide), if_neg (by decide), if_neg (by decide), if_neg (by decide), if_neg (by decide), if_neg (by decide), if_neg (by decide), if_neg (by decide), if_neg (by decide), if_neg (by decide), if_neg (by decide), if_neg (by decide), if_neg (by decide), if_neg (by decide), if_neg (by decide), if_neg (by decide), if_neg (by decide), if_neg (by decide), if_neg (by decide), b1, q_c1_s], b2⟩
  · obtain ⟨h1, b1, b2⟩ := a4 d h hc
    exact ⟨h1, by rw [m191, q_ix_n ha (by decide), e, if_neg (by decide), if_neg (by decide), if_neg (by decide), if_neg (by decide), if_neg (by decide), if_neg (by decide), if_neg (by decide), if_neg (by decide), if_neg (by decide), if_neg (by decide), if_neg (by decide), if_neg (by decide), if_neg (by decide), if_neg (by decide), if_neg (by decide), if_neg (by decide), if_neg (by decide), if_neg (by decide), if_neg (by decide), if_neg (by decide), if_neg (by decide), if_neg (by decide), b1, q_c1_s], b2⟩
theorem al_all {x : Int32} (h : qd_nk x ≠ 9) (V : Nat → Int32) : qd_al x V := by
  rcases nk_in h with rfl | rfl | rfl | rfl | rfl | rfl | rfl | rfl
  · exact al_98 V
  · exact al_100 V
  · exact al_103 V
  · exact al_105 V
  · exact al_107 V
  · exact al_110 V
  · exact al_119 V
  · exact al_120 V
theorem C_at {h h2 : q_S} {s : qs} (f : fr_C h h2 0) (hc : qs_C h s) : qs_C h2 s := by
  obtain ⟨c1, c2, c3, c4, c5, c6, c7, c8⟩ := hc
  have u : ∀ b c, ¬ (b = 57 ∧ c = 2) → b ≠ 59 → h2.1 b c = h.1 b c := fun b c p q => f.1 b c p (by omega)
  exact mk_C (f_c1 (fun a j q => u a j (by omega) (by omega)) c1) (f_c2 (fun a j q => u a j (by omega) (by omega)) (fun _ _ _ => rfl) c2) (f_c3 (fun a j q => u a j (by omega) (by omega)) (fun _ _ _ => rfl) c3) (f_c4 (fun a j q => u a j (by omega) (by omega)) (fun _ _ _ => rfl) c4) ⟨(u _ _ (by omega) (by omega)).trans c5.1, fun i hi => (u _ _ (by omega) (by omega)).trans (c5.2 i hi)⟩ (f_c6 (fun a j q => u a j (by omega) (by omega)) (fun _ _ _ => by rw [f.2]) (fun _ _ _ => rfl) c6) (f_c7 (fun a j q => u a j (by omega) (by omega)) (by rw [f.2]) (fun _ _ _ => rfl) c7) (f_z (fun _ _ _ => by rw [f.2]) c8)
theorem C_tp {h : q_S} {s : qs} (hc : qs_C h s) : qs_C (q_si h 57 1 0) (s.1, s.2.1, qt s.2.2.1 0 3 0, s.2.2.2) := by
  obtain ⟨c1, c2, c3, c4, c5, c6, c7, c8⟩ := hc
  exact mk_C (f_c1 (fun a j q => qw_si_ne (by omega)) c1) (f_c2 (fun a j q => qw_si_ne (by omega)) (fun _ _ _ => qt_ne (by omega)) c2) (f_c3 (fun a j q => qw_si_ne (by omega)) (fun _ _ _ => qt_ne (by omega)) c3) (f_c4 (fun a j q => qw_si_ne (by omega)) (fun _ _ _ => qt_ne (by omega)) c4) ⟨(qw_si_eq ..).trans qt_eq.symm, fun i hi => (qw_si_ne (by omega)).trans ((c5.2 i hi).trans (qt_ne (by omega)).symm)⟩ (f_c6 (fun a j q => qw_si_ne (by omega)) (fun _ _ _ => rfl) (fun _ _ _ => qt_ne (by omega)) c6) (f_c7 (fun a j q => qw_si_ne (by omega)) rfl (fun _ _ _ => qt_ne (by omega)) c7) c8
def fr_Q (h h2 : q_S) : Prop := (∀ b c, ¬ (b = 67 ∧ 35 ≤ c ∧ c ≤ 37) → ¬ (93 ≤ b ∧ b ≤ 96) → h2.1 b c = h.1 b c) ∧ h2.2 = h.2
theorem Q_fr {h h2 : q_S} {s : qs} (f : fr_Q h h2) (hc : qs_Q h s) : qs_Q h2 s := by
  obtain ⟨c1, c2, c3, c4, c6, c7⟩ := hc
  exact mk_Q (f_r1 (fun a j q => f.1 a j (by omega) (by omega)) c1) (f_r2 (fun a j q => f.1 a j (by omega) (by omega)) (fun _ _ _ => rfl) c2) (f_r3 (fun a j q => f.1 a j (by omega) (by omega)) (fun _ _ _ => rfl) c3) (f_r4 (fun a j q => f.1 a j (by omega) (by omega)) (fun _ _ _ => rfl) c4) (f_r6 (fun a j q => f.1 a j (by omega) (by omega)) (fun _ _ _ => by rw [f.2]) (fun _ _ _ => rfl) c6) (f_r7 (fun a j q => f.1 a j (by omega) (by omega)) (fun _ _ _ => rfl) c7)
theorem Q_R {h : q_S} {s : qs} (hc : qs_Q h s) (e : h.1 67 35 = 0) (e2 : ∀ i, i < 80 → h.1 92 i = s.2.2.1 8 i) : qs_R h (s.1, s.2.1, qt s.2.2.1 0 3 0, s.2.2.2) := by
  obtain ⟨c1, c2, c3, c4, c6, c7⟩ := hc
  exact mk_R c1 (f_r2 (fun a j q => rfl) (fun _ _ _ => qt_ne (by omega)) c2) (f_r3 (fun a j q => rfl) (fun _ _ _ => qt_ne (by omega)) c3) (f_r4 (fun a j q => rfl) (fun _ _ _ => qt_ne (by omega)) c4) ⟨e.trans qt_eq.symm, fun i hi => (e2 i hi).trans (qt_ne (by omega)).symm⟩ (f_r6 (fun a j q => rfl) (fun _ _ _ => rfl) (fun _ _ _ => qt_ne (by omega)) c6) (f_r7 (fun a j q => rfl) (fun _ _ _ => qt_ne (by omega)) c7)
theorem R_Q {h : q_S} {s : qs} (hc : qs_R h s) : qs_Q h s := ⟨hc.1, hc.2.1, hc.2.2.1, hc.2.2.2.1, hc.2.2.2.2.2.1, hc.2.2.2.2.2.2⟩
theorem ok_tp {s : qs} (hs : qs_ok s) : qs_ok (s.1, s.2.1, qt s.2.2.1 0 3 0, s.2.2.2) := by
  obtain ⟨a, b, c, d, e, f, g⟩ := hs
  exact mk_ok a (f_im (fun _ _ _ => qt_ne (by omega)) b) (f_or (fun _ _ _ => qt_ne (by omega)) c) (f_ch (fun _ _ _ => qt_ne (by omega)) d) ⟨0, by omega, qt_eq, fun i hi => absurd hi (Nat.not_lt_zero _)⟩ (f_rw (fun _ _ _ => qt_ne (by omega)) f) (f_tc (fun _ _ _ => qt_ne (by omega)) g)
theorem ns_le {X : Nat → Int32} {n : Nat} (hn : n ≤ 80) (hX : ∀ i, n ≤ i → X i = -1) : ∀ k i p, i ≤ n → qd_ns X k i = .inl p → p ≤ n := by
  intro k
  induction k with
  | zero => intro i p _ h; cases h
  | succ k ih =>
    intro i p hi h
    rw [qd_ns] at h
    by_cases g : qg_f (X i)
    · have nl := ne_le hX g
      rw [if_pos g] at h
      by_cases z : k = 0
      · rw [if_pos z] at h; cases h
      · rw [if_neg z] at h
        by_cases q : X (qd_ne X i) = 44
        · have el : qd_ne X i < n := X_lt hX (by rw [q]; decide)
          rw [if_pos q] at h
          exact ih _ _ (by omega) h
        · rw [if_neg q] at h
          injection h with h
          omega
    · rw [if_neg g] at h
      injection h with h
      omega
theorem fl_le {X : Nat → Int32} {n : Nat} (hn : n ≤ 80) (hX : ∀ i, n ≤ i → X i = -1) : ∀ g i p, i ≤ n → qd_fl X n g i = some p → p ≤ n := by
  intro g
  induction g with
  | zero => intro i p hi h; rw [qd_fl] at h; injection h with h; omega
  | succ g ih =>
    intro i p hi h
    rw [qd_fl] at h
    cases hq : qd_ac X i with
    | inl p' =>
      rw [hq] at h
      injection h with h
      rw [qd_ac] at hq
      by_cases z : qd_nk (X i) = 9
      · rw [if_pos z] at hq
        injection hq with hq
        omega
      · have il := X_lt hX (i := i) (fun q => z (by rw [q]; decide))
        rw [if_neg z] at hq
        have := ns_le hn hX _ _ _ (by omega) hq
        omega
    | inr e =>
      rw [hq] at h
      have h : (if X e = 59 then qd_fl X n g (e + 1) else if e = n then none else some e) = some p := h
      have bd := ac_bd hX hq
      by_cases q : X e = 59
      · have el : e < n := X_lt hX (by rw [q]; decide)
        rw [if_pos q] at h
        exact ih _ _ (by omega) h
      · rw [if_neg q] at h
        by_cases w : e = n
        · rw [if_pos w] at h; cases h
        · rw [if_neg w] at h
          injection h with h
          omega
theorem ok_un {X : Nat → Int32} {n A B : Nat} (hX : ∀ i, n ≤ i → X i = -1) (a : qd_ok X n A) (b : qd_ok X n B) : A = B := by
  rcases Nat.lt_trichotomy A B with q | q | q
  · obtain ⟨e, h, -⟩ := b.2.1 A q
    have := ac_bd hX h
    have := a.2.2
    omega
  · exact q
  · obtain ⟨e, h, -⟩ := a.2.1 B q
    have := ac_bd hX h
    have := b.2.2
    omega
theorem qf_tr {h h2 h3 : q_S} (a : qf_R h h2) (b : qf_R h2 h3) : qf_R h h3 := fun x j q => (b x j q).trans (a x j q)
theorem l118 {X : Nat → Int32} {n : Nat} (hn : n ≤ 80) (hX : ∀ i, n ≤ i → X i = -1) (A : Nat) (hA : qd_ok X n A) : ∀ m a s, a + m = A → qs_ok s → s.2.2.1 0 3 = nI n → (∀ i, i < n → s.2.2.1 8 i = X i) → ∃ (v : Int32) (s' : qs), qs_ok s' ∧ qk s s' ∧ (∀ (d f : Nat) (h : q_S), m < f → qs_C h s → h.1 57 2 = nI (qd_sa X a) → ∃ h1, q_go e_118 q_X0 (q_sem (d + 15)) f 12 [(0, .ref 0), (1, .int (nI a)), (2, .int (nI a))] [] h = some (h1, some (.int v)) ∧ qs_C h1 s') ∧ (∀ (d f : Nat) (h : q_S), m < f → qs_Q h s → rc_R h X A → h.1 67 37 = nI A → ∃ h1, q_go e_192 q_X0 (q_sem (d + 15)) f 24 [(0, .ref 67), (2, .int (nI a))] [] h = some (h1, some (.int v)) ∧ qs_Q h1 s' ∧ qf_R h h1) := by
  have hA40 := hA.1
  intro m
  induction m with
  | zero =>
    intro a s ha hs e3 e8
    have : a = A := by omega
    subst this
    refine ⟨nI a, s, hs, qk_rf s, fun d f h hf hc e2 => ⟨h, ?_, hc⟩, fun d f h hf hc rc e37 => ⟨h, ?_, hc, fun _ _ _ => rfl⟩⟩
    · obtain ⟨f, rfl⟩ : ∃ g, f = g + 1 := ⟨f - 1, by omega⟩
      rw [b118_12, if_pos (by rw [show (80 : Int32) = nI 80 from rfl, nI_lt_iff (by omega) (by omega)]; omega), e2, hc.2.2.2.2.1.1, e3, hA.2.2, if_neg (by rw [nI_lt_iff (by omega) (by omega)]; omega)]
    · obtain ⟨f, rfl⟩ : ∃ g, f = g + 1 := ⟨f - 1, by omega⟩
      rw [b192_24, e37, if_neg (by rw [nI_lt_iff (by omega) (by omega)]; omega)]
  | succ m ih =>
    intro a s ha hs e3 e8
    obtain ⟨e, hq, ge⟩ := hA.2.1 a (by omega)
    have bd := ac_bd hX hq
    obtain ⟨v, s1, k1, k2, k3, k4⟩ := al_all bd.1 (fun u => qd_nw X u (qd_sa X a + 1)) s hs
    have cl : ∀ (d f : Nat) (h : q_S), qs_C h s → h.1 57 2 = nI (qd_sa X a) → ∃ h3, q_go e_118 q_X0 (q_sem (d + 15)) (f + 1) 12 [(0, .ref 0), (1, .int (nI a)), (2, .int (nI a))] [] h = (if v < 0 then some (h3, some (.int ((-200) - nI a))) else q_go e_118 q_X0 (q_sem (d + 15)) f 12 [(0, .ref 0), (1, .int (nI (a + 1))), (2, .int (nI (a + 1)))] [] h3) ∧ qs_C h3 s1 ∧ h3.1 57 2 = nI (qd_sa X (a + 1)) := by
      intro d f h hc e2
      have t : tp_C h n X := ⟨hc.2.2.2.2.1.1.trans e3, fun i hi => (hc.2.2.2.2.1.2 i (by omega)).trans (e8 i hi)⟩
      obtain ⟨h1, i1, i2, i3, i4⟩ := s59 hn hX (d + 12) t e2 hq ge
      obtain ⟨h3, j1, j2, j3⟩ := k3 d h1 (C_at i4 hc) i3
      refine ⟨h3, ?_, j2, by rw [j3 _ _ (by omega), i2, sa_s hq]⟩
      rw [b118_12, if_pos (by rw [show (80 : Int32) = nI 80 from rfl, nI_lt_iff (by omega) (by omega)]; omega), e2, hc.2.2.2.2.1.1, e3, if_pos (by rw [nI_lt_iff (by omega) (by omega)]; exact bd.2.1), i1, q_c1_s, j1, q_c1_s, nI_p1]
    have rl : ∀ (d f : Nat) (h : q_S), qs_Q h s → rc_R h X A → h.1 67 37 = nI A → ∃ h3, q_go e_192 q_X0 (q_sem (d + 15)) (f + 1) 24 [(0, .ref 67), (2, .int (nI a))] [] h = (if v < 0 then some (h3, some (.int ((-200) - nI a))) else q_go e_192 q_X0 (q_sem (d + 15)) f 24 [(0, .ref 67), (2, .int (nI (a + 1)))] [] h3) ∧ qs_Q h3 s1 ∧ qf_R h h3 := by
      intro d f h hc rc e37
      obtain ⟨h3, j1, j2, j3⟩ := k4 d h a (by omega) hc (rc a (by omega)).1 (rc a (by omega)).2
      refine ⟨h3, ?_, j2, j3⟩
      rw [b192_24, e37, if_pos (by rw [nI_lt_iff (by omega) (by omega)]; omega), j1, q_c1_s, nI_p1]
    by_cases z : v < 0
    · refine ⟨(-200) - nI a, s1, k1, k2, fun d f h hf hc e2 => ?_, fun d f h hf hc rc e37 => ?_⟩
      · obtain ⟨f, rfl⟩ : ∃ g, f = g + 1 := ⟨f - 1, by omega⟩
        obtain ⟨h3, b1, b2, b3⟩ := cl d f h hc e2
        rw [if_pos z] at b1
        exact ⟨h3, b1, b2⟩
      · obtain ⟨f, rfl⟩ : ∃ g, f = g + 1 := ⟨f - 1, by omega⟩
        obtain ⟨h3, b1, b2, b3⟩ := rl d f h hc rc e37
        rw [if_pos z] at b1
        exact ⟨h3, b1, b2, b3⟩
    · obtain ⟨v2, s2, j1, j2, j3, j4⟩ := ih (a + 1) s1 (by omega) k1 ((k2.2.2 0 3 (by omega)).trans e3) (fun i hi => (k2.2.2 8 i (by omega)).trans (e8 i hi))
      refine ⟨v2, s2, j1, qk_tr k2 j2, fun d f h hf hc e2 => ?_, fun d f h hf hc rc e37 => ?_⟩
      · obtain ⟨f, rfl⟩ : ∃ g, f = g + 1 := ⟨f - 1, by omega⟩
        obtain ⟨h3, b1, b2, b3⟩ := cl d f h hc e2
        rw [if_neg z] at b1
        obtain ⟨h4, c1, c2⟩ := j3 d f h3 (by omega) b2 b3
        exact ⟨h4, b1.trans c1, c2⟩
      · obtain ⟨f, rfl⟩ : ∃ g, f = g + 1 := ⟨f - 1, by omega⟩
        obtain ⟨h3, b1, b2, b3⟩ := rl d f h hc rc e37
        rw [if_neg z] at b1
        obtain ⟨h4, c1, c2, c3⟩ := j4 d f h3 (by omega) b2 (fun b hb => ⟨(b3 _ _ (by omega)).trans (rc b hb).1, fun u hu => by
          have k3 : qd_nk (X (qd_sa X b)) ≤ 3 := by
            obtain ⟨e, hq, -⟩ := hA.2.1 b hb
            have := (ac_bd hX hq).1
            rcases nk_le (X (qd_sa X b)) with q | q
            · exact absurd q this
            · exact q
          exact (b3 _ _ (by omega)).trans ((rc b hb).2 u hu)⟩) ((b3 _ _ (by omega)).trans e37)
        exact ⟨h4, b1.trans c1, c2, qf_tr b3 c3⟩
theorem c91 : qs_su 91 192 [] := by
  intro s hs
  obtain ⟨n, hn, e3, ec⟩ := hs.2.2.2.2.1
  obtain ⟨X, hXd⟩ : ∃ X : Nat → Int32, X = fun i => if i < n then s.2.2.1 8 i else -1 := ⟨_, rfl⟩
  have hX : ∀ i, n ≤ i → X i = -1 := fun i hi => by rw [hXd]; exact if_neg (by omega)
  have e8 : ∀ i, i < n → s.2.2.1 8 i = X i := fun i hi => by rw [hXd]; exact (if_pos hi).symm
  have hcc : ∀ i, i < n → ∃ c, 32 ≤ c ∧ c ≤ 126 ∧ X i = nI c := fun i hi => by
    obtain ⟨c, h1, h2, h3⟩ := ec i hi
    exact ⟨c, h1, h2, (e8 i hi).symm.trans h3⟩
  have tC : ∀ h, qs_C h s → tp_C h n X := fun h hc => ⟨hc.2.2.2.2.1.1.trans e3, fun i hi => (hc.2.2.2.2.1.2 i (by omega)).trans (e8 i hi)⟩
  have tR : ∀ h, qs_R h s → tp_R h n X := fun h hc => ⟨hc.2.2.2.2.1.1.trans e3, fun i hi => (hc.2.2.2.2.1.2 i (by omega)).trans (e8 i hi)⟩
  cases hf : qd_fl X n (n + 1) 0 with
  | some p =>
    have hp := fl_le hn hX _ _ _ (by omega) hf
    refine ⟨.int ((-100) - nI p), (s.1, s.2.1, qt s.2.2.1 0 3 0, s.2.2.2), ok_tp hs, fun d h hc => ⟨q_si h 57 1 0, ?_, C_tp hc⟩, fun d h hc => ?_⟩
    · have t := tC h hc
      rw [m91, s58 hn hX t.1 t.2, hf, q_c1_s, qd_fr, if_neg (nI_lt0 (by omega))]
    · have S := s190 hn hX hcc (d + 15) (tR h hc)
      rw [hf] at S
      obtain ⟨h2, i1, i2, i3, i4⟩ := S
      refine ⟨q_si h2 67 35 0, ?_, Q_R (Q_fr (h := h) ⟨fun b c p q => by rw [qw_si_ne (by omega), i3 _ _ (by omega) q], i4⟩ (R_Q hc)) (qw_si_eq ..) (fun i hi => by rw [qw_si_ne (by omega), i3 _ _ (by omega) (by omega)]; exact hc.2.2.2.2.1.2 i hi)⟩
      rw [m192, i1, q_c1_s, if_pos rfl, i2]
  | none =>
    obtain ⟨A, hA⟩ : ∃ A, qd_ok X n A := by
      have S := s190 hn hX hcc 0 (h := (fun a j => if a = 67 then nI n else X j, fun _ _ => 0, none)) ⟨rfl, fun i _ => rfl⟩
      rw [hf] at S
      obtain ⟨h2, A, -, -, i3, -⟩ := S
      exact ⟨A, i3⟩
    obtain ⟨v, s1, k1, k2, k3, k4⟩ := l118 hn hX A hA A 0 s (by omega) hs e3 e8
    have hA40 := hA.1
    refine ⟨.int v, (s1.1, s1.2.1, qt s1.2.2.1 0 3 0, s1.2.2.2), ok_tp k1, fun d h hc => ?_, fun d h hc => ?_⟩
    · have t := tC h hc
      obtain ⟨h1, b1, b2⟩ := k3 (d + 3) 999 (q_si h 57 2 0) (by omega) (C_at ⟨fun b c p q => qw_si_ne (by omega), rfl⟩ hc) (qw_si_eq ..)
      refine ⟨q_si h1 57 1 0, ?_, C_tp b2⟩
      rw [m91, s58 hn hX t.1 t.2, hf, q_c1_s, qd_fr, if_pos (by decide), m118]
      exact (congrArg (fun a => q_c1 a _) b1).trans (q_c1_s ..)
    · have S := s190 hn hX hcc (d + 15) (tR h hc)
      rw [hf] at S
      obtain ⟨h2, A', i1, i2, i3, i4, i5, i6⟩ := S
      have := ok_un hX hA i3
      subst this
      obtain ⟨h3, b1, b2, b3⟩ := k4 (d + 4) 999 (q_si h2 67 35 0) (by omega) (Q_fr (h := h) ⟨fun b c p q => by rw [qw_si_ne (by omega), i5 _ _ (by omega) q], i6⟩ (R_Q hc)) (fun b hb => ⟨by rw [qw_si_ne (by omega)]; exact (i4 b hb).1, fun u hu => by rw [qw_si_ne (by omega)]; exact (i4 b hb).2 u hu⟩) (by rw [qw_si_ne (by omega), i2])
      refine ⟨h3, ?_, Q_R b2 (by rw [b3 _ _ (by omega), qw_si_eq]) (fun i hi => by rw [b3 _ _ (by omega), qw_si_ne (by omega), i5 _ _ (by omega) (by omega), k2.2.2 8 i (by omega)]; exact hc.2.2.2.2.1.2 i hi)⟩
      rw [m192, i1, q_c1_s, if_neg (by decide)]
      exact b1
