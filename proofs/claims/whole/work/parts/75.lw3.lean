/-! ===== the law, call by call ===== -/
def q_XL (L : Nat) (xs : Nat → Int32) : q_X := fun a => if a = 105 then some (L, xs) else q_X0 a
theorem xl_len {L : Nat} {xs : Nat → Int32} {f : Int32 → q_A} : q_len (q_XL L xs) 105 f = f (nI L) := rfl
theorem xl_at {L : Nat} {xs : Nat → Int32} {h : q_S} {j : Nat} {f : Int32 → q_A} (hj : j < L) (hL : L ≤ 3072) : q_ald (q_XL L xs) h 105 (nI j) f = f (xs j) := by
  show q_ix (nI j) L (fun j => f (xs j)) = _
  rw [q_ix_n hj (by omega)]
theorem xl_1 {L : Nat} {xs : Nat → Int32} {h : q_S} {i : Nat} {f : Int32 → q_A} (hj : i + 6 ≤ L) (hL : L ≤ 3072) : q_ald (q_XL L xs) h 105 (nI i + 1) f = f (xs (i + 1)) := by
  rw [show (1 : Int32) = nI 1 from rfl, nI_add, xl_at (by omega) hL]
theorem xl_2 {L : Nat} {xs : Nat → Int32} {h : q_S} {i : Nat} {f : Int32 → q_A} (hj : i + 6 ≤ L) (hL : L ≤ 3072) : q_ald (q_XL L xs) h 105 (nI i + 2) f = f (xs (i + 2)) := by
  rw [show (2 : Int32) = nI 2 from rfl, nI_add, xl_at (by omega) hL]
theorem xl_3 {L : Nat} {xs : Nat → Int32} {h : q_S} {i : Nat} {f : Int32 → q_A} (hj : i + 6 ≤ L) (hL : L ≤ 3072) : q_ald (q_XL L xs) h 105 (nI i + 3) f = f (xs (i + 3)) := by
  rw [show (3 : Int32) = nI 3 from rfl, nI_add, xl_at (by omega) hL]
theorem xl_4 {L : Nat} {xs : Nat → Int32} {h : q_S} {i : Nat} {f : Int32 → q_A} (hj : i + 6 ≤ L) (hL : L ≤ 3072) : q_ald (q_XL L xs) h 105 (nI i + 4) f = f (xs (i + 4)) := by
  rw [show (4 : Int32) = nI 4 from rfl, nI_add, xl_at (by omega) hL]
theorem xl_5 {L : Nat} {xs : Nat → Int32} {h : q_S} {i : Nat} {f : Int32 → q_A} (hj : i + 6 ≤ L) (hL : L ≤ 3072) : q_ald (q_XL L xs) h 105 (nI i + 5) f = f (xs (i + 5)) := by
  rw [show (5 : Int32) = nI 5 from rfl, nI_add, xl_at (by omega) hL]
theorem fr_CR {h h1 : q_S} {s : qs} (hR : qs_R h s) (f : ∀ a, 67 ≤ a → a < 102 → h1.1 a = h.1 a ∧ h1.2.1 a = h.2.1 a) : qs_R h1 s := by
  obtain ⟨c1, c2, c3, c4, c5, c6, c7⟩ := hR
  have g : ∀ a j, 67 ≤ a → a < 102 → h1.1 a j = h.1 a j := fun a j p q => congrFun (f a p q).1 j
  exact mk_R (f_r1 (fun a j q => g a j (by omega) (by omega)) c1) (f_r2 (fun a j q => g a j (by omega) (by omega)) (fun _ _ _ => rfl) c2) (f_r3 (fun a j q => g a j (by omega) (by omega)) (fun _ _ _ => rfl) c3) (f_r4 (fun a j q => g a j (by omega) (by omega)) (fun _ _ _ => rfl) c4) (f_r5 (fun a j q => g a j (by omega) (by omega)) (fun _ _ _ => rfl) c5) (f_r6 (fun a j q => g a j (by omega) (by omega)) (fun a j q => congrFun (f a (by omega) (by omega)).2 j) (fun _ _ _ => rfl) c6) (f_r7 (fun a j q => g a j (by omega) (by omega)) (fun _ _ _ => rfl) c7)
theorem fr_RC {h h1 : q_S} {s : qs} (hC : qs_C h s) (f : ∀ a, a < 67 → h1.1 a = h.1 a ∧ h1.2.1 a = h.2.1 a) (fl : h1.2.2 = h.2.2) : qs_C h1 s := by
  obtain ⟨c1, c2, c3, c4, c5, c6, c7, c8⟩ := hC
  have g : ∀ a j, a < 67 → h1.1 a j = h.1 a j := fun a j p => congrFun (f a p).1 j
  exact mk_C (f_c1 (fun a j q => g a j (by omega)) c1) (f_c2 (fun a j q => g a j (by omega)) (fun _ _ _ => rfl) c2) (f_c3 (fun a j q => g a j (by omega)) (fun _ _ _ => rfl) c3) (f_c4 (fun a j q => g a j (by omega)) (fun _ _ _ => rfl) c4) (f_c5 (fun a j q => g a j (by omega)) (fun _ _ _ => rfl) c5) (f_c6 (fun a j q => g a j (by omega)) (fun a j q => congrFun (f a (by omega)).2 j) (fun _ _ _ => rfl) c6) (f_c7 (fun a j q => g a j (by omega)) fl (fun _ _ _ => rfl) c7) (f_z (fun a j q => congrFun (f a (by omega)).2 j) c8)
theorem lt_ok {h : q_S} {s : qs} (hC : qs_C h s) : qz_v qz_C (q_rv h.2.2) := by
  intro a e
  rcases hC.2.2.2.2.2.2.1 with ⟨d1, -⟩ | ⟨k, hk, d1, -, -⟩
  · rw [d1] at e
    cases e
  · rw [d1] at e
    cases e
    unfold qz_C
    omega
theorem lw_pair {y y' : Nat} {as : List Value} (k : qs_su y y' as) (hv : ∀ v ∈ as, ∀ a, v ≠ .ref a) (d : Nat) {s : qs} {h : q_S} (hs : qs_ok s) (hC : qs_C h s) (hR : qs_R h s) : ∃ v s' h1 h2, q_sem (d + 20) y h (.ref 0 :: as) = some (h1, some v) ∧ q_sem (d + 20) y' h1 (.ref 67 :: as) = some (h2, some v) ∧ qs_ok s' ∧ qs_C h2 s' ∧ qs_R h2 s' := by
  obtain ⟨v, s', o, c, r⟩ := k s hs
  obtain ⟨h1, e1, C1⟩ := c d h hC
  have z1 := qz_cm e1 (fun w hw => by
    rcases List.mem_cons.mp hw with q | q
    · rw [q]; exact qz_ref (by unfold qz_C; omega)
    · exact fun a e => absurd e (hv w q a)) (lt_ok hC)
  obtain ⟨h2, e2, R2⟩ := r d h1 (fr_CR hR z1.1)
  have z2 := qz_rm e2 (fun w hw => by
    rcases List.mem_cons.mp hw with q | q
    · rw [q]; exact qz_ref (by unfold qz_R; omega)
    · exact fun a e => absurd e (hv w q a))
  exact ⟨v, s', h1, h2, e1, e2, o, fr_RC C1 z2.1 z2.2, R2⟩
theorem nr_n : ∀ v ∈ ([] : List Value), ∀ a, v ≠ .ref a := fun v h => absurd h List.not_mem_nil
theorem nr_i {x : Int32} {t : List Value} (h : ∀ v ∈ t, ∀ a, v ≠ .ref a) : ∀ v ∈ (.int x :: t), ∀ a, v ≠ Value.ref a := by
  intro v hv a e
  rcases List.mem_cons.mp hv with q | q
  · rw [q] at e; cases e
  · exact h v q a e
theorem nr_l {x : Int64} {t : List Value} (h : ∀ v ∈ t, ∀ a, v ≠ .ref a) : ∀ v ∈ (.long x :: t), ∀ a, v ≠ Value.ref a := by
  intro v hv a e
  rcases List.mem_cons.mp hv with q | q
  · rw [q] at e; cases e
  · exact h v q a e
theorem lc_0 (d f i L : Nat) (xs : Nat → Int32) {s : qs} {h : q_S} (hL : L ≤ 3072) (hi : i + 6 ≤ L) (hs : qs_ok s) (hC : qs_C h s) (hR : qs_R h s) : ∃ h2 s', q_go e_law (q_XL L xs) (q_sem (d + 20)) (f + 1) 220 [(0, .ref 105), (1, .ref 0), (2, .ref 67), (3, .int (nI i))] [] h = q_go e_law (q_XL L xs) (q_sem (d + 20)) f 1620 [(0, .ref 105), (1, .ref 0), (2, .ref 67), (3, .int (nI i))] [] h2 ∧ qs_ok s' ∧ qs_C h2 s' ∧ qs_R h2 s' := by
  obtain ⟨v, s', h1, h2, e1, e2, o, C, R⟩ := lw_pair (qs_st_su (c61 (xs (i + 1)) (xs (i + 2)) (xs (i + 3)))) (nr_i (nr_i (nr_i nr_n))) d hs hC hR
  obtain ⟨x, hx⟩ := (kd_sem e1).1 (by decide)
  have hx : v = .int x := Option.some.inj hx
  subst hx
  exact ⟨h2, s', by rw [blaw_220, xl_1 hi hL, xl_2 hi hL, xl_3 hi hL, e1, q_c1_s, xl_1 hi hL, xl_2 hi hL, xl_3 hi hL, e2, q_c1_s, if_pos rfl], o, C, R⟩
theorem lc_1 (d f i L : Nat) (xs : Nat → Int32) {s : qs} {h : q_S} (hL : L ≤ 3072) (hi : i + 6 ≤ L) (hs : qs_ok s) (hC : qs_C h s) (hR : qs_R h s) : ∃ h2 s', q_go e_law (q_XL L xs) (q_sem (d + 20)) (f + 1) 263 [(0, .ref 105), (1, .ref 0), (2, .ref 67), (3, .int (nI i))] [] h = q_go e_law (q_XL L xs) (q_sem (d + 20)) f 1620 [(0, .ref 105), (1, .ref 0), (2, .ref 67), (3, .int (nI i))] [] h2 ∧ qs_ok s' ∧ qs_C h2 s' ∧ qs_R h2 s' := by
  obtain ⟨v, s', h1, h2, e1, e2, o, C, R⟩ := lw_pair (qs_st_su c62) nr_n d hs hC hR
  obtain ⟨x, hx⟩ := (kd_sem e1).1 (by decide)
  have hx : v = .int x := Option.some.inj hx
  subst hx
  exact ⟨h2, s', by rw [blaw_263, e1, q_c1_s, e2, q_c1_s, if_pos rfl], o, C, R⟩
theorem lc_2 (d f i L : Nat) (xs : Nat → Int32) {s : qs} {h : q_S} (hL : L ≤ 3072) (hi : i + 6 ≤ L) (hs : qs_ok s) (hC : qs_C h s) (hR : qs_R h s) : ∃ h2 s', q_go e_law (q_XL L xs) (q_sem (d + 20)) (f + 1) 276 [(0, .ref 105), (1, .ref 0), (2, .ref 67), (3, .int (nI i))] [] h = q_go e_law (q_XL L xs) (q_sem (d + 20)) f 1620 [(0, .ref 105), (1, .ref 0), (2, .ref 67), (3, .int (nI i))] [] h2 ∧ qs_ok s' ∧ qs_C h2 s' ∧ qs_R h2 s' := by
  obtain ⟨v, s', h1, h2, e1, e2, o, C, R⟩ := lw_pair (qs_st_su c63) nr_n d hs hC hR
  obtain ⟨x, hx⟩ := (kd_sem e1).1 (by decide)
  have hx : v = .int x := Option.some.inj hx
  subst hx
  exact ⟨h2, s', by rw [blaw_276, e1, q_c1_s, e2, q_c1_s, if_pos rfl], o, C, R⟩
theorem lc_3 (d f i L : Nat) (xs : Nat → Int32) {s : qs} {h : q_S} (hL : L ≤ 3072) (hi : i + 6 ≤ L) (hs : qs_ok s) (hC : qs_C h s) (hR : qs_R h s) : ∃ h2 s', q_go e_law (q_XL L xs) (q_sem (d + 20)) (f + 1) 289 [(0, .ref 105), (1, .ref 0), (2, .ref 67), (3, .int (nI i))] [] h = q_go e_law (q_XL L xs) (q_sem (d + 20)) f 1620 [(0, .ref 105), (1, .ref 0), (2, .ref 67), (3, .int (nI i))] [] h2 ∧ qs_ok s' ∧ qs_C h2 s' ∧ qs_R h2 s' := by
  obtain ⟨v, s', h1, h2, e1, e2, o, C, R⟩ := lw_pair (qs_st_su (c64 (xs (i + 1)) (xs (i + 2)) (xs (i + 3)))) (nr_i (nr_i (nr_i nr_n))) d hs hC hR
  obtain ⟨x, hx⟩ := (kd_sem e1).1 (by decide)
  have hx : v = .int x := Option.some.inj hx
  subst hx
  exact ⟨h2, s', by rw [blaw_289, xl_1 hi hL, xl_2 hi hL, xl_3 hi hL, e1, q_c1_s, xl_1 hi hL, xl_2 hi hL, xl_3 hi hL, e2, q_c1_s, if_pos rfl], o, C, R⟩
theorem lc_4 (d f i L : Nat) (xs : Nat → Int32) {s : qs} {h : q_S} (hL : L ≤ 3072) (hi : i + 6 ≤ L) (hs : qs_ok s) (hC : qs_C h s) (hR : qs_R h s) : ∃ h2 s', q_go e_law (q_XL L xs) (q_sem (d + 20)) (f + 1) 332 [(0, .ref 105), (1, .ref 0), (2, .ref 67), (3, .int (nI i))] [] h = q_go e_law (q_XL L xs) (q_sem (d + 20)) f 1620 [(0, .ref 105), (1, .ref 0), (2, .ref 67), (3, .int (nI i))] [] h2 ∧ qs_ok s' ∧ qs_C h2 s' ∧ qs_R h2 s' := by
  obtain ⟨v, s', h1, h2, e1, e2, o, C, R⟩ := lw_pair (qs_st_su (c65 (xs (i + 1)) (xs (i + 2)))) (nr_i (nr_i nr_n)) d hs hC hR
  obtain ⟨x, hx⟩ := (kd_sem e1).1 (by decide)
  have hx : v = .int x := Option.some.inj hx
  subst hx
  exact ⟨h2, s', by rw [blaw_332, xl_1 hi hL, xl_2 hi hL, e1, q_c1_s, xl_1 hi hL, xl_2 hi hL, e2, q_c1_s, if_pos rfl], o, C, R⟩
theorem lc_5 (d f i L : Nat) (xs : Nat → Int32) {s : qs} {h : q_S} (hL : L ≤ 3072) (hi : i + 6 ≤ L) (hs : qs_ok s) (hC : qs_C h s) (hR : qs_R h s) : ∃ h2 s', q_go e_law (q_XL L xs) (q_sem (d + 20)) (f + 1) 365 [(0, .ref 105), (1, .ref 0), (2, .ref 67), (3, .int (nI i))] [] h = q_go e_law (q_XL L xs) (q_sem (d + 20)) f 1620 [(0, .ref 105), (1, .ref 0), (2, .ref 67), (3, .int (nI i))] [] h2 ∧ qs_ok s' ∧ qs_C h2 s' ∧ qs_R h2 s' := by
  obtain ⟨v, s', h1, h2, e1, e2, o, C, R⟩ := lw_pair (qs_st_su (c66 (xs (i + 1)) (xs (i + 2)))) (nr_i (nr_i nr_n)) d hs hC hR
  obtain ⟨x, hx⟩ := (kd_sem e1).1 (by decide)
  have hx : v = .int x := Option.some.inj hx
  subst hx
  exact ⟨h2, s', by rw [blaw_365, xl_1 hi hL, xl_2 hi hL, e1, q_c1_s, xl_1 hi hL, xl_2 hi hL, e2, q_c1_s, if_pos rfl], o, C, R⟩
theorem lc_6 (d f i L : Nat) (xs : Nat → Int32) {s : qs} {h : q_S} (hL : L ≤ 3072) (hi : i + 6 ≤ L) (hs : qs_ok s) (hC : qs_C h s) (hR : qs_R h s) : ∃ h2 s', q_go e_law (q_XL L xs) (q_sem (d + 20)) (f + 1) 398 [(0, .ref 105), (1, .ref 0), (2, .ref 67), (3, .int (nI i))] [] h = q_go e_law (q_XL L xs) (q_sem (d + 20)) f 1620 [(0, .ref 105), (1, .ref 0), (2, .ref 67), (3, .int (nI i))] [] h2 ∧ qs_ok s' ∧ qs_C h2 s' ∧ qs_R h2 s' := by
  obtain ⟨v, s', h1, h2, e1, e2, o, C, R⟩ := lw_pair (qs_st_su (c67 (xs (i + 1)) (xs (i + 2)))) (nr_i (nr_i nr_n)) d hs hC hR
  obtain ⟨x, hx⟩ := (kd_sem e1).1 (by decide)
  have hx : v = .int x := Option.some.inj hx
  subst hx
  exact ⟨h2, s', by rw [blaw_398, xl_1 hi hL, xl_2 hi hL, e1, q_c1_s, xl_1 hi hL, xl_2 hi hL, e2, q_c1_s, if_pos rfl], o, C, R⟩
theorem lc_7 (d f i L : Nat) (xs : Nat → Int32) {s : qs} {h : q_S} (hL : L ≤ 3072) (hi : i + 6 ≤ L) (hs : qs_ok s) (hC : qs_C h s) (hR : qs_R h s) : ∃ h2 s', q_go e_law (q_XL L xs) (q_sem (d + 20)) (f + 1) 431 [(0, .ref 105), (1, .ref 0), (2, .ref 67), (3, .int (nI i))] [] h = q_go e_law (q_XL L xs) (q_sem (d + 20)) f 1620 [(0, .ref 105), (1, .ref 0), (2, .ref 67), (3, .int (nI i))] [] h2 ∧ qs_ok s' ∧ qs_C h2 s' ∧ qs_R h2 s' := by
  obtain ⟨v, s', h1, h2, e1, e2, o, C, R⟩ := lw_pair (qs_st_su (c68 (xs (i + 1)) (xs (i + 2)) (xs (i + 3)))) (nr_i (nr_i (nr_i nr_n))) d hs hC hR
  obtain ⟨x, hx⟩ := (kd_sem e1).1 (by decide)
  have hx : v = .int x := Option.some.inj hx
  subst hx
  exact ⟨h2, s', by rw [blaw_431, xl_1 hi hL, xl_2 hi hL, xl_3 hi hL, e1, q_c1_s, xl_1 hi hL, xl_2 hi hL, xl_3 hi hL, e2, q_c1_s, if_pos rfl], o, C, R⟩
theorem lc_8 (d f i L : Nat) (xs : Nat → Int32) {s : qs} {h : q_S} (hL : L ≤ 3072) (hi : i + 6 ≤ L) (hs : qs_ok s) (hC : qs_C h s) (hR : qs_R h s) : ∃ h2 s', q_go e_law (q_XL L xs) (q_sem (d + 20)) (f + 1) 474 [(0, .ref 105), (1, .ref 0), (2, .ref 67), (3, .int (nI i))] [] h = q_go e_law (q_XL L xs) (q_sem (d + 20)) f 1620 [(0, .ref 105), (1, .ref 0), (2, .ref 67), (3, .int (nI i))] [] h2 ∧ qs_ok s' ∧ qs_C h2 s' ∧ qs_R h2 s' := by
  obtain ⟨v, s', h1, h2, e1, e2, o, C, R⟩ := lw_pair (qs_st_su (c69 (xs (i + 1)) (xs (i + 2)))) (nr_i (nr_i nr_n)) d hs hC hR
  obtain ⟨x, hx⟩ := (kd_sem e1).1 (by decide)
  have hx : v = .int x := Option.some.inj hx
  subst hx
  exact ⟨h2, s', by rw [blaw_474, xl_1 hi hL, xl_2 hi hL, e1, q_c1_s, xl_1 hi hL, xl_2 hi hL, e2, q_c1_s, if_pos rfl], o, C, R⟩
theorem lc_9 (d f i L : Nat) (xs : Nat → Int32) {s : qs} {h : q_S} (hL : L ≤ 3072) (hi : i + 6 ≤ L) (hs : qs_ok s) (hC : qs_C h s) (hR : qs_R h s) : ∃ h2 s', q_go e_law (q_XL L xs) (q_sem (d + 20)) (f + 1) 507 [(0, .ref 105), (1, .ref 0), (2, .ref 67), (3, .int (nI i))] [] h = q_go e_law (q_XL L xs) (q_sem (d + 20)) f 1620 [(0, .ref 105), (1, .ref 0), (2, .ref 67), (3, .int (nI i))] [] h2 ∧ qs_ok s' ∧ qs_C h2 s' ∧ qs_R h2 s' := by
  obtain ⟨v, s', h1, h2, e1, e2, o, C, R⟩ := lw_pair (qs_st_su (c70 (xs (i + 1)) (xs (i + 2)) (xs (i + 3)))) (nr_i (nr_i (nr_i nr_n))) d hs hC hR
  obtain ⟨x, hx⟩ := (kd_sem e1).1 (by decide)
  have hx : v = .int x := Option.some.inj hx
  subst hx
  exact ⟨h2, s', by rw [blaw_507, xl_1 hi hL, xl_2 hi hL, xl_3 hi hL, e1, q_c1_s, xl_1 hi hL, xl_2 hi hL, xl_3 hi hL, e2, q_c1_s, if_pos rfl], o, C, R⟩
theorem lc_10 (d f i L : Nat) (xs : Nat → Int32) {s : qs} {h : q_S} (hL : L ≤ 3072) (hi : i + 6 ≤ L) (hs : qs_ok s) (hC : qs_C h s) (hR : qs_R h s) : ∃ h2 s', q_go e_law (q_XL L xs) (q_sem (d + 20)) (f + 1) 550 [(0, .ref 105), (1, .ref 0), (2, .ref 67), (3, .int (nI i))] [] h = q_go e_law (q_XL L xs) (q_sem (d + 20)) f 1620 [(0, .ref 105), (1, .ref 0), (2, .ref 67), (3, .int (nI i))] [] h2 ∧ qs_ok s' ∧ qs_C h2 s' ∧ qs_R h2 s' := by
  obtain ⟨v, s', h1, h2, e1, e2, o, C, R⟩ := lw_pair (qs_st_su c71) nr_n d hs hC hR
  obtain ⟨x, hx⟩ := (kd_sem e1).1 (by decide)
  have hx : v = .int x := Option.some.inj hx
  subst hx
  exact ⟨h2, s', by rw [blaw_550, e1, q_c1_s, e2, q_c1_s, if_pos rfl], o, C, R⟩
theorem lc_11 (d f i L : Nat) (xs : Nat → Int32) {s : qs} {h : q_S} (hL : L ≤ 3072) (hi : i + 6 ≤ L) (hs : qs_ok s) (hC : qs_C h s) (hR : qs_R h s) : ∃ h2 s', q_go e_law (q_XL L xs) (q_sem (d + 20)) (f + 1) 563 [(0, .ref 105), (1, .ref 0), (2, .ref 67), (3, .int (nI i))] [] h = q_go e_law (q_XL L xs) (q_sem (d + 20)) f 1620 [(0, .ref 105), (1, .ref 0), (2, .ref 67), (3, .int (nI i))] [] h2 ∧ qs_ok s' ∧ qs_C h2 s' ∧ qs_R h2 s' := by
  obtain ⟨v, s', h1, h2, e1, e2, o, C, R⟩ := lw_pair (qs_st_su (c72 (xs (i + 1)) (xs (i + 2)))) (nr_i (nr_i nr_n)) d hs hC hR
  obtain ⟨x, hx⟩ := (kd_sem e1).1 (by decide)
  have hx : v = .int x := Option.some.inj hx
  subst hx
  exact ⟨h2, s', by rw [blaw_563, xl_1 hi hL, xl_2 hi hL, e1, q_c1_s, xl_1 hi hL, xl_2 hi hL, e2, q_c1_s, if_pos rfl], o, C, R⟩
theorem lc_12 (d f i L : Nat) (xs : Nat → Int32) {s : qs} {h : q_S} (hL : L ≤ 3072) (hi : i + 6 ≤ L) (hs : qs_ok s) (hC : qs_C h s) (hR : qs_R h s) : ∃ h2 s', q_go e_law (q_XL L xs) (q_sem (d + 20)) (f + 1) 596 [(0, .ref 105), (1, .ref 0), (2, .ref 67), (3, .int (nI i))] [] h = q_go e_law (q_XL L xs) (q_sem (d + 20)) f 1620 [(0, .ref 105), (1, .ref 0), (2, .ref 67), (3, .int (nI i))] [] h2 ∧ qs_ok s' ∧ qs_C h2 s' ∧ qs_R h2 s' := by
  obtain ⟨v, s', h1, h2, e1, e2, o, C, R⟩ := lw_pair (qs_st_su (c73 (xs (i + 1)) (xs (i + 2)) (xs (i + 3)))) (nr_i (nr_i (nr_i nr_n))) d hs hC hR
  obtain ⟨x, hx⟩ := (kd_sem e1).1 (by decide)
  have hx : v = .int x := Option.some.inj hx
  subst hx
  exact ⟨h2, s', by rw [blaw_596, xl_1 hi hL, xl_2 hi hL, xl_3 hi hL, e1, q_c1_s, xl_1 hi hL, xl_2 hi hL, xl_3 hi hL, e2, q_c1_s, if_pos rfl], o, C, R⟩
theorem lc_13 (d f i L : Nat) (xs : Nat → Int32) {s : qs} {h : q_S} (hL : L ≤ 3072) (hi : i + 6 ≤ L) (hs : qs_ok s) (hC : qs_C h s) (hR : qs_R h s) : ∃ h2 s', q_go e_law (q_XL L xs) (q_sem (d + 20)) (f + 1) 639 [(0, .ref 105), (1, .ref 0), (2, .ref 67), (3, .int (nI i))] [] h = q_go e_law (q_XL L xs) (q_sem (d + 20)) f 1620 [(0, .ref 105), (1, .ref 0), (2, .ref 67), (3, .int (nI i))] [] h2 ∧ qs_ok s' ∧ qs_C h2 s' ∧ qs_R h2 s' := by
  obtain ⟨v, s', h1, h2, e1, e2, o, C, R⟩ := lw_pair (qs_st_su (c74 (xs (i + 1)) (xs (i + 2)) (xs (i + 3)))) (nr_i (nr_i (nr_i nr_n))) d hs hC hR
  obtain ⟨x, hx⟩ := (kd_sem e1).1 (by decide)
  have hx : v = .int x := Option.some.inj hx
  subst hx
  exact ⟨h2, s', by rw [blaw_639, xl_1 hi hL, xl_2 hi hL, xl_3 hi hL, e1, q_c1_s, xl_1 hi hL, xl_2 hi hL, xl_3 hi hL, e2, q_c1_s, if_pos rfl], o, C, R⟩
theorem lc_14 (d f i L : Nat) (xs : Nat → Int32) {s : qs} {h : q_S} (hL : L ≤ 3072) (hi : i + 6 ≤ L) (hs : qs_ok s) (hC : qs_C h s) (hR : qs_R h s) : ∃ h2 s', q_go e_law (q_XL L xs) (q_sem (d + 20)) (f + 1) 682 [(0, .ref 105), (1, .ref 0), (2, .ref 67), (3, .int (nI i))] [] h = q_go e_law (q_XL L xs) (q_sem (d + 20)) f 1620 [(0, .ref 105), (1, .ref 0), (2, .ref 67), (3, .int (nI i))] [] h2 ∧ qs_ok s' ∧ qs_C h2 s' ∧ qs_R h2 s' := by
  obtain ⟨v, s', h1, h2, e1, e2, o, C, R⟩ := lw_pair (qs_st_su (c75 (xs (i + 1)) (xs (i + 2)))) (nr_i (nr_i nr_n)) d hs hC hR
  obtain ⟨x, hx⟩ := (kd_sem e1).1 (by decide)
  have hx : v = .int x := Option.some.inj hx
  subst hx
  exact ⟨h2, s', by rw [blaw_682, xl_1 hi hL, xl_2 hi hL, e1, q_c1_s, xl_1 hi hL, xl_2 hi hL, e2, q_c1_s, if_pos rfl], o, C, R⟩
theorem lc_15 (d f i L : Nat) (xs : Nat → Int32) {s : qs} {h : q_S} (hL : L ≤ 3072) (hi : i + 6 ≤ L) (hs : qs_ok s) (hC : qs_C h s) (hR : qs_R h s) : ∃ h2 s', q_go e_law (q_XL L xs) (q_sem (d + 20)) (f + 1) 715 [(0, .ref 105), (1, .ref 0), (2, .ref 67), (3, .int (nI i))] [] h = q_go e_law (q_XL L xs) (q_sem (d + 20)) f 1620 [(0, .ref 105), (1, .ref 0), (2, .ref 67), (3, .int (nI i))] [] h2 ∧ qs_ok s' ∧ qs_C h2 s' ∧ qs_R h2 s' := by
  obtain ⟨v, s', h1, h2, e1, e2, o, C, R⟩ := lw_pair (qs_st_su (c76 (xs (i + 1)) (xs (i + 2)) (xs (i + 3)) (xs (i + 4)) (xs (i + 5)))) (nr_i (nr_i (nr_i (nr_i (nr_i nr_n))))) d hs hC hR
  obtain ⟨x, hx⟩ := (kd_sem e1).1 (by decide)
  have hx : v = .int x := Option.some.inj hx
  subst hx
  exact ⟨h2, s', by rw [blaw_715, xl_1 hi hL, xl_2 hi hL, xl_3 hi hL, xl_4 hi hL, xl_5 hi hL, e1, q_c1_s, xl_1 hi hL, xl_2 hi hL, xl_3 hi hL, xl_4 hi hL, xl_5 hi hL, e2, q_c1_s, if_pos rfl], o, C, R⟩
theorem lc_16 (d f i L : Nat) (xs : Nat → Int32) {s : qs} {h : q_S} (hL : L ≤ 3072) (hi : i + 6 ≤ L) (hs : qs_ok s) (hC : qs_C h s) (hR : qs_R h s) : ∃ h2 s', q_go e_law (q_XL L xs) (q_sem (d + 20)) (f + 1) 778 [(0, .ref 105), (1, .ref 0), (2, .ref 67), (3, .int (nI i))] [] h = q_go e_law (q_XL L xs) (q_sem (d + 20)) f 1620 [(0, .ref 105), (1, .ref 0), (2, .ref 67), (3, .int (nI i))] [] h2 ∧ qs_ok s' ∧ qs_C h2 s' ∧ qs_R h2 s' := by
  obtain ⟨v, s', h1, h2, e1, e2, o, C, R⟩ := lw_pair (qs_st_su (c77 (xs (i + 1)) (xs (i + 2)) (xs (i + 3)) (xs (i + 4)))) (nr_i (nr_i (nr_i (nr_i nr_n)))) d hs hC hR
  obtain ⟨x, hx⟩ := (kd_sem e1).1 (by decide)
  have hx : v = .int x := Option.some.inj hx
  subst hx
  exact ⟨h2, s', by rw [blaw_778, xl_1 hi hL, xl_2 hi hL, xl_3 hi hL, xl_4 hi hL, e1, q_c1_s, xl_1 hi hL, xl_2 hi hL, xl_3 hi hL, xl_4 hi hL, e2, q_c1_s, if_pos rfl], o, C, R⟩
theorem lc_17 (d f i L : Nat) (xs : Nat → Int32) {s : qs} {h : q_S} (hL : L ≤ 3072) (hi : i + 6 ≤ L) (hs : qs_ok s) (hC : qs_C h s) (hR : qs_R h s) : ∃ h2 s', q_go e_law (q_XL L xs) (q_sem (d + 20)) (f + 1) 831 [(0, .ref 105), (1, .ref 0), (2, .ref 67), (3, .int (nI i))] [] h = q_go e_law (q_XL L xs) (q_sem (d + 20)) f 1620 [(0, .ref 105), (1, .ref 0), (2, .ref 67), (3, .int (nI i))] [] h2 ∧ qs_ok s' ∧ qs_C h2 s' ∧ qs_R h2 s' := by
  obtain ⟨v, s', h1, h2, e1, e2, o, C, R⟩ := lw_pair (qs_st_su (c78 (xs (i + 1)) (xs (i + 2)) (xs (i + 3)))) (nr_i (nr_i (nr_i nr_n))) d hs hC hR
  obtain ⟨x, hx⟩ := (kd_sem e1).1 (by decide)
  have hx : v = .int x := Option.some.inj hx
  subst hx
  exact ⟨h2, s', by rw [blaw_831, xl_1 hi hL, xl_2 hi hL, xl_3 hi hL, e1, q_c1_s, xl_1 hi hL, xl_2 hi hL, xl_3 hi hL, e2, q_c1_s, if_pos rfl], o, C, R⟩
theorem lc_18 (d f i L : Nat) (xs : Nat → Int32) {s : qs} {h : q_S} (hL : L ≤ 3072) (hi : i + 6 ≤ L) (hs : qs_ok s) (hC : qs_C h s) (hR : qs_R h s) : ∃ h2 s', q_go e_law (q_XL L xs) (q_sem (d + 20)) (f + 1) 874 [(0, .ref 105), (1, .ref 0), (2, .ref 67), (3, .int (nI i))] [] h = q_go e_law (q_XL L xs) (q_sem (d + 20)) f 1620 [(0, .ref 105), (1, .ref 0), (2, .ref 67), (3, .int (nI i))] [] h2 ∧ qs_ok s' ∧ qs_C h2 s' ∧ qs_R h2 s' := by
  obtain ⟨v, s', h1, h2, e1, e2, o, C, R⟩ := lw_pair (qs_st_su (c79 (xs (i + 1)) (xs (i + 2)))) (nr_i (nr_i nr_n)) d hs hC hR
  obtain ⟨x, hx⟩ := (kd_sem e1).1 (by decide)
  have hx : v = .int x := Option.some.inj hx
  subst hx
  exact ⟨h2, s', by rw [blaw_874, xl_1 hi hL, xl_2 hi hL, e1, q_c1_s, xl_1 hi hL, xl_2 hi hL, e2, q_c1_s, if_pos rfl], o, C, R⟩
theorem lc_19 (d f i L : Nat) (xs : Nat → Int32) {s : qs} {h : q_S} (hL : L ≤ 3072) (hi : i + 6 ≤ L) (hs : qs_ok s) (hC : qs_C h s) (hR : qs_R h s) : ∃ h2 s', q_go e_law (q_XL L xs) (q_sem (d + 20)) (f + 1) 907 [(0, .ref 105), (1, .ref 0), (2, .ref 67), (3, .int (nI i))] [] h = q_go e_law (q_XL L xs) (q_sem (d + 20)) f 1620 [(0, .ref 105), (1, .ref 0), (2, .ref 67), (3, .int (nI i))] [] h2 ∧ qs_ok s' ∧ qs_C h2 s' ∧ qs_R h2 s' := by
  obtain ⟨v, s', h1, h2, e1, e2, o, C, R⟩ := lw_pair (qs_st_su (c80 (xs (i + 1)))) (nr_i nr_n) d hs hC hR
  obtain ⟨x, hx⟩ := (kd_sem e1).1 (by decide)
  have hx : v = .int x := Option.some.inj hx
  subst hx
  exact ⟨h2, s', by rw [blaw_907, xl_1 hi hL, e1, q_c1_s, xl_1 hi hL, e2, q_c1_s, if_pos rfl], o, C, R⟩
theorem lc_20 (d f i L : Nat) (xs : Nat → Int32) {s : qs} {h : q_S} (hL : L ≤ 3072) (hi : i + 6 ≤ L) (hs : qs_ok s) (hC : qs_C h s) (hR : qs_R h s) : ∃ h2 s', q_go e_law (q_XL L xs) (q_sem (d + 20)) (f + 1) 930 [(0, .ref 105), (1, .ref 0), (2, .ref 67), (3, .int (nI i))] [] h = q_go e_law (q_XL L xs) (q_sem (d + 20)) f 1620 [(0, .ref 105), (1, .ref 0), (2, .ref 67), (3, .int (nI i))] [] h2 ∧ qs_ok s' ∧ qs_C h2 s' ∧ qs_R h2 s' := by
  obtain ⟨v, s', h1, h2, e1, e2, o, C, R⟩ := lw_pair (qs_st_su (c81 (xs (i + 1)) (xs (i + 2)) (xs (i + 3)) (xs (i + 4)) (xs (i + 5)))) (nr_i (nr_i (nr_i (nr_i (nr_i nr_n))))) d hs hC hR
  obtain ⟨x, hx⟩ := (kd_sem e1).1 (by decide)
  have hx : v = .int x := Option.some.inj hx
  subst hx
  exact ⟨h2, s', by rw [blaw_930, xl_1 hi hL, xl_2 hi hL, xl_3 hi hL, xl_4 hi hL, xl_5 hi hL, e1, q_c1_s, xl_1 hi hL, xl_2 hi hL, xl_3 hi hL, xl_4 hi hL, xl_5 hi hL, e2, q_c1_s, if_pos rfl], o, C, R⟩
theorem lc_21 (d f i L : Nat) (xs : Nat → Int32) {s : qs} {h : q_S} (hL : L ≤ 3072) (hi : i + 6 ≤ L) (hs : qs_ok s) (hC : qs_C h s) (hR : qs_R h s) : ∃ h2 s', q_go e_law (q_XL L xs) (q_sem (d + 20)) (f + 1) 993 [(0, .ref 105), (1, .ref 0), (2, .ref 67), (3, .int (nI i))] [] h = q_go e_law (q_XL L xs) (q_sem (d + 20)) f 1620 [(0, .ref 105), (1, .ref 0), (2, .ref 67), (3, .int (nI i))] [] h2 ∧ qs_ok s' ∧ qs_C h2 s' ∧ qs_R h2 s' := by
  obtain ⟨v, s', h1, h2, e1, e2, o, C, R⟩ := lw_pair (qs_st_su (c82 (xs (i + 1)) (xs (i + 2)))) (nr_i (nr_i nr_n)) d hs hC hR
  obtain ⟨x, hx⟩ := (kd_sem e1).1 (by decide)
  have hx : v = .int x := Option.some.inj hx
  subst hx
  exact ⟨h2, s', by rw [blaw_993, xl_1 hi hL, xl_2 hi hL, e1, q_c1_s, xl_1 hi hL, xl_2 hi hL, e2, q_c1_s, if_pos rfl], o, C, R⟩
theorem lc_22 (d f i L : Nat) (xs : Nat → Int32) {s : qs} {h : q_S} (hL : L ≤ 3072) (hi : i + 6 ≤ L) (hs : qs_ok s) (hC : qs_C h s) (hR : qs_R h s) : ∃ h2 s', q_go e_law (q_XL L xs) (q_sem (d + 20)) (f + 1) 1026 [(0, .ref 105), (1, .ref 0), (2, .ref 67), (3, .int (nI i))] [] h = q_go e_law (q_XL L xs) (q_sem (d + 20)) f 1620 [(0, .ref 105), (1, .ref 0), (2, .ref 67), (3, .int (nI i))] [] h2 ∧ qs_ok s' ∧ qs_C h2 s' ∧ qs_R h2 s' := by
  obtain ⟨v, s', h1, h2, e1, e2, o, C, R⟩ := lw_pair (qs_st_su (c83 (xs (i + 1)) (xs (i + 2)) (xs (i + 3)))) (nr_i (nr_i (nr_i nr_n))) d hs hC hR
  obtain ⟨x, hx⟩ := (kd_sem e1).1 (by decide)
  have hx : v = .int x := Option.some.inj hx
  subst hx
  exact ⟨h2, s', by rw [blaw_1026, xl_1 hi hL, xl_2 hi hL, xl_3 hi hL, e1, q_c1_s, xl_1 hi hL, xl_2 hi hL, xl_3 hi hL, e2, q_c1_s, if_pos rfl], o, C, R⟩
theorem lc_23 (d f i L : Nat) (xs : Nat → Int32) {s : qs} {h : q_S} (hL : L ≤ 3072) (hi : i + 6 ≤ L) (hs : qs_ok s) (hC : qs_C h s) (hR : qs_R h s) : ∃ h2 s', q_go e_law (q_XL L xs) (q_sem (d + 20)) (f + 1) 1069 [(0, .ref 105), (1, .ref 0), (2, .ref 67), (3, .int (nI i))] [] h = q_go e_law (q_XL L xs) (q_sem (d + 20)) f 1620 [(0, .ref 105), (1, .ref 0), (2, .ref 67), (3, .int (nI i))] [] h2 ∧ qs_ok s' ∧ qs_C h2 s' ∧ qs_R h2 s' := by
  obtain ⟨v, s', h1, h2, e1, e2, o, C, R⟩ := lw_pair (qs_st_su (c84 (xs (i + 1)) (xs (i + 2)))) (nr_i (nr_i nr_n)) d hs hC hR
  obtain ⟨x, hx⟩ := (kd_sem e1).1 (by decide)
  have hx : v = .int x := Option.some.inj hx
  subst hx
  exact ⟨h2, s', by rw [blaw_1069, xl_1 hi hL, xl_2 hi hL, e1, q_c1_s, xl_1 hi hL, xl_2 hi hL, e2, q_c1_s, if_pos rfl], o, C, R⟩
theorem lc_24 (d f i L : Nat) (xs : Nat → Int32) {s : qs} {h : q_S} (hL : L ≤ 3072) (hi : i + 6 ≤ L) (hs : qs_ok s) (hC : qs_C h s) (hR : qs_R h s) : ∃ h2 s', q_go e_law (q_XL L xs) (q_sem (d + 20)) (f + 1) 1102 [(0, .ref 105), (1, .ref 0), (2, .ref 67), (3, .int (nI i))] [] h = q_go e_law (q_XL L xs) (q_sem (d + 20)) f 1620 [(0, .ref 105), (1, .ref 0), (2, .ref 67), (3, .int (nI i))] [] h2 ∧ qs_ok s' ∧ qs_C h2 s' ∧ qs_R h2 s' := by
  obtain ⟨v, s', h1, h2, e1, e2, o, C, R⟩ := lw_pair c85 nr_n d hs hC hR
  obtain ⟨x, hx⟩ := (kd_sem e1).1 (by decide)
  have hx : v = .int x := Option.some.inj hx
  subst hx
  exact ⟨h2, s', by rw [blaw_1102, e1, q_c1_s, e2, q_c1_s, if_pos rfl], o, C, R⟩
theorem lc_25 (d f i L : Nat) (xs : Nat → Int32) {s : qs} {h : q_S} (hL : L ≤ 3072) (hi : i + 6 ≤ L) (hs : qs_ok s) (hC : qs_C h s) (hR : qs_R h s) : ∃ h2 s', q_go e_law (q_XL L xs) (q_sem (d + 20)) (f + 1) 1115 [(0, .ref 105), (1, .ref 0), (2, .ref 67), (3, .int (nI i))] [] h = q_go e_law (q_XL L xs) (q_sem (d + 20)) f 1620 [(0, .ref 105), (1, .ref 0), (2, .ref 67), (3, .int (nI i))] [] h2 ∧ qs_ok s' ∧ qs_C h2 s' ∧ qs_R h2 s' := by
  obtain ⟨v, s', h1, h2, e1, e2, o, C, R⟩ := lw_pair (qs_st_su c86) nr_n d hs hC hR
  obtain ⟨x, hx⟩ := (kd_sem e1).1 (by decide)
  have hx : v = .int x := Option.some.inj hx
  subst hx
  exact ⟨h2, s', by rw [blaw_1115, e1, q_c1_s, e2, q_c1_s, if_pos rfl], o, C, R⟩
theorem lc_26 (d f i L : Nat) (xs : Nat → Int32) {s : qs} {h : q_S} (hL : L ≤ 3072) (hi : i + 6 ≤ L) (hs : qs_ok s) (hC : qs_C h s) (hR : qs_R h s) : ∃ h2 s', q_go e_law (q_XL L xs) (q_sem (d + 20)) (f + 1) 1128 [(0, .ref 105), (1, .ref 0), (2, .ref 67), (3, .int (nI i))] [] h = q_go e_law (q_XL L xs) (q_sem (d + 20)) f 1620 [(0, .ref 105), (1, .ref 0), (2, .ref 67), (3, .int (nI i))] [] h2 ∧ qs_ok s' ∧ qs_C h2 s' ∧ qs_R h2 s' := by
  obtain ⟨v, s', h1, h2, e1, e2, o, C, R⟩ := lw_pair (qs_st_su c87) nr_n d hs hC hR
  obtain ⟨x, hx⟩ := (kd_sem e1).1 (by decide)
  have hx : v = .int x := Option.some.inj hx
  subst hx
  exact ⟨h2, s', by rw [blaw_1128, e1, q_c1_s, e2, q_c1_s, if_pos rfl], o, C, R⟩
theorem lc_27 (d f i L : Nat) (xs : Nat → Int32) {s : qs} {h : q_S} (hL : L ≤ 3072) (hi : i + 6 ≤ L) (hs : qs_ok s) (hC : qs_C h s) (hR : qs_R h s) : ∃ h2 s', q_go e_law (q_XL L xs) (q_sem (d + 20)) (f + 1) 1141 [(0, .ref 105), (1, .ref 0), (2, .ref 67), (3, .int (nI i))] [] h = q_go e_law (q_XL L xs) (q_sem (d + 20)) f 1620 [(0, .ref 105), (1, .ref 0), (2, .ref 67), (3, .int (nI i))] [] h2 ∧ qs_ok s' ∧ qs_C h2 s' ∧ qs_R h2 s' := by
  obtain ⟨v, s', h1, h2, e1, e2, o, C, R⟩ := lw_pair (qs_st_su c88) nr_n d hs hC hR
  obtain ⟨x, hx⟩ := (kd_sem e1).1 (by decide)
  have hx : v = .int x := Option.some.inj hx
  subst hx
  exact ⟨h2, s', by rw [blaw_1141, e1, q_c1_s, e2, q_c1_s, if_pos rfl], o, C, R⟩
theorem lc_28 (d f i L : Nat) (xs : Nat → Int32) {s : qs} {h : q_S} (hL : L ≤ 3072) (hi : i + 6 ≤ L) (hs : qs_ok s) (hC : qs_C h s) (hR : qs_R h s) : ∃ h2 s', q_go e_law (q_XL L xs) (q_sem (d + 20)) (f + 1) 1154 [(0, .ref 105), (1, .ref 0), (2, .ref 67), (3, .int (nI i))] [] h = q_go e_law (q_XL L xs) (q_sem (d + 20)) f 1620 [(0, .ref 105), (1, .ref 0), (2, .ref 67), (3, .int (nI i))] [] h2 ∧ qs_ok s' ∧ qs_C h2 s' ∧ qs_R h2 s' := by
  obtain ⟨v, s', h1, h2, e1, e2, o, C, R⟩ := lw_pair (qs_st_su (c89 (xs (i + 1)))) (nr_i nr_n) d hs hC hR
  obtain ⟨x, hx⟩ := (kd_sem e1).1 (by decide)
  have hx : v = .int x := Option.some.inj hx
  subst hx
  exact ⟨h2, s', by rw [blaw_1154, xl_1 hi hL, e1, q_c1_s, xl_1 hi hL, e2, q_c1_s, if_pos rfl], o, C, R⟩
theorem lc_29 (d f i L : Nat) (xs : Nat → Int32) {s : qs} {h : q_S} (hL : L ≤ 3072) (hi : i + 6 ≤ L) (hs : qs_ok s) (hC : qs_C h s) (hR : qs_R h s) : ∃ h2 s', q_go e_law (q_XL L xs) (q_sem (d + 20)) (f + 1) 1177 [(0, .ref 105), (1, .ref 0), (2, .ref 67), (3, .int (nI i))] [] h = q_go e_law (q_XL L xs) (q_sem (d + 20)) f 1620 [(0, .ref 105), (1, .ref 0), (2, .ref 67), (3, .int (nI i))] [] h2 ∧ qs_ok s' ∧ qs_C h2 s' ∧ qs_R h2 s' := by
  obtain ⟨v, s', h1, h2, e1, e2, o, C, R⟩ := lw_pair (qs_st_su c90) nr_n d hs hC hR
  obtain ⟨x, hx⟩ := (kd_sem e1).1 (by decide)
  have hx : v = .int x := Option.some.inj hx
  subst hx
  exact ⟨h2, s', by rw [blaw_1177, e1, q_c1_s, e2, q_c1_s, if_pos rfl], o, C, R⟩
theorem lc_30 (d f i L : Nat) (xs : Nat → Int32) {s : qs} {h : q_S} (hL : L ≤ 3072) (hi : i + 6 ≤ L) (hs : qs_ok s) (hC : qs_C h s) (hR : qs_R h s) : ∃ h2 s', q_go e_law (q_XL L xs) (q_sem (d + 20)) (f + 1) 1190 [(0, .ref 105), (1, .ref 0), (2, .ref 67), (3, .int (nI i))] [] h = q_go e_law (q_XL L xs) (q_sem (d + 20)) f 1620 [(0, .ref 105), (1, .ref 0), (2, .ref 67), (3, .int (nI i))] [] h2 ∧ qs_ok s' ∧ qs_C h2 s' ∧ qs_R h2 s' := by
  obtain ⟨v, s', h1, h2, e1, e2, o, C, R⟩ := lw_pair c91 nr_n d hs hC hR
  obtain ⟨x, hx⟩ := (kd_sem e1).1 (by decide)
  have hx : v = .int x := Option.some.inj hx
  subst hx
  exact ⟨h2, s', by rw [blaw_1190, e1, q_c1_s, e2, q_c1_s, if_pos rfl], o, C, R⟩
theorem lc_31 (d f i L : Nat) (xs : Nat → Int32) {s : qs} {h : q_S} (hL : L ≤ 3072) (hi : i + 6 ≤ L) (hs : qs_ok s) (hC : qs_C h s) (hR : qs_R h s) : ∃ h2 s', q_go e_law (q_XL L xs) (q_sem (d + 20)) (f + 1) 1203 [(0, .ref 105), (1, .ref 0), (2, .ref 67), (3, .int (nI i))] [] h = q_go e_law (q_XL L xs) (q_sem (d + 20)) f 1620 [(0, .ref 105), (1, .ref 0), (2, .ref 67), (3, .int (nI i))] [] h2 ∧ qs_ok s' ∧ qs_C h2 s' ∧ qs_R h2 s' := by
  obtain ⟨v, s', h1, h2, e1, e2, o, C, R⟩ := lw_pair (qs_st_su (c92 (xs (i + 1)) (xs (i + 2)) (xs (i + 3)))) (nr_i (nr_i (nr_i nr_n))) d hs hC hR
  obtain ⟨x, hx⟩ := (kd_sem e1).1 (by decide)
  have hx : v = .int x := Option.some.inj hx
  subst hx
  exact ⟨h2, s', by rw [blaw_1203, xl_1 hi hL, xl_2 hi hL, xl_3 hi hL, e1, q_c1_s, xl_1 hi hL, xl_2 hi hL, xl_3 hi hL, e2, q_c1_s, if_pos rfl], o, C, R⟩
theorem lc_32 (d f i L : Nat) (xs : Nat → Int32) {s : qs} {h : q_S} (hL : L ≤ 3072) (hi : i + 6 ≤ L) (hs : qs_ok s) (hC : qs_C h s) (hR : qs_R h s) : ∃ h2 s', q_go e_law (q_XL L xs) (q_sem (d + 20)) (f + 1) 1246 [(0, .ref 105), (1, .ref 0), (2, .ref 67), (3, .int (nI i))] [] h = q_go e_law (q_XL L xs) (q_sem (d + 20)) f 1620 [(0, .ref 105), (1, .ref 0), (2, .ref 67), (3, .int (nI i))] [] h2 ∧ qs_ok s' ∧ qs_C h2 s' ∧ qs_R h2 s' := by
  obtain ⟨v, s', h1, h2, e1, e2, o, C, R⟩ := lw_pair (qs_st_su (c93 (xs (i + 1)) (xs (i + 2)) (((xs (i + 3)).toInt64 <<< ((32 : Int32).toInt64 &&& 63)) ||| ((xs (i + 4)).toInt64 &&& (Int64.ofNat 4294967295))))) (nr_i (nr_i (nr_l nr_n))) d hs hC hR
  obtain ⟨x, hx⟩ := (kd_sem e1).1 (by decide)
  have hx : v = .int x := Option.some.inj hx
  subst hx
  exact ⟨h2, s', by rw [blaw_1246, xl_1 hi hL, xl_2 hi hL, xl_3 hi hL, xl_4 hi hL, e1, q_c1_s, xl_1 hi hL, xl_2 hi hL, xl_3 hi hL, xl_4 hi hL, e2, q_c1_s, if_pos rfl], o, C, R⟩
theorem lc_33 (d f i L : Nat) (xs : Nat → Int32) {s : qs} {h : q_S} (hL : L ≤ 3072) (hi : i + 6 ≤ L) (hs : qs_ok s) (hC : qs_C h s) (hR : qs_R h s) : ∃ h2 s', q_go e_law (q_XL L xs) (q_sem (d + 20)) (f + 1) 1319 [(0, .ref 105), (1, .ref 0), (2, .ref 67), (3, .int (nI i))] [] h = q_go e_law (q_XL L xs) (q_sem (d + 20)) f 1620 [(0, .ref 105), (1, .ref 0), (2, .ref 67), (3, .int (nI i))] [] h2 ∧ qs_ok s' ∧ qs_C h2 s' ∧ qs_R h2 s' := by
  obtain ⟨v, s', h1, h2, e1, e2, o, C, R⟩ := lw_pair (qs_st_su (c94 (xs (i + 1)) (xs (i + 2)))) (nr_i (nr_i nr_n)) d hs hC hR
  obtain ⟨x, hx⟩ := (kd_sem e1).2 rfl
  have hx : v = .long x := Option.some.inj hx
  subst hx
  exact ⟨h2, s', by rw [blaw_1319, xl_1 hi hL, xl_2 hi hL, e1, q_c3_s, xl_1 hi hL, xl_2 hi hL, e2, q_c3_s, if_pos ((lg_eq0 _ _).mpr rfl)], o, C, R⟩
theorem lc_34 (d f i L : Nat) (xs : Nat → Int32) {s : qs} {h : q_S} (hL : L ≤ 3072) (hi : i + 6 ≤ L) (hs : qs_ok s) (hC : qs_C h s) (hR : qs_R h s) : ∃ h2 s', q_go e_law (q_XL L xs) (q_sem (d + 20)) (f + 1) 1353 [(0, .ref 105), (1, .ref 0), (2, .ref 67), (3, .int (nI i))] [] h = q_go e_law (q_XL L xs) (q_sem (d + 20)) f 1620 [(0, .ref 105), (1, .ref 0), (2, .ref 67), (3, .int (nI i))] [] h2 ∧ qs_ok s' ∧ qs_C h2 s' ∧ qs_R h2 s' := by
  obtain ⟨v, s', h1, h2, e1, e2, o, C, R⟩ := lw_pair (qs_st_su (c95 (xs (i + 1)) (xs (i + 2)) (xs (i + 3)))) (nr_i (nr_i (nr_i nr_n))) d hs hC hR
  obtain ⟨x, hx⟩ := (kd_sem e1).1 (by decide)
  have hx : v = .int x := Option.some.inj hx
  subst hx
  exact ⟨h2, s', by rw [blaw_1353, xl_1 hi hL, xl_2 hi hL, xl_3 hi hL, e1, q_c1_s, xl_1 hi hL, xl_2 hi hL, xl_3 hi hL, e2, q_c1_s, if_pos rfl], o, C, R⟩
theorem lc_35 (d f i L : Nat) (xs : Nat → Int32) {s : qs} {h : q_S} (hL : L ≤ 3072) (hi : i + 6 ≤ L) (hs : qs_ok s) (hC : qs_C h s) (hR : qs_R h s) : ∃ h2 s', q_go e_law (q_XL L xs) (q_sem (d + 20)) (f + 1) 1396 [(0, .ref 105), (1, .ref 0), (2, .ref 67), (3, .int (nI i))] [] h = q_go e_law (q_XL L xs) (q_sem (d + 20)) f 1620 [(0, .ref 105), (1, .ref 0), (2, .ref 67), (3, .int (nI i))] [] h2 ∧ qs_ok s' ∧ qs_C h2 s' ∧ qs_R h2 s' := by
  obtain ⟨v, s', h1, h2, e1, e2, o, C, R⟩ := lw_pair (qs_st_su (c96 (xs (i + 1)) (xs (i + 2)) (xs (i + 3)) (xs (i + 4)) (xs (i + 5)))) (nr_i (nr_i (nr_i (nr_i (nr_i nr_n))))) d hs hC hR
  obtain ⟨x, hx⟩ := (kd_sem e1).1 (by decide)
  have hx : v = .int x := Option.some.inj hx
  subst hx
  exact ⟨h2, s', by rw [blaw_1396, xl_1 hi hL, xl_2 hi hL, xl_3 hi hL, xl_4 hi hL, xl_5 hi hL, e1, q_c1_s, xl_1 hi hL, xl_2 hi hL, xl_3 hi hL, xl_4 hi hL, xl_5 hi hL, e2, q_c1_s, if_pos rfl], o, C, R⟩
theorem lc_36 (d f i L : Nat) (xs : Nat → Int32) {s : qs} {h : q_S} (hL : L ≤ 3072) (hi : i + 6 ≤ L) (hs : qs_ok s) (hC : qs_C h s) (hR : qs_R h s) : ∃ h2 s', q_go e_law (q_XL L xs) (q_sem (d + 20)) (f + 1) 1459 [(0, .ref 105), (1, .ref 0), (2, .ref 67), (3, .int (nI i))] [] h = q_go e_law (q_XL L xs) (q_sem (d + 20)) f 1620 [(0, .ref 105), (1, .ref 0), (2, .ref 67), (3, .int (nI i))] [] h2 ∧ qs_ok s' ∧ qs_C h2 s' ∧ qs_R h2 s' := by
  obtain ⟨v, s', h1, h2, e1, e2, o, C, R⟩ := lw_pair (qs_st_su (c97 (xs (i + 1)) (xs (i + 2)) (xs (i + 3)))) (nr_i (nr_i (nr_i nr_n))) d hs hC hR
  obtain ⟨x, hx⟩ := (kd_sem e1).1 (by decide)
  have hx : v = .int x := Option.some.inj hx
  subst hx
  exact ⟨h2, s', by rw [blaw_1459, xl_1 hi hL, xl_2 hi hL, xl_3 hi hL, e1, q_c1_s, xl_1 hi hL, xl_2 hi hL, xl_3 hi hL, e2, q_c1_s, if_pos rfl], o, C, R⟩
theorem lc_37 (d f i L : Nat) (xs : Nat → Int32) {s : qs} {h : q_S} (hL : L ≤ 3072) (hi : i + 6 ≤ L) (hs : qs_ok s) (hC : qs_C h s) (hR : qs_R h s) : ∃ h2 s', q_go e_law (q_XL L xs) (q_sem (d + 20)) (f + 1) 1502 [(0, .ref 105), (1, .ref 0), (2, .ref 67), (3, .int (nI i))] [] h = q_go e_law (q_XL L xs) (q_sem (d + 20)) f 1620 [(0, .ref 105), (1, .ref 0), (2, .ref 67), (3, .int (nI i))] [] h2 ∧ qs_ok s' ∧ qs_C h2 s' ∧ qs_R h2 s' := by
  obtain ⟨v, s', h1, h2, e1, e2, o, C, R⟩ := lw_pair (qs_st_su (c98 (xs (i + 1)))) (nr_i nr_n) d hs hC hR
  obtain ⟨x, hx⟩ := (kd_sem e1).1 (by decide)
  have hx : v = .int x := Option.some.inj hx
  subst hx
  exact ⟨h2, s', by rw [blaw_1502, xl_1 hi hL, e1, q_c1_s, xl_1 hi hL, e2, q_c1_s, if_pos rfl], o, C, R⟩
theorem lc_38 (d f i L : Nat) (xs : Nat → Int32) {s : qs} {h : q_S} (hL : L ≤ 3072) (hi : i + 6 ≤ L) (hs : qs_ok s) (hC : qs_C h s) (hR : qs_R h s) : ∃ h2 s', q_go e_law (q_XL L xs) (q_sem (d + 20)) (f + 1) 1525 [(0, .ref 105), (1, .ref 0), (2, .ref 67), (3, .int (nI i))] [] h = q_go e_law (q_XL L xs) (q_sem (d + 20)) f 1620 [(0, .ref 105), (1, .ref 0), (2, .ref 67), (3, .int (nI i))] [] h2 ∧ qs_ok s' ∧ qs_C h2 s' ∧ qs_R h2 s' := by
  obtain ⟨v, s', h1, h2, e1, e2, o, C, R⟩ := lw_pair (qs_st_su (c99 (xs (i + 1)) (xs (i + 2)))) (nr_i (nr_i nr_n)) d hs hC hR
  obtain ⟨x, hx⟩ := (kd_sem e1).1 (by decide)
  have hx : v = .int x := Option.some.inj hx
  subst hx
  exact ⟨h2, s', by rw [blaw_1525, xl_1 hi hL, xl_2 hi hL, e1, q_c1_s, xl_1 hi hL, xl_2 hi hL, e2, q_c1_s, if_pos rfl], o, C, R⟩
theorem lc_39 (d f i L : Nat) (xs : Nat → Int32) {s : qs} {h : q_S} (hL : L ≤ 3072) (hi : i + 6 ≤ L) (hs : qs_ok s) (hC : qs_C h s) (hR : qs_R h s) : ∃ h2 s', q_go e_law (q_XL L xs) (q_sem (d + 20)) (f + 1) 1558 [(0, .ref 105), (1, .ref 0), (2, .ref 67), (3, .int (nI i))] [] h = q_go e_law (q_XL L xs) (q_sem (d + 20)) f 1620 [(0, .ref 105), (1, .ref 0), (2, .ref 67), (3, .int (nI i))] [] h2 ∧ qs_ok s' ∧ qs_C h2 s' ∧ qs_R h2 s' := by
  obtain ⟨v, s', h1, h2, e1, e2, o, C, R⟩ := lw_pair (qs_st_su c100) nr_n d hs hC hR
  obtain ⟨x, hx⟩ := (kd_sem e1).1 (by decide)
  have hx : v = .int x := Option.some.inj hx
  subst hx
  exact ⟨h2, s', by rw [blaw_1558, e1, q_c1_s, e2, q_c1_s, if_pos rfl], o, C, R⟩
theorem lc_40 (d f i L : Nat) (xs : Nat → Int32) {s : qs} {h : q_S} (hL : L ≤ 3072) (hi : i + 6 ≤ L) (hs : qs_ok s) (hC : qs_C h s) (hR : qs_R h s) : ∃ h2 s', q_go e_law (q_XL L xs) (q_sem (d + 20)) (f + 1) 1571 [(0, .ref 105), (1, .ref 0), (2, .ref 67), (3, .int (nI i))] [] h = q_go e_law (q_XL L xs) (q_sem (d + 20)) f 1620 [(0, .ref 105), (1, .ref 0), (2, .ref 67), (3, .int (nI i))] [] h2 ∧ qs_ok s' ∧ qs_C h2 s' ∧ qs_R h2 s' := by
  obtain ⟨v, s', h1, h2, e1, e2, o, C, R⟩ := lw_pair (qs_st_su c101) nr_n d hs hC hR
  obtain ⟨x, hx⟩ := (kd_sem e1).1 (by decide)
  have hx : v = .int x := Option.some.inj hx
  subst hx
  exact ⟨h2, s', by rw [blaw_1571, e1, q_c1_s, e2, q_c1_s, if_pos rfl], o, C, R⟩
theorem lc_41 (d f i L : Nat) (xs : Nat → Int32) {s : qs} {h : q_S} (hL : L ≤ 3072) (hi : i + 6 ≤ L) (hs : qs_ok s) (hC : qs_C h s) (hR : qs_R h s) : ∃ h2 s', q_go e_law (q_XL L xs) (q_sem (d + 20)) (f + 1) 1584 [(0, .ref 105), (1, .ref 0), (2, .ref 67), (3, .int (nI i))] [] h = q_go e_law (q_XL L xs) (q_sem (d + 20)) f 1620 [(0, .ref 105), (1, .ref 0), (2, .ref 67), (3, .int (nI i))] [] h2 ∧ qs_ok s' ∧ qs_C h2 s' ∧ qs_R h2 s' := by
  obtain ⟨v, s', h1, h2, e1, e2, o, C, R⟩ := lw_pair (qs_st_su c102) nr_n d hs hC hR
  obtain ⟨x, hx⟩ := (kd_sem e1).1 (by decide)
  have hx : v = .int x := Option.some.inj hx
  subst hx
  exact ⟨h2, s', by rw [blaw_1584, e1, q_c1_s, e2, q_c1_s, if_pos rfl], o, C, R⟩
theorem lc_42 (d f i L : Nat) (xs : Nat → Int32) {s : qs} {h : q_S} (hL : L ≤ 3072) (hi : i + 6 ≤ L) (hs : qs_ok s) (hC : qs_C h s) (hR : qs_R h s) : ∃ h2 s', q_go e_law (q_XL L xs) (q_sem (d + 20)) (f + 1) 1597 [(0, .ref 105), (1, .ref 0), (2, .ref 67), (3, .int (nI i))] [] h = q_go e_law (q_XL L xs) (q_sem (d + 20)) f 1620 [(0, .ref 105), (1, .ref 0), (2, .ref 67), (3, .int (nI i))] [] h2 ∧ qs_ok s' ∧ qs_C h2 s' ∧ qs_R h2 s' := by
  obtain ⟨v, s', h1, h2, e1, e2, o, C, R⟩ := lw_pair (qs_st_su (c103 (xs (i + 1)))) (nr_i nr_n) d hs hC hR
  obtain ⟨x, hx⟩ := (kd_sem e1).1 (by decide)
  have hx : v = .int x := Option.some.inj hx
  subst hx
  exact ⟨h2, s', by rw [blaw_1597, xl_1 hi hL, e1, q_c1_s, xl_1 hi hL, e2, q_c1_s, if_pos rfl], o, C, R⟩
def lw_pc (a : Int32) : Nat := if a = 0 then 220 else if a = 1 then 263 else if a = 2 then 276 else if a = 3 then 289 else if a = 4 then 332 else if a = 5 then 365 else if a = 6 then 398 else if a = 7 then 431 else if a = 8 then 474 else if a = 9 then 507 else if a = 10 then 550 else if a = 11 then 563 else if a = 12 then 596 else if a = 13 then 639 else if a = 14 then 682 else if a = 15 then 715 else if a = 16 then 778 else if a = 17 then 831 else if a = 18 then 874 else if a = 19 then 907 else if a = 20 then 930 else if a = 21 then 993 else if a = 22 then 1026 else if a = 23 then 1069 else if a = 24 then 1102 else if a = 25 then 1115 else if a = 26 then 1128 else if a = 27 then 1141 else if a = 28 then 1154 else if a = 29 then 1177 else if a = 30 then 1190 else if a = 31 then 1203 else if a = 32 then 1246 else if a = 33 then 1319 else if a = 34 then 1353 else if a = 35 then 1396 else if a = 36 then 1459 else if a = 37 then 1502 else if a = 38 then 1525 else if a = 39 then 1558 else if a = 40 then 1571 else if a = 41 then 1584 else if a = 42 then 1597 else 1620
theorem lw_case (d f i L : Nat) (xs : Nat → Int32) (a : Int32) {s : qs} {h : q_S} (hL : L ≤ 3072) (hi : i + 6 ≤ L) (hs : qs_ok s) (hC : qs_C h s) (hR : qs_R h s) : ∃ h2 s' f', f ≤ f' ∧ q_go e_law (q_XL L xs) (q_sem (d + 20)) (f + 1) (lw_pc a) [(0, .ref 105), (1, .ref 0), (2, .ref 67), (3, .int (nI i))] [] h = q_go e_law (q_XL L xs) (q_sem (d + 20)) f' 1620 [(0, .ref 105), (1, .ref 0), (2, .ref 67), (3, .int (nI i))] [] h2 ∧ qs_ok s' ∧ qs_C h2 s' ∧ qs_R h2 s' := by
  unfold lw_pc
  by_cases c0 : a = 0
  · rw [if_pos c0]
    obtain ⟨h2, s', e, o⟩ := lc_0 d f i L xs hL hi hs hC hR
    exact ⟨h2, s', f, Nat.le_refl _, e, o⟩
  rw [if_neg c0]
  by_cases c1 : a = 1
  · rw [if_pos c1]
    obtain ⟨h2, s', e, o⟩ := lc_1 d f i L xs hL hi hs hC hR
    exact ⟨h2, s', f, Nat.le_refl _, e, o⟩
  rw [if_neg c1]
  by_cases c2 : a = 2
  · rw [if_pos c2]
    obtain ⟨h2, s', e, o⟩ := lc_2 d f i L xs hL hi hs hC hR
    exact ⟨h2, s', f, Nat.le_refl _, e, o⟩
  rw [if_neg c2]
  by_cases c3 : a = 3
  · rw [if_pos c3]
    obtain ⟨h2, s', e, o⟩ := lc_3 d f i L xs hL hi hs hC hR
    exact ⟨h2, s', f, Nat.le_refl _, e, o⟩
  rw [if_neg c3]
  by_cases c4 : a = 4
  · rw [if_pos c4]
    obtain ⟨h2, s', e, o⟩ := lc_4 d f i L xs hL hi hs hC hR
    exact ⟨h2, s', f, Nat.le_refl _, e, o⟩
  rw [if_neg c4]
  by_cases c5 : a = 5
  · rw [if_pos c5]
    obtain ⟨h2, s', e, o⟩ := lc_5 d f i L xs hL hi hs hC hR
    exact ⟨h2, s', f, Nat.le_refl _, e, o⟩
  rw [if_neg c5]
  by_cases c6 : a = 6
  · rw [if_pos c6]
    obtain ⟨h2, s', e, o⟩ := lc_6 d f i L xs hL hi hs hC hR
    exact ⟨h2, s', f, Nat.le_refl _, e, o⟩
  rw [if_neg c6]
  by_cases c7 : a = 7
  · rw [if_pos c7]
    obtain ⟨h2, s', e, o⟩ := lc_7 d f i L xs hL hi hs hC hR
    exact ⟨h2, s', f, Nat.le_refl _, e, o⟩
  rw [if_neg c7]
  by_cases c8 : a = 8
  · rw [if_pos c8]
    obtain ⟨h2, s', e, o⟩ := lc_8 d f i L xs hL hi hs hC hR
    exact ⟨h2, s', f, Nat.le_refl _, e, o⟩
  rw [if_neg c8]
  by_cases c9 : a = 9
  · rw [if_pos c9]
    obtain ⟨h2, s', e, o⟩ := lc_9 d f i L xs hL hi hs hC hR
    exact ⟨h2, s', f, Nat.le_refl _, e, o⟩
  rw [if_neg c9]
  by_cases c10 : a = 10
  · rw [if_pos c10]
    obtain ⟨h2, s', e, o⟩ := lc_10 d f i L xs hL hi hs hC hR
    exact ⟨h2, s', f, Nat.le_refl _, e, o⟩
  rw [if_neg c10]
  by_cases c11 : a = 11
  · rw [if_pos c11]
    obtain ⟨h2, s', e, o⟩ := lc_11 d f i L xs hL hi hs hC hR
    exact ⟨h2, s', f, Nat.le_refl _, e, o⟩
  rw [if_neg c11]
  by_cases c12 : a = 12
  · rw [if_pos c12]
    obtain ⟨h2, s', e, o⟩ := lc_12 d f i L xs hL hi hs hC hR
    exact ⟨h2, s', f, Nat.le_refl _, e, o⟩
  rw [if_neg c12]
  by_cases c13 : a = 13
  · rw [if_pos c13]
    obtain ⟨h2, s', e, o⟩ := lc_13 d f i L xs hL hi hs hC hR
    exact ⟨h2, s', f, Nat.le_refl _, e, o⟩
  rw [if_neg c13]
  by_cases c14 : a = 14
  · rw [if_pos c14]
    obtain ⟨h2, s', e, o⟩ := lc_14 d f i L xs hL hi hs hC hR
    exact ⟨h2, s', f, Nat.le_refl _, e, o⟩
  rw [if_neg c14]
  by_cases c15 : a = 15
  · rw [if_pos c15]
    obtain ⟨h2, s', e, o⟩ := lc_15 d f i L xs hL hi hs hC hR
    exact ⟨h2, s', f, Nat.le_refl _, e, o⟩
  rw [if_neg c15]
  by_cases c16 : a = 16
  · rw [if_pos c16]
    obtain ⟨h2, s', e, o⟩ := lc_16 d f i L xs hL hi hs hC hR
    exact ⟨h2, s', f, Nat.le_refl _, e, o⟩
  rw [if_neg c16]
  by_cases c17 : a = 17
  · rw [if_pos c17]
    obtain ⟨h2, s', e, o⟩ := lc_17 d f i L xs hL hi hs hC hR
    exact ⟨h2, s', f, Nat.le_refl _, e, o⟩
  rw [if_neg c17]
  by_cases c18 : a = 18
  · rw [if_pos c18]
    obtain ⟨h2, s', e, o⟩ := lc_18 d f i L xs hL hi hs hC hR
    exact ⟨h2, s', f, Nat.le_refl _, e, o⟩
  rw [if_neg c18]
  by_cases c19 : a = 19
  · rw [if_pos c19]
    obtain ⟨h2, s', e, o⟩ := lc_19 d f i L xs hL hi hs hC hR
    exact ⟨h2, s', f, Nat.le_refl _, e, o⟩
  rw [if_neg c19]
  by_cases c20 : a = 20
  · rw [if_pos c20]
    obtain ⟨h2, s', e, o⟩ := lc_20 d f i L xs hL hi hs hC hR
    exact ⟨h2, s', f, Nat.le_refl _, e, o⟩
  rw [if_neg c20]
  by_cases c21 : a = 21
  · rw [if_pos c21]
    obtain ⟨h2, s', e, o⟩ := lc_21 d f i L xs hL hi hs hC hR
    exact ⟨h2, s', f, Nat.le_refl _, e, o⟩
  rw [if_neg c21]
  by_cases c22 : a = 22
  · rw [if_pos c22]
    obtain ⟨h2, s', e, o⟩ := lc_22 d f i L xs hL hi hs hC hR
    exact ⟨h2, s', f, Nat.le_refl _, e, o⟩
  rw [if_neg c22]
  by_cases c23 : a = 23
  · rw [if_pos c23]
    obtain ⟨h2, s', e, o⟩ := lc_23 d f i L xs hL hi hs hC hR
    exact ⟨h2, s', f, Nat.le_refl _, e, o⟩
  rw [if_neg c23]
  by_cases c24 : a = 24
  · rw [if_pos c24]
    obtain ⟨h2, s', e, o⟩ := lc_24 d f i L xs hL hi hs hC hR
    exact ⟨h2, s', f, Nat.le_refl _, e, o⟩
  rw [if_neg c24]
  by_cases c25 : a = 25
  · rw [if_pos c25]
    obtain ⟨h2, s', e, o⟩ := lc_25 d f i L xs hL hi hs hC hR
    exact ⟨h2, s', f, Nat.le_refl _, e, o⟩
  rw [if_neg c25]
  by_cases c26 : a = 26
  · rw [if_pos c26]
    obtain ⟨h2, s', e, o⟩ := lc_26 d f i L xs hL hi hs hC hR
    exact ⟨h2, s', f, Nat.le_refl _, e, o⟩
  rw [if_neg c26]
  by_cases c27 : a = 27
  · rw [if_pos c27]
    obtain ⟨h2, s', e, o⟩ := lc_27 d f i L xs hL hi hs hC hR
    exact ⟨h2, s', f, Nat.le_refl _, e, o⟩
  rw [if_neg c27]
  by_cases c28 : a = 28
  · rw [if_pos c28]
    obtain ⟨h2, s', e, o⟩ := lc_28 d f i L xs hL hi hs hC hR
    exact ⟨h2, s', f, Nat.le_refl _, e, o⟩
  rw [if_neg c28]
  by_cases c29 : a = 29
  · rw [if_pos c29]
    obtain ⟨h2, s', e, o⟩ := lc_29 d f i L xs hL hi hs hC hR
    exact ⟨h2, s', f, Nat.le_refl _, e, o⟩
  rw [if_neg c29]
  by_cases c30 : a = 30
  · rw [if_pos c30]
    obtain ⟨h2, s', e, o⟩ := lc_30 d f i L xs hL hi hs hC hR
    exact ⟨h2, s', f, Nat.le_refl _, e, o⟩
  rw [if_neg c30]
  by_cases c31 : a = 31
  · rw [if_pos c31]
    obtain ⟨h2, s', e, o⟩ := lc_31 d f i L xs hL hi hs hC hR
    exact ⟨h2, s', f, Nat.le_refl _, e, o⟩
  rw [if_neg c31]
  by_cases c32 : a = 32
  · rw [if_pos c32]
    obtain ⟨h2, s', e, o⟩ := lc_32 d f i L xs hL hi hs hC hR
    exact ⟨h2, s', f, Nat.le_refl _, e, o⟩
  rw [if_neg c32]
  by_cases c33 : a = 33
  · rw [if_pos c33]
    obtain ⟨h2, s', e, o⟩ := lc_33 d f i L xs hL hi hs hC hR
    exact ⟨h2, s', f, Nat.le_refl _, e, o⟩
  rw [if_neg c33]
  by_cases c34 : a = 34
  · rw [if_pos c34]
    obtain ⟨h2, s', e, o⟩ := lc_34 d f i L xs hL hi hs hC hR
    exact ⟨h2, s', f, Nat.le_refl _, e, o⟩
  rw [if_neg c34]
  by_cases c35 : a = 35
  · rw [if_pos c35]
    obtain ⟨h2, s', e, o⟩ := lc_35 d f i L xs hL hi hs hC hR
    exact ⟨h2, s', f, Nat.le_refl _, e, o⟩
  rw [if_neg c35]
  by_cases c36 : a = 36
  · rw [if_pos c36]
    obtain ⟨h2, s', e, o⟩ := lc_36 d f i L xs hL hi hs hC hR
    exact ⟨h2, s', f, Nat.le_refl _, e, o⟩
  rw [if_neg c36]
  by_cases c37 : a = 37
  · rw [if_pos c37]
    obtain ⟨h2, s', e, o⟩ := lc_37 d f i L xs hL hi hs hC hR
    exact ⟨h2, s', f, Nat.le_refl _, e, o⟩
  rw [if_neg c37]
  by_cases c38 : a = 38
  · rw [if_pos c38]
    obtain ⟨h2, s', e, o⟩ := lc_38 d f i L xs hL hi hs hC hR
    exact ⟨h2, s', f, Nat.le_refl _, e, o⟩
  rw [if_neg c38]
  by_cases c39 : a = 39
  · rw [if_pos c39]
    obtain ⟨h2, s', e, o⟩ := lc_39 d f i L xs hL hi hs hC hR
    exact ⟨h2, s', f, Nat.le_refl _, e, o⟩
  rw [if_neg c39]
  by_cases c40 : a = 40
  · rw [if_pos c40]
    obtain ⟨h2, s', e, o⟩ := lc_40 d f i L xs hL hi hs hC hR
    exact ⟨h2, s', f, Nat.le_refl _, e, o⟩
  rw [if_neg c40]
  by_cases c41 : a = 41
  · rw [if_pos c41]
    obtain ⟨h2, s', e, o⟩ := lc_41 d f i L xs hL hi hs hC hR
    exact ⟨h2, s', f, Nat.le_refl _, e, o⟩
  rw [if_neg c41]
  by_cases c42 : a = 42
  · rw [if_pos c42]
    obtain ⟨h2, s', e, o⟩ := lc_42 d f i L xs hL hi hs hC hR
    exact ⟨h2, s', f, Nat.le_refl _, e, o⟩
  rw [if_neg c42]
  exact ⟨h, s, f + 1, by omega, rfl, hs, hC, hR⟩
theorem lw_sw (X : q_X) (O : q_O) (n : Nat) (Lc : q_L) (h : q_S) (a : Int32) : (if a = 0 then q_go e_law X O n 220 Lc [] h else if a = 1 then q_go e_law X O n 263 Lc [] h else if a = 2 then q_go e_law X O n 276 Lc [] h else if a = 3 then q_go e_law X O n 289 Lc [] h else if a = 4 then q_go e_law X O n 332 Lc [] h else if a = 5 then q_go e_law X O n 365 Lc [] h else if a = 6 then q_go e_law X O n 398 Lc [] h else if a = 7 then q_go e_law X O n 431 Lc [] h else if a = 8 then q_go e_law X O n 474 Lc [] h else if a = 9 then q_go e_law X O n 507 Lc [] h else if a = 10 then q_go e_law X O n 550 Lc [] h else if a = 11 then q_go e_law X O n 563 Lc [] h else if a = 12 then q_go e_law X O n 596 Lc [] h else if a = 13 then q_go e_law X O n 639 Lc [] h else if a = 14 then q_go e_law X O n 682 Lc [] h else if a = 15 then q_go e_law X O n 715 Lc [] h else if a = 16 then q_go e_law X O n 778 Lc [] h else if a = 17 then q_go e_law X O n 831 Lc [] h else if a = 18 then q_go e_law X O n 874 Lc [] h else if a = 19 then q_go e_law X O n 907 Lc [] h else if a = 20 then q_go e_law X O n 930 Lc [] h else if a = 21 then q_go e_law X O n 993 Lc [] h else if a = 22 then q_go e_law X O n 1026 Lc [] h else if a = 23 then q_go e_law X O n 1069 Lc [] h else if a = 24 then q_go e_law X O n 1102 Lc [] h else if a = 25 then q_go e_law X O n 1115 Lc [] h else if a = 26 then q_go e_law X O n 1128 Lc [] h else if a = 27 then q_go e_law X O n 1141 Lc [] h else if a = 28 then q_go e_law X O n 1154 Lc [] h else if a = 29 then q_go e_law X O n 1177 Lc [] h else if a = 30 then q_go e_law X O n 1190 Lc [] h else if a = 31 then q_go e_law X O n 1203 Lc [] h else if a = 32 then q_go e_law X O n 1246 Lc [] h else if a = 33 then q_go e_law X O n 1319 Lc [] h else if a = 34 then q_go e_law X O n 1353 Lc [] h else if a = 35 then q_go e_law X O n 1396 Lc [] h else if a = 36 then q_go e_law X O n 1459 Lc [] h else if a = 37 then q_go e_law X O n 1502 Lc [] h else if a = 38 then q_go e_law X O n 1525 Lc [] h else if a = 39 then q_go e_law X O n 1558 Lc [] h else if a = 40 then q_go e_law X O n 1571 Lc [] h else if a = 41 then q_go e_law X O n 1584 Lc [] h else if a = 42 then q_go e_law X O n 1597 Lc [] h else q_go e_law X O n 1620 Lc [] h) = q_go e_law X O n (lw_pc a) Lc [] h := by
  unfold lw_pc
  by_cases c0 : a = 0
  · rw [if_pos c0, if_pos c0]
  rw [if_neg c0, if_neg c0]
  by_cases c1 : a = 1
  · rw [if_pos c1, if_pos c1]
  rw [if_neg c1, if_neg c1]
  by_cases c2 : a = 2
  · rw [if_pos c2, if_pos c2]
  rw [if_neg c2, if_neg c2]
  by_cases c3 : a = 3
  · rw [if_pos c3, if_pos c3]
  rw [if_neg c3, if_neg c3]
  by_cases c4 : a = 4
  · rw [if_pos c4, if_pos c4]
  rw [if_neg c4, if_neg c4]
  by_cases c5 : a = 5
  · rw [if_pos c5, if_pos c5]
  rw [if_neg c5, if_neg c5]
  by_cases c6 : a = 6
  · rw [if_pos c6, if_pos c6]
  rw [if_neg c6, if_neg c6]
  by_cases c7 : a = 7
  · rw [if_pos c7, if_pos c7]
  rw [if_neg c7, if_neg c7]
  by_cases c8 : a = 8
  · rw [if_pos c8, if_pos c8]
  rw [if_neg c8, if_neg c8]
  by_cases c9 : a = 9
  · rw [if_pos c9, if_pos c9]
  rw [if_neg c9, if_neg c9]
  by_cases c10 : a = 10
  · rw [if_pos c10, if_pos c10]
  rw [if_neg c10, if_neg c10]
  by_cases c11 : a = 11
  · rw [if_pos c11, if_pos c11]
  rw [if_neg c11, if_neg c11]
  by_cases c12 : a = 12
  · rw [if_pos c12, if_pos c12]
  rw [if_neg c12, if_neg c12]
  by_cases c13 : a = 13
  · rw [if_pos c13, if_pos c13]
  rw [if_neg c13, if_neg c13]
  by_cases c14 : a = 14
  · rw [if_pos c14, if_pos c14]
  rw [if_neg c14, if_neg c14]
  by_cases c15 : a = 15
  · rw [if_pos c15, if_pos c15]
  rw [if_neg c15, if_neg c15]
  by_cases c16 : a = 16
  · rw [if_pos c16, if_pos c16]
  rw [if_neg c16, if_neg c16]
  by_cases c17 : a = 17
  · rw [if_pos c17, if_pos c17]
  rw [if_neg c17, if_neg c17]
  by_cases c18 : a = 18
  · rw [if_pos c18, if_pos c18]
  rw [if_neg c18, if_neg c18]
  by_cases c19 : a = 19
  · rw [if_pos c19, if_pos c19]
  rw [if_neg c19, if_neg c19]
  by_cases c20 : a = 20
  · rw [if_pos c20, if_pos c20]
  rw [if_neg c20, if_neg c20]
  by_cases c21 : a = 21
  · rw [if_pos c21, if_pos c21]
  rw [if_neg c21, if_neg c21]
  by_cases c22 : a = 22
  · rw [if_pos c22, if_pos c22]
  rw [if_neg c22, if_neg c22]
  by_cases c23 : a = 23
  · rw [if_pos c23, if_pos c23]
  rw [if_neg c23, if_neg c23]
  by_cases c24 : a = 24
  · rw [if_pos c24, if_pos c24]
  rw [if_neg c24, if_neg c24]
  by_cases c25 : a = 25
  · rw [if_pos c25, if_pos c25]
  rw [if_neg c25, if_neg c25]
  by_cases c26 : a = 26
  · rw [if_pos c26, if_pos c26]
  rw [if_neg c26, if_neg c26]
  by_cases c27 : a = 27
  · rw [if_pos c27, if_pos c27]
  rw [if_neg c27, if_neg c27]
  by_cases c28 : a = 28
  · rw [if_pos c28, if_pos c28]
  rw [if_neg c28, if_neg c28]
  by_cases c29 : a = 29
  · rw [if_pos c29, if_pos c29]
  rw [if_neg c29, if_neg c29]
  by_cases c30 : a = 30
  · rw [if_pos c30, if_pos c30]
  rw [if_neg c30, if_neg c30]
  by_cases c31 : a = 31
  · rw [if_pos c31, if_pos c31]
  rw [if_neg c31, if_neg c31]
  by_cases c32 : a = 32
  · rw [if_pos c32, if_pos c32]
  rw [if_neg c32, if_neg c32]
  by_cases c33 : a = 33
  · rw [if_pos c33, if_pos c33]
  rw [if_neg c33, if_neg c33]
  by_cases c34 : a = 34
  · rw [if_pos c34, if_pos c34]
  rw [if_neg c34, if_neg c34]
  by_cases c35 : a = 35
  · rw [if_pos c35, if_pos c35]
  rw [if_neg c35, if_neg c35]
  by_cases c36 : a = 36
  · rw [if_pos c36, if_pos c36]
  rw [if_neg c36, if_neg c36]
  by_cases c37 : a = 37
  · rw [if_pos c37, if_pos c37]
  rw [if_neg c37, if_neg c37]
  by_cases c38 : a = 38
  · rw [if_pos c38, if_pos c38]
  rw [if_neg c38, if_neg c38]
  by_cases c39 : a = 39
  · rw [if_pos c39, if_pos c39]
  rw [if_neg c39, if_neg c39]
  by_cases c40 : a = 40
  · rw [if_pos c40, if_pos c40]
  rw [if_neg c40, if_neg c40]
  by_cases c41 : a = 41
  · rw [if_pos c41, if_pos c41]
  rw [if_neg c41, if_neg c41]
  by_cases c42 : a = 42
  · rw [if_pos c42, if_pos c42]
  rw [if_neg c42, if_neg c42]
theorem lw_end {L i : Nat} (hL : L ≤ 3072) (hi : i ≤ 4000) : nI L - 6 < nI i ↔ L < i + 6 := by
  rw [Int32.lt_iff_toInt_lt, show (6 : Int32) = nI 6 from rfl, pk_sub_toInt (by omega) (by omega), nI_toInt (by omega)]
  omega
theorem lw_go (d L : Nat) (xs : Nat → Int32) (hL : L ≤ 3072) : ∀ m i f s h, L < i + 6 * m + 6 → i ≤ 3078 → 3 * m + 1 < f → qs_ok s → qs_C h s → qs_R h s → ∃ h2, q_go e_law (q_XL L xs) (q_sem (d + 20)) f 18 [(0, .ref 105), (1, .ref 0), (2, .ref 67), (3, .int (nI i))] [] h = some (h2, some (.int 1)) := by
  intro m
  induction m with
  | zero =>
    intro i f s h hm hi hf hs hC hR
    obtain ⟨f, rfl⟩ : ∃ g, f = g + 1 := ⟨f - 1, by omega⟩
    exact ⟨h, by rw [blaw_18, xl_len, if_pos ((lw_end hL (by omega)).mpr (by omega))]⟩
  | succ m ih =>
    intro i f s h hm hi hf hs hC hR
    obtain ⟨f, rfl⟩ : ∃ g, f = g + 1 + 1 := ⟨f - 2, by omega⟩
    by_cases w : L < i + 6
    · exact ⟨h, by rw [blaw_18, xl_len, if_pos ((lw_end hL (by omega)).mpr w)]⟩
    · obtain ⟨h2, s', f', hf', e, o, C, R⟩ := lw_case d f i L xs (xs i &&& 63) hL (by omega) hs hC hR
      obtain ⟨f', rfl⟩ : ∃ g, f' = g + 1 := ⟨f' - 1, by omega⟩
      obtain ⟨h3, e3⟩ := ih (i + 6) f' s' h2 (by omega) (by omega) (by omega) o C R
      refine ⟨h3, ?_⟩
      rw [blaw_18, xl_len, if_neg (fun q => w ((lw_end hL (by omega)).mp q)), xl_at (by omega) hL, lw_sw, e, blaw_1620, show (6 : Int32) = nI 6 from rfl, nI_add, e3]
