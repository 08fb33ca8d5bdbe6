/-! ===== image, back ===== -/
theorem s35_30 (d : Nat) (h : q_S) : ∃ h2, q_sem (d + 1) 35 h [.ref 30, .ref 34] = some (h2, none) ∧ h2.1 30 3 = h.1 34 3 ∧ (∀ a i, a < 3 → i < 8 → h2.1 (31 + a) i = h.1 (35 + a) i) ∧ (∀ a j, ¬ (30 ≤ a ∧ a ≤ 33) → h2.1 a j = h.1 a j) ∧ h2.2 = h.2 := by
  refine ⟨q_cpi (q_cpi (q_cpi (q_si h 30 3 (h.1 34 3)) 35 0 31 0 8) 36 0 32 0 8) 37 0 33 0 8, ?_, ?_, ?_, ?_, rfl⟩
  · rw [m35, show (0 : Int32) = nI 0 from rfl, show (8 : Int32) = nI 8 from rfl, arc_i rfl rfl (by decide) (by decide) (by decide) (by decide), arc_i rfl rfl (by decide) (by decide) (by decide) (by decide), arc_i rfl rfl (by decide) (by decide) (by decide) (by decide)]
  · rw [cpi_ne (by omega), cpi_ne (by omega), cpi_ne (by omega), qw_si_eq]
  · intro a i ha hi
    rcases q3 ha with rfl | rfl | rfl
    · rw [show 31 + 0 = 31 from rfl, show 35 + 0 = 35 from rfl, cpi_ne (by omega), cpi_ne (by omega), cpi_eq, if_pos (by omega), qw_si_ne (by omega), Nat.sub_zero, Nat.zero_add]
    · rw [show 31 + 1 = 32 from rfl, show 35 + 1 = 36 from rfl, cpi_ne (by omega), cpi_eq, if_pos (by omega), cpi_ne (by omega), qw_si_ne (by omega), Nat.sub_zero, Nat.zero_add]
    · rw [show 31 + 2 = 33 from rfl, show 35 + 2 = 37 from rfl, cpi_eq, if_pos (by omega), cpi_ne (by omega), cpi_ne (by omega), qw_si_ne (by omega), Nat.sub_zero, Nat.zero_add]
  · intro a j q
    rw [cpi_ne (by omega), cpi_ne (by omega), cpi_ne (by omega), qw_si_ne (by omega)]
theorem s35_34 (d : Nat) (h : q_S) : ∃ h2, q_sem (d + 1) 35 h [.ref 34, .ref 30] = some (h2, none) ∧ h2.1 34 3 = h.1 30 3 ∧ (∀ a i, a < 3 → i < 8 → h2.1 (35 + a) i = h.1 (31 + a) i) ∧ (∀ a j, ¬ (34 ≤ a ∧ a ≤ 37) → h2.1 a j = h.1 a j) ∧ h2.2 = h.2 := by
  refine ⟨q_cpi (q_cpi (q_cpi (q_si h 34 3 (h.1 30 3)) 31 0 35 0 8) 32 0 36 0 8) 33 0 37 0 8, ?_, ?_, ?_, ?_, rfl⟩
  · rw [m35_1, show (0 : Int32) = nI 0 from rfl, show (8 : Int32) = nI 8 from rfl, arc_i rfl rfl (by decide) (by decide) (by decide) (by decide), arc_i rfl rfl (by decide) (by decide) (by decide) (by decide), arc_i rfl rfl (by decide) (by decide) (by decide) (by decide)]
  · rw [cpi_ne (by omega), cpi_ne (by omega), cpi_ne (by omega), qw_si_eq]
  · intro a i ha hi
    rcases q3 ha with rfl | rfl | rfl
    · rw [show 35 + 0 = 35 from rfl, show 31 + 0 = 31 from rfl, cpi_ne (by omega), cpi_ne (by omega), cpi_eq, if_pos (by omega), qw_si_ne (by omega), Nat.sub_zero, Nat.zero_add]
    · rw [show 35 + 1 = 36 from rfl, show 31 + 1 = 32 from rfl, cpi_ne (by omega), cpi_eq, if_pos (by omega), cpi_ne (by omega), qw_si_ne (by omega), Nat.sub_zero, Nat.zero_add]
    · rw [show 35 + 2 = 37 from rfl, show 31 + 2 = 33 from rfl, cpi_eq, if_pos (by omega), cpi_ne (by omega), cpi_ne (by omega), qw_si_ne (by omega), Nat.sub_zero, Nat.zero_add]
  · intro a j q
    rw [cpi_ne (by omega), cpi_ne (by omega), cpi_ne (by omega), qw_si_ne (by omega)]
theorem pk_arr {h0 h : q_S} {g c0 : Nat} (iv : qk_inv h0 g c0 68 h) {k i : Nat} (hk : k < 8) (hi : i < 8) : h.1 (if k < 5 then 68 + k else 84 + k) i = (if g = 1 then h0.1 (if k < 5 then 68 + k else 84 + k) i else h0.1 98 (c0 + (4 + 8 * k + i))) ∧ h.1 98 (c0 + (4 + 8 * k + i)) = (if g = 1 then h0.1 (if k < 5 then 68 + k else 84 + k) i else h0.1 98 (c0 + (4 + 8 * k + i))) := by
  obtain ⟨b1, b2⟩ := qk_arr k hk i hi
  have := iv.2.2.1 (4 + 8 * k + i) (by omega)
  unfold qk_V at this
  rw [b1, b2] at this
  exact this
theorem pk_sc {h0 h : q_S} {g c0 : Nat} (iv : qk_inv h0 g c0 68 h) : (h.1 67 0 = (if g = 1 then h0.1 67 0 else h0.1 98 c0) ∧ h.1 98 c0 = (if g = 1 then h0.1 67 0 else h0.1 98 c0)) ∧ (h.1 67 1 = (if g = 1 then h0.1 67 1 else h0.1 98 (c0 + 1)) ∧ h.1 98 (c0 + 1) = (if g = 1 then h0.1 67 1 else h0.1 98 (c0 + 1))) ∧ (h.1 67 2 = (if g = 1 then h0.1 67 2 else h0.1 98 (c0 + 2)) ∧ h.1 98 (c0 + 2) = (if g = 1 then h0.1 67 2 else h0.1 98 (c0 + 2))) ∧ (h.1 67 26 = (if g = 1 then h0.1 67 26 else h0.1 98 (c0 + 3)) ∧ h.1 98 (c0 + 3) = (if g = 1 then h0.1 67 26 else h0.1 98 (c0 + 3))) :=
  ⟨iv.2.2.1 0 (by omega), iv.2.2.1 1 (by omega), iv.2.2.1 2 (by omega), iv.2.2.1 3 (by omega)⟩
def qt_im (t : qT) : qT := fun a i => if a = 0 ∧ i = 11 then 1 else if a = 0 ∧ i = 12 then t 0 0 else if 10 ≤ a ∧ a ≤ 12 then t (a - 9) i else t a i
theorem ti_ne {t : qT} {a i : Nat} (h : ¬ ((a = 0 ∧ (i = 11 ∨ i = 12)) ∨ (10 ≤ a ∧ a ≤ 12))) : qt_im t a i = t a i := by
  unfold qt_im
  rw [if_neg (by omega), if_neg (by omega), if_neg (by omega)]
theorem ti_a {t : qT} {a i : Nat} (h : a < 3) : qt_im t (10 + a) i = t (1 + a) i := by
  unfold qt_im
  rw [if_neg (by omega), if_neg (by omega), if_pos (by omega), show 10 + a - 9 = 1 + a by omega]
theorem l203 (X : q_X) (O : q_O) (l : qv_L) (hl : qv_ok l) (h0 : q_S) : ∀ m f i h, i + m = l 0 0 → m < f → h.1 67 0 = nI (l 0 0) → qw_rd h l → (∀ a j, ¬ (99 ≤ a ∧ a ≤ 101) → h.1 a j = h0.1 a j) → h.2 = h0.2 → (∀ j, j < i → h.1 99 j = nI (qv_I l j) ∧ h.1 100 j = nI (qv_G l j) ∧ h.1 101 j = nI (qw_K l j)) → ∃ h2, q_go e_203 X O f 20 [(0, .ref 67), (1, .int (nI i))] [] h = some (h2, some (.int (nI (l 0 0)))) ∧ (∀ a j, ¬ (99 ≤ a ∧ a ≤ 101) → h2.1 a j = h0.1 a j) ∧ h2.2 = h0.2 ∧ (∀ j, j < l 0 0 → h2.1 99 j = nI (qv_I l j) ∧ h2.1 100 j = nI (qv_G l j) ∧ h2.1 101 j = nI (qw_K l j)) := by
  have h8 := hl.1
  intro m
  induction m with
  | zero =>
    intro f i h hi hf e0 e1 e2 e3 e4
    obtain ⟨f, rfl⟩ : ∃ g, f = g + 1 := ⟨f - 1, by omega⟩
    refine ⟨h, ?_, e2, e3, fun j hj => e4 j (by omega)⟩
    rw [b203_20, e0, if_neg (by rw [nI_lt_iff (by omega) (by omega)]; omega)]
  | succ m ih =>
    intro f i h hi hf e0 e1 e2 e3 e4
    obtain ⟨f, rfl⟩ : ∃ g, f = g + 1 := ⟨f - 1, by omega⟩
    obtain ⟨r1, r2, r3, r4, r5⟩ := e1 i (by omega)
    rw [b203_20, e0, if_pos (by rw [nI_lt_iff (by omega) (by omega)]; omega), nI_p1]
    simp only [q_ix_n (show i < 8 by omega) (show 8 < 2147483648 by decide)]
    rw [r2, r3, r4]
    refine ih f (i + 1) _ (by omega) (by omega) (by rw [qw_si_ne (by omega), qw_si_ne (by omega), qw_si_ne (by omega)]; exact e0) (qw_rd_fr ⟨by funext j; rw [qw_si_ne (by omega), qw_si_ne (by omega), qw_si_ne (by omega)], by funext j; rw [qw_si_ne (by omega), qw_si_ne (by omega), qw_si_ne (by omega)], by funext j; rw [qw_si_ne (by omega), qw_si_ne (by omega), qw_si_ne (by omega)], by funext j; rw [qw_si_ne (by omega), qw_si_ne (by omega), qw_si_ne (by omega)], by funext j; rw [qw_si_ne (by omega), qw_si_ne (by omega), qw_si_ne (by omega)]⟩ e1) (fun a j q => by rw [qw_si_ne (by omega), qw_si_ne (by omega), qw_si_ne (by omega)]; exact e2 a j q) e3 ?_
    intro j hj
    by_cases z : j = i
    · subst z
      exact ⟨by rw [qw_si_ne (by omega), qw_si_ne (by omega), qw_si_eq], by rw [qw_si_ne (by omega), qw_si_eq], by rw [qw_si_eq]⟩
    · rw [qw_si_ne (by omega), qw_si_ne (by omega), qw_si_ne (by omega), qw_si_ne (by omega), qw_si_ne (by omega), qw_si_ne (by omega), qw_si_ne (by omega), qw_si_ne (by omega), qw_si_ne (by omega)]
      exact e4 j (by omega)
theorem c100 : qs_st 100 203 [] := by
  intro s hs
  have h8 := hs.1.1
  obtain ⟨o1, o2, o3, o4, o5, o6, o7⟩ := hs
  refine ⟨.int (nI (s.1 0 0)), (s.1, s.1, qt_im s.2.2.1, s.2.2.2), mk_ok o1 (Or.inr ⟨rfl, o1, ?_⟩) (f_or (fun a j q => ti_ne (by omega)) o3) (f_ch (fun a j q => ti_ne (by omega)) o4) (f_tp (fun a j q => ti_ne (by omega)) o5) (f_rw (fun a j q => ti_ne (by omega)) o6) (f_tc (fun a j q => ti_ne (by omega)) o7), ?_, ?_⟩
  · obtain ⟨w, hw, e, f⟩ := o3
    refine ⟨w, hw, e, fun i hi => ?_⟩
    obtain ⟨k, hk, g⟩ := f i hi
    exact ⟨k, hk, (ti_a (a := 0) (by omega)).trans g⟩
  · rintro d h ⟨c1, c2, c3, c4, c5, c6, c7, c8⟩
    obtain ⟨h2, e1, e2, e3, e4⟩ := s16_24_12 (d + 12) c1
    obtain ⟨h3, f1, f2, f3, f4, f5⟩ := s35_34 (d + 12) h2
    have u : ∀ a j, ¬ (24 ≤ a ∧ a ≤ 29) → ¬ (34 ≤ a ∧ a ≤ 37) → ¬ (a = 0 ∧ j = 5) → (q_si h3 0 5 1).1 a j = h.1 a j := fun a j p q r => (qw_si_ne (by omega)).trans ((f4 a j q).trans (e3 a j p))
    have ul : (q_si h3 0 5 1).2 = h.2 := f5.trans e4
    have a24 : qv_at (q_si h3 0 5 1) 24 s.1 := ⟨by rw [qw_si_ne (by omega), f4 _ _ (by omega)]; exact e2.1, by rw [qw_si_ne (by omega), f4 _ _ (by omega)]; exact e2.2.1, by rw [qw_si_ne (by omega), f4 _ _ (by omega)]; exact e2.2.2.1, fun a i x y z => by rw [qw_si_ne (by omega), f4 _ _ (by omega)]; exact e2.2.2.2 a i x y z⟩
    refine ⟨_, by rw [m100, e1, q_c0_s, f1, q_c0_s, f4 24 6 (by omega), e2.1], mk_C (f_c1 (fun a j q => u a j (by omega) (by omega) (by omega)) c1) ⟨qw_si_eq _ _ _ _, fun _ => ⟨a24, ?_, fun a i x y => ?_⟩⟩ (f_c3 (fun a j q => u a j (by omega) (by omega) (by omega)) (fun a j q => ti_ne (by omega)) c3) (f_c4 (fun a j q => u a j (by omega) (by omega) (by omega)) (fun a j q => ti_ne (by omega)) c4) (f_c5 (fun a j q => u a j (by omega) (by omega) (by omega)) (fun a j q => ti_ne (by omega)) c5) (f_c6 (fun a j q => u a j (by omega) (by omega) (by omega)) (fun a j _ => by rw [ul]) (fun a j q => ti_ne (by omega)) c6) (f_c7 (fun a j q => u a j (by omega) (by omega) (by omega)) (by rw [ul]) (fun a j q => ti_ne (by omega)) c7) (f_z (fun a j _ => by rw [ul]) c8)⟩
    · rw [qw_si_ne (by omega), f2, e3 _ _ (by omega), c3.1]
      rfl
    · rw [qw_si_ne (by omega), f3 a i x y, e3 _ _ (by omega), c3.2 a i x y, ti_a x]
  · rintro d h ⟨c1, c2, c3, c4, c5, c6, c7⟩
    obtain ⟨h1, a1, iv⟩ := s202 (d + 10) h (g := 1) (w := 1) (by omega) (by omega)
    have sc := pk_sc iv
    simp only [if_true] at sc
    obtain ⟨⟨p0, q0⟩, ⟨p1, q1⟩, ⟨p2, q2⟩, ⟨p3, q3'⟩⟩ := sc
    have ar : ∀ k i, k < 8 → i < 8 → h1.1 (if k < 5 then 68 + k else 84 + k) i = h.1 (if k < 5 then 68 + k else 84 + k) i ∧ h1.1 98 (70 + (4 + 8 * k + i)) = h.1 (if k < 5 then 68 + k else 84 + k) i := by
      intro k i hk hi
      have := pk_arr iv hk hi
      simp only [if_true] at this
      exact this
    have L1 : qw_at h1 s.1 := ⟨p0.trans c1.1, p1.trans c1.2.1, p2.trans c1.2.2.1, fun a i x y z => by
      have := (ar (a - 1) i (by omega) z).1
      rw [if_pos (by omega), show 68 + (a - 1) = 67 + a by omega] at this
      rw [this]
      exact c1.2.2.2 a i x y z⟩
    obtain ⟨h2, b1, b2, b3⟩ := s126 (d + 11) h1 s.1 o1 L1
    have L2 := qw_sc_at b3 L1
    obtain ⟨h3, g1, g2, g3, g4⟩ := l203 q_X0 (q_sem (d + 13)) s.1 o1 (q_si h2 67 45 (nI (s.1 0 0))) (s.1 0 0) 999 0 _ (by omega) (by omega) (by rw [qw_si_ne (by omega)]; exact L2.1) (qw_rd_fr ⟨by funext j; rw [qw_si_ne (by omega)], by funext j; rw [qw_si_ne (by omega)], by funext j; rw [qw_si_ne (by omega)], by funext j; rw [qw_si_ne (by omega)], by funext j; rw [qw_si_ne (by omega)]⟩ b2) (fun _ _ _ => rfl) rfl (fun j hj => absurd hj (by omega))
    have hT : ∀ a, a ∉ qw_T ↔ ¬ (a = 73 ∨ a = 74 ∨ a = 75 ∨ a = 76 ∨ a = 77 ∨ a = 79 ∨ a = 80) := by
      intro a
      simp [qw_T]
    have v : ∀ a j, ((67 ≤ a ∧ a < 73) ∨ (80 < a ∧ a < 99)) → ¬ (a = 67 ∧ j = 45) → h3.1 a j = h1.1 a j := fun a j p q => by rw [g2 a j (by omega), qw_si_ne q, b3.1 a ((hT a).mpr (by omega))]
    have w1 : ∀ a j, ((a = 67 ∧ j ≠ 44 ∧ j ≠ 45 ∧ j ≠ 46) ∨ (80 < a ∧ a < 89) ∨ (91 < a ∧ a < 98)) → h3.1 a j = h.1 a j := by
      intro a j p
      rw [v a j (by omega) (by omega)]
      by_cases z : a = 67 ∧ (j < 3 ∨ j = 26)
      · obtain ⟨rfl, z⟩ := z
        rcases (by omega : j = 0 ∨ j = 1 ∨ j = 2 ∨ j = 26) with rfl | rfl | rfl | rfl
        · exact p0
        · exact p1
        · exact p2
        · exact p3
      · exact iv.2.2.2.2.1 a j (by omega) (by omega) (by omega) (by omega)
    have wo : ∀ a i, a < 3 → i < 8 → h3.1 (89 + a) i = h.1 (89 + a) i ∧ h3.1 98 (114 + 8 * a + i) = h.1 (89 + a) i := by
      intro a i ha hi
      have := ar (5 + a) i (by omega) hi
      rw [if_neg (by omega), show 84 + (5 + a) = 89 + a by omega, show 70 + (4 + 8 * (5 + a) + i) = 114 + 8 * a + i by omega] at this
      exact ⟨(v _ _ (by omega) (by omega)).trans this.1, (v _ _ (by omega) (by omega)).trans this.2⟩
    have ul : ∀ a j, a ≠ 78 → h3.2.1 a j = h.2.1 a j := fun a j p => by rw [g3]; show h2.2.1 a j = _; rw [b3.2.2 a p, iv.2.2.2.2.2]
    refine ⟨h3, ?_, mk_R (f_r1 (fun a j q => v a j (by omega) (by omega)) L1) ⟨fun q => absurd (show (1 : Int32) = 0 from q) (by decide), fun _ => ⟨?_, ⟨?_, ?_, ?_, ?_, ?_, ?_⟩, g4⟩⟩ ⟨(w1 _ _ (by omega)).trans c3.1, fun a i x y => (wo a i x y).1.trans ((c3.2 a i x y).trans (ti_ne (by omega)).symm)⟩ (f_r4 (fun a j q => w1 a j (by omega)) (fun a j q => ti_ne (by omega)) c4) (f_r5 (fun a j q => w1 a j (by omega)) (fun a j q => ti_ne (by omega)) c5) (f_r6 (fun a j q => w1 a j (by omega)) (fun a j q => ul a j (by omega)) (fun a j q => ti_ne (by omega)) c6) (f_r7 (fun a j q => w1 a j (by omega)) (fun a j q => ti_ne (by omega)) c7)⟩
    · rw [m203, show q_sem (d + 13) 202 h [.ref 67, .int 1, .int 1] = _ from a1, q_c0_s, b1, q_c0_s, L2.1]
      exact g1
    · rw [g2 _ _ (by omega), qw_si_eq]
    · exact (v _ _ (by omega) (by omega)).trans (q0.trans c1.1)
    · exact (v _ _ (by omega) (by omega)).trans (q1.trans c1.2.1)
    · exact (v _ _ (by omega) (by omega)).trans (q2.trans c1.2.2.1)
    · exact (v _ _ (by omega) (by omega)).trans (q3'.trans c3.1)
    · intro a i x y z
      have := (ar (a - 1) i (by omega) z).2
      rw [if_pos (by omega), show 68 + (a - 1) = 67 + a by omega, show 70 + (4 + 8 * (a - 1) + i) = 66 + 8 * a + i by omega] at this
      exact (v _ _ (by omega) (by omega)).trans (this.trans (c1.2.2.2 a i x y z))
    · intro a i x y
      rw [ti_a x]
      exact (wo a i x y).2.trans (c3.2 a i x y)
def qt_bk (t : qT) : qT := fun a i => if a = 0 ∧ i = 0 then t 0 12 else if a = 0 ∧ (i = 1 ∨ i = 2) then 0 else if 1 ≤ a ∧ a ≤ 3 then t (a + 9) i else t a i
theorem tb_ne {t : qT} {a i : Nat} (h : ¬ ((a = 0 ∧ i ≤ 2) ∨ (1 ≤ a ∧ a ≤ 3))) : qt_bk t a i = t a i := by
  unfold qt_bk
  rw [if_neg (by omega), if_neg (by omega), if_neg (by omega)]
theorem tb_a {t : qT} {a i : Nat} (h : a < 3) : qt_bk t (1 + a) i = t (10 + a) i := by
  unfold qt_bk
  rw [if_neg (by omega), if_neg (by omega), if_pos (by omega), show 1 + a + 9 = 10 + a by omega]
theorem c102 : qs_st 102 205 [] := by
  intro s hs
  have h8 := hs.1.1
  rcases hs.2.1 with im | ⟨im, om, oo⟩
  · refine qs_no (.int (-5)) hs ?_ ?_
    · intro d h hc
      rw [m102, hc.2.1.1, im, if_pos rfl]
    · intro d h hr
      rw [m205, hr.2.1.1 im, if_pos (by decide)]
  · have m8 := om.1
    obtain ⟨o1, o2, o3, o4, o5, o6, o7⟩ := hs
    refine ⟨.int (nI (s.2.1 0 0)), (s.2.1, s.2.1, qt_bk s.2.2.1, s.2.2.2), mk_ok om (f_im (fun a j q => tb_ne (by omega)) o2) ?_ (qs_ch0 rfl rfl) (f_tp (fun a j q => tb_ne (by omega)) o5) (f_rw (fun a j q => tb_ne (by omega)) o6) (f_tc (fun a j q => tb_ne (by omega)) o7), ?_, ?_⟩
    · obtain ⟨w, hw, e, f⟩ := oo
      refine ⟨w, hw, e, fun i hi => ?_⟩
      obtain ⟨k, hk, g⟩ := f i hi
      exact ⟨k, hk, (tb_a (a := 0) (by omega)).trans g⟩
    · rintro d h ⟨c1, c2, c3, c4, c5, c6, c7, c8⟩
      obtain ⟨i1, i2, i3⟩ := c2.2 im
      obtain ⟨h2, e1, e2, e3, e4⟩ := s16_12_24 (d + 12) i1
      obtain ⟨h3, f1, f2, f3, f4, f5⟩ := s35_30 (d + 12) h2
      have u : ∀ a j, ¬ (12 ≤ a ∧ a ≤ 17) → ¬ (30 ≤ a ∧ a ≤ 33) → ¬ (a = 38 ∧ (j = 4 ∨ j = 5)) → (q_si (q_si h3 38 4 0) 38 5 0).1 a j = h.1 a j := fun a j p q r => (qw_si_ne (by omega)).trans ((qw_si_ne (by omega)).trans ((f4 a j q).trans (e3 a j p)))
      have ul : (q_si (q_si h3 38 4 0) 38 5 0).2 = h.2 := f5.trans e4
      have a12 : qv_at (q_si (q_si h3 38 4 0) 38 5 0) 12 s.2.1 := f_c1 (fun a j q => (qw_si_ne (by omega)).trans ((qw_si_ne (by omega)).trans (f4 a j (by omega)))) e2
      refine ⟨_, by rw [m102, c2.1, im, if_neg (by decide), e1, q_c0_s, f1, q_c0_s, m0, q_c0_s, a12.1], mk_C a12 (f_c2 (fun a j q => u a j (by omega) (by omega) (by omega)) (fun a j q => tb_ne (by omega)) c2) ⟨?_, fun a i x y => ?_⟩ ⟨?_, ?_, fun a i x y => ?_⟩ (f_c5 (fun a j q => u a j (by omega) (by omega) (by omega)) (fun a j q => tb_ne (by omega)) c5) (f_c6 (fun a j q => u a j (by omega) (by omega) (by omega)) (fun a j _ => by rw [ul]) (fun a j q => tb_ne (by omega)) c6) (f_c7 (fun a j q => u a j (by omega) (by omega) (by omega)) (by rw [ul]) (fun a j q => tb_ne (by omega)) c7) (f_z (fun a j _ => by rw [ul]) c8)⟩
      · rw [qw_si_ne (by omega), qw_si_ne (by omega), f2, e3 _ _ (by omega), i2]
        rfl
      · rw [qw_si_ne (by omega), qw_si_ne (by omega), f3 a i x y, e3 _ _ (by omega), i3 a i x y, tb_a x]
      · rw [qw_si_ne (by omega), qw_si_eq]
        rfl
      · rw [qw_si_eq]
        rfl
      · rw [u _ _ (by omega) (by omega) (by omega), tb_ne (by omega)]
        exact c4.2.2 a i x y
    · rintro d h ⟨c1, c2, c3, c4, c5, c6, c7⟩
      obtain ⟨i1, ⟨j0, j1, j2, j3, j4, j5⟩, i3⟩ := c2.2 im
      obtain ⟨h1, a1, iv⟩ := s202 (d + 10) h (g := 0) (w := 1) (by omega) (by omega)
      have sc := pk_sc iv
      simp only [show ¬ (0 : Nat) = 1 by omega, if_false] at sc
      obtain ⟨⟨p0, q0⟩, ⟨p1, q1⟩, ⟨p2, q2⟩, ⟨p3, q3'⟩⟩ := sc
      have ar : ∀ k i, k < 8 → i < 8 → h1.1 (if k < 5 then 68 + k else 84 + k) i = h.1 98 (70 + (4 + 8 * k + i)) ∧ h1.1 98 (70 + (4 + 8 * k + i)) = h.1 98 (70 + (4 + 8 * k + i)) := by
        intro k i hk hi
        have := pk_arr iv hk hi
        rw [if_neg (show ¬ (0 : Nat) = 1 by omega)] at this
        exact this
      have L1 : qw_at h1 s.2.1 := ⟨p0.trans j0, p1.trans j1, p2.trans j2, fun a i x y z => by
        have := (ar (a - 1) i (by omega) z).1
        rw [if_pos (by omega), show 68 + (a - 1) = 67 + a by omega, show 70 + (4 + 8 * (a - 1) + i) = 66 + 8 * a + i by omega] at this
        rw [this]
        exact j4 a i x y z⟩
      have k98 : ∀ j, 70 ≤ j → h1.1 98 j = h.1 98 j := by
        intro j hj
        by_cases z : j < 138
        · have r := iv.2.2.1 (j - 70) (by omega)
          unfold qk_V at r
          rw [if_neg (show ¬ (0 : Nat) = 1 by omega), show 70 * 1 + (j - 70) = j by omega] at r
          exact r.2
        · exact iv.2.2.2.2.1 98 j (by omega) (by omega) (by omega) (by omega)
      have w1 : ∀ a j, ((a = 67 ∧ (j = 35 ∨ j = 39 ∨ j = 45)) ∨ (80 < a ∧ a < 89) ∨ (91 < a ∧ a < 98) ∨ (a = 98 ∧ 70 ≤ j) ∨ 98 < a) → (q_si (q_si h1 67 20 0) 67 21 0).1 a j = h.1 a j := by
        intro a j p
        rw [qw_si_ne (by omega), qw_si_ne (by omega)]
        by_cases z : a = 98
        · subst z
          exact k98 j (by omega)
        · exact iv.2.2.2.2.1 a j (by omega) (by omega) (by omega) (by omega)
      have L2 : qw_at (q_si (q_si h1 67 20 0) 67 21 0) s.2.1 := f_r1 (fun a j q => (qw_si_ne (by omega)).trans (qw_si_ne (by omega))) L1
      refine ⟨_, ?_, mk_R L2 (f_r2 (fun a j q => w1 a j (by omega)) (fun a j q => tb_ne (by omega)) c2) ⟨?_, fun a i x y => ?_⟩ ⟨?_, ?_, fun a i x y => ?_⟩ (f_r5 (fun a j q => w1 a j (by omega)) (fun a j q => tb_ne (by omega)) c5) (f_r6 (fun a j q => w1 a j (by omega)) (fun a j q => by show h1.2.1 a j = _; rw [iv.2.2.2.2.2]) (fun a j q => tb_ne (by omega)) c6) (f_r7 (fun a j q => w1 a j (by omega)) (fun a j q => tb_ne (by omega)) c7)⟩
      · rw [m205, i1, if_neg (nI_lt0 (by omega)), show q_sem (d + 13) 202 h [.ref 67, .int 1, .int 0] = _ from a1, q_c0_s, m134, q_c0_s, L2.1]
      · rw [qw_si_ne (by omega), qw_si_ne (by omega), p3]
        exact j3
      · have := (ar (5 + a) i (by omega) y).1
        rw [if_neg (by omega), show 84 + (5 + a) = 89 + a by omega, show 70 + (4 + 8 * (5 + a) + i) = 114 + 8 * a + i by omega] at this
        rw [qw_si_ne (by omega), qw_si_ne (by omega), this, tb_a x]
        exact j5 a i x y
      · rw [qw_si_ne (by omega), qw_si_eq]
        rfl
      · rw [qw_si_eq]
        rfl
      · rw [w1 _ _ (by omega), tb_ne (by omega)]
        exact c4.2.2 a i x y
