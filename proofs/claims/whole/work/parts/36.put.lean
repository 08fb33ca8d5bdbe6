/-! ===== set, undo, redo: what is told ===== -/
def qv_get (l : qv_L) (w k : Nat) : Nat := if w = 0 then l 2 k else if w = 1 then l 4 k else if w = 2 then l 3 k else if w = 3 then l 5 k else if w = 4 then l 0 1 else l 0 2
theorem q6 {w : Nat} (h : w ≤ 5) : w = 0 ∨ w = 1 ∨ w = 2 ∨ w = 3 ∨ w = 4 ∨ w = 5 := by omega
theorem put_0 (l : qv_L) (k v : Nat) : qv_put l 0 k v = ql l 2 k v := by funext a i; simp [qv_put, ql]
theorem put_1 (l : qv_L) (k v : Nat) : qv_put l 1 k v = ql l 4 k v := by funext a i; simp [qv_put, ql]
theorem put_2 (l : qv_L) (k v : Nat) : qv_put l 2 k v = ql l 3 k v := by funext a i; simp [qv_put, ql]
theorem put_3 (l : qv_L) (k v : Nat) : qv_put l 3 k v = ql l 5 k v := by funext a i; simp [qv_put, ql]
theorem put_4 (l : qv_L) (k v : Nat) : qv_put l 4 k v = ql l 0 1 v := by funext a i; simp [qv_put, ql]
theorem put_5 (l : qv_L) (k v : Nat) : qv_put l 5 k v = ql l 0 2 v := by funext a i; simp [qv_put, ql]
theorem ql_ql (l : qv_L) (a i v : Nat) : ql (ql l a i v) a i (l a i) = l := by
  funext b j
  simp only [ql]
  split
  · rename_i q
    rw [q.1, q.2]
  · rfl
theorem put_put (l : qv_L) {w : Nat} (hw : w ≤ 5) (k v : Nat) : qv_put (qv_put l w k v) w k (qv_get l w k) = l := by
  rcases q6 hw with rfl | rfl | rfl | rfl | rfl | rfl
  · rw [put_0, put_0]; exact ql_ql ..
  · rw [put_1, put_1]; exact ql_ql ..
  · rw [put_2, put_2]; exact ql_ql ..
  · rw [put_3, put_3]; exact ql_ql ..
  · rw [put_4, put_4]; exact ql_ql ..
  · rw [put_5, put_5]; exact ql_ql ..
theorem s23 (d : Nat) {h : q_S} {l : qv_L} (hL : qv_at h 12 l) {w k : Nat} (hw : w ≤ 5) (hk : k < 8) {x : Int32} (hx : w ≤ 3 → x = nI k) : q_sem (d + 1) 23 h [.ref 12, .int (nI w), .int x] = some (h, some (.int (nI (qv_get l w k)))) := by
  rcases q6 hw with rfl | rfl | rfl | rfl | rfl | rfl
  · rw [m23, if_pos (by decide), hx (by omega), q_ix_n hk (by decide), show h.1 14 k = nI (l 2 k) from hL.2.2.2 2 k (by omega) (by omega) hk]
    rfl
  · rw [m23, if_neg (by decide), if_pos (by decide), hx (by omega), q_ix_n hk (by decide), show h.1 16 k = nI (l 4 k) from hL.2.2.2 4 k (by omega) (by omega) hk]
    rfl
  · rw [m23, if_neg (by decide), if_neg (by decide), if_pos (by decide), hx (by omega), q_ix_n hk (by decide), show h.1 15 k = nI (l 3 k) from hL.2.2.2 3 k (by omega) (by omega) hk]
    rfl
  · rw [m23, if_neg (by decide), if_neg (by decide), if_neg (by decide), if_pos (by decide), hx (by omega), q_ix_n hk (by decide), show h.1 17 k = nI (l 5 k) from hL.2.2.2 5 k (by omega) (by omega) hk]
    rfl
  · rw [m23, if_neg (by decide), if_neg (by decide), if_neg (by decide), if_neg (by decide), if_pos (by decide), hL.2.1]
    rfl
  · rw [m23, if_neg (by decide), if_neg (by decide), if_neg (by decide), if_neg (by decide), if_neg (by decide), hL.2.2.1]
    rfl
theorem s24_12 (d : Nat) {h : q_S} {l : qv_L} (hL : qv_at h 12 l) {w k : Nat} (hw : w ≤ 5) (hk : k < 8) {x : Int32} (hx : w ≤ 3 → x = nI k) (v : Nat) : ∃ h2, q_sem (d + 1) 24 h [.ref 12, .int (nI w), .int x, .int (nI v)] = some (h2, none) ∧ qv_at h2 12 (qv_put l w k v) ∧ (∀ a j, ¬ (12 ≤ a ∧ a ≤ 17) → h2.1 a j = h.1 a j) ∧ h2.2 = h.2 := by
  rcases q6 hw with rfl | rfl | rfl | rfl | rfl | rfl
  · refine ⟨q_si h 14 k (nI v), ?_, by rw [put_0]; exact at_a (o := 12) (b := 2) (by omega) hL, fun a j q => qw_si_ne (by omega), rfl⟩
    rw [m24, if_pos (by decide), hx (by omega), q_ix_n hk (by decide)]
  · refine ⟨q_si h 16 k (nI v), ?_, by rw [put_1]; exact at_a (o := 12) (b := 4) (by omega) hL, fun a j q => qw_si_ne (by omega), rfl⟩
    rw [m24, if_neg (by decide), if_pos (by decide), hx (by omega), q_ix_n hk (by decide)]
  · refine ⟨q_si h 15 k (nI v), ?_, by rw [put_2]; exact at_a (o := 12) (b := 3) (by omega) hL, fun a j q => qw_si_ne (by omega), rfl⟩
    rw [m24, if_neg (by decide), if_neg (by decide), if_pos (by decide), hx (by omega), q_ix_n hk (by decide)]
  · refine ⟨q_si h 17 k (nI v), ?_, by rw [put_3]; exact at_a (o := 12) (b := 5) (by omega) hL, fun a j q => qw_si_ne (by omega), rfl⟩
    rw [m24, if_neg (by decide), if_neg (by decide), if_neg (by decide), if_pos (by decide), hx (by omega), q_ix_n hk (by decide)]
  · refine ⟨q_si h 12 7 (nI v), ?_, by rw [put_4]; exact at_1 hL, fun a j q => qw_si_ne (by omega), rfl⟩
    rw [m24, if_neg (by decide), if_neg (by decide), if_neg (by decide), if_neg (by decide), if_pos (by decide)]
  · refine ⟨q_si h 12 8 (nI v), ?_, by rw [put_5]; exact at_2 hL, fun a j q => qw_si_ne (by omega), rfl⟩
    rw [m24, if_neg (by decide), if_neg (by decide), if_neg (by decide), if_neg (by decide), if_neg (by decide)]
theorem s24_18 (d : Nat) {h : q_S} {l : qv_L} (hL : qv_at h 18 l) {w k : Nat} (hw : w ≤ 5) (hk : k < 8) {x : Int32} (hx : w ≤ 3 → x = nI k) (v : Nat) : ∃ h2, q_sem (d + 1) 24 h [.ref 18, .int (nI w), .int x, .int (nI v)] = some (h2, none) ∧ qv_at h2 18 (qv_put l w k v) ∧ (∀ a j, ¬ (18 ≤ a ∧ a ≤ 23) → h2.1 a j = h.1 a j) ∧ h2.2 = h.2 := by
  rcases q6 hw with rfl | rfl | rfl | rfl | rfl | rfl
  · refine ⟨q_si h 20 k (nI v), ?_, by rw [put_0]; exact at_a (o := 18) (b := 2) (by omega) hL, fun a j q => qw_si_ne (by omega), rfl⟩
    rw [m24_1, if_pos (by decide), hx (by omega), q_ix_n hk (by decide)]
  · refine ⟨q_si h 22 k (nI v), ?_, by rw [put_1]; exact at_a (o := 18) (b := 4) (by omega) hL, fun a j q => qw_si_ne (by omega), rfl⟩
    rw [m24_1, if_neg (by decide), if_pos (by decide), hx (by omega), q_ix_n hk (by decide)]
  · refine ⟨q_si h 21 k (nI v), ?_, by rw [put_2]; exact at_a (o := 18) (b := 3) (by omega) hL, fun a j q => qw_si_ne (by omega), rfl⟩
    rw [m24_1, if_neg (by decide), if_neg (by decide), if_pos (by decide), hx (by omega), q_ix_n hk (by decide)]
  · refine ⟨q_si h 23 k (nI v), ?_, by rw [put_3]; exact at_a (o := 18) (b := 5) (by omega) hL, fun a j q => qw_si_ne (by omega), rfl⟩
    rw [m24_1, if_neg (by decide), if_neg (by decide), if_neg (by decide), if_pos (by decide), hx (by omega), q_ix_n hk (by decide)]
  · refine ⟨q_si h 18 7 (nI v), ?_, by rw [put_4]; exact at_1 hL, fun a j q => qw_si_ne (by omega), rfl⟩
    rw [m24_1, if_neg (by decide), if_neg (by decide), if_neg (by decide), if_neg (by decide), if_pos (by decide)]
  · refine ⟨q_si h 18 8 (nI v), ?_, by rw [put_5]; exact at_2 hL, fun a j q => qw_si_ne (by omega), rfl⟩
    rw [m24_1, if_neg (by decide), if_neg (by decide), if_neg (by decide), if_neg (by decide), if_neg (by decide)]
theorem s138 (d : Nat) {h : q_S} {l : qv_L} (hL : qw_at h l) {w k : Nat} (hw : w ≤ 5) (hk : k < 8) {x : Int32} (hx : w ≤ 3 → x = nI k) : q_sem (d + 1) 138 h [.ref 67, .int (nI w), .int x] = some (h, some (.int (nI (qv_get l w k)))) := by
  rcases q6 hw with rfl | rfl | rfl | rfl | rfl | rfl
  · rw [m138, if_pos (by decide), hx (by omega), q_ix_n hk (by decide), show h.1 69 k = nI (l 2 k) from hL.2.2.2 2 k (by omega) (by omega) hk]
    rfl
  · rw [m138, if_neg (by decide), if_pos (by decide), hx (by omega), q_ix_n hk (by decide), show h.1 71 k = nI (l 4 k) from hL.2.2.2 4 k (by omega) (by omega) hk]
    rfl
  · rw [m138, if_neg (by decide), if_neg (by decide), if_pos (by decide), hx (by omega), q_ix_n hk (by decide), show h.1 70 k = nI (l 3 k) from hL.2.2.2 3 k (by omega) (by omega) hk]
    rfl
  · rw [m138, if_neg (by decide), if_neg (by decide), if_neg (by decide), if_pos (by decide), hx (by omega), q_ix_n hk (by decide), show h.1 72 k = nI (l 5 k) from hL.2.2.2 5 k (by omega) (by omega) hk]
    rfl
  · rw [m138, if_neg (by decide), if_neg (by decide), if_neg (by decide), if_neg (by decide), if_pos (by decide), hL.2.1]
    rfl
  · rw [m138, if_neg (by decide), if_neg (by decide), if_neg (by decide), if_neg (by decide), if_neg (by decide), hL.2.2.1]
    rfl
theorem s139 (d : Nat) {h : q_S} {l : qv_L} (hL : qw_at h l) {w k : Nat} (hw : w ≤ 5) (hk : k < 8) {x : Int32} (hx : w ≤ 3 → x = nI k) (v : Nat) : ∃ h2, q_sem (d + 1) 139 h [.ref 67, .int (nI w), .int x, .int (nI v)] = some (h2, none) ∧ qw_at h2 (qv_put l w k v) ∧ (∀ a j, ¬ ((a = 67 ∧ j < 3) ∨ (68 ≤ a ∧ a ≤ 72)) → h2.1 a j = h.1 a j) ∧ h2.2 = h.2 := by
  rcases q6 hw with rfl | rfl | rfl | rfl | rfl | rfl
  · refine ⟨q_si h 69 k (nI v), ?_, by rw [put_0]; exact aw_a (b := 2) (by omega) hL, fun a j q => qw_si_ne (by omega), rfl⟩
    rw [m139, if_pos (by decide), hx (by omega), q_ix_n hk (by decide)]
  · refine ⟨q_si h 71 k (nI v), ?_, by rw [put_1]; exact aw_a (b := 4) (by omega) hL, fun a j q => qw_si_ne (by omega), rfl⟩
    rw [m139, if_neg (by decide), if_pos (by decide), hx (by omega), q_ix_n hk (by decide)]
  · refine ⟨q_si h 70 k (nI v), ?_, by rw [put_2]; exact aw_a (b := 3) (by omega) hL, fun a j q => qw_si_ne (by omega), rfl⟩
    rw [m139, if_neg (by decide), if_neg (by decide), if_pos (by decide), hx (by omega), q_ix_n hk (by decide)]
  · refine ⟨q_si h 72 k (nI v), ?_, by rw [put_3]; exact aw_a (b := 5) (by omega) hL, fun a j q => qw_si_ne (by omega), rfl⟩
    rw [m139, if_neg (by decide), if_neg (by decide), if_neg (by decide), if_pos (by decide), hx (by omega), q_ix_n hk (by decide)]
  · refine ⟨q_si h 67 1 (nI v), ?_, by rw [put_4]; exact aw_1 hL, fun a j q => qw_si_ne (by omega), rfl⟩
    rw [m139, if_neg (by decide), if_neg (by decide), if_neg (by decide), if_neg (by decide), if_pos (by decide)]
  · refine ⟨q_si h 67 2 (nI v), ?_, by rw [put_5]; exact aw_2 hL, fun a j q => qw_si_ne (by omega), rfl⟩
    rw [m139, if_neg (by decide), if_neg (by decide), if_neg (by decide), if_neg (by decide), if_neg (by decide)]
/-- places: w of DISCS, of SHAFTS -/
def qg_pl (l : qv_L) (w : Nat) (x : Int32) : Prop := (w = 0 ∨ w = 2 → qg_d l x) ∧ (w = 1 ∨ w = 3 → qg_s l x)
theorem qg_plN {l : qv_L} (h8 : l 0 0 ≤ 8) {w : Nat} {x : Int32} (g : qg_pl l w x) : ∃ k, k < 8 ∧ (w ≤ 3 → x = nI k) ∧ (w = 0 ∨ w = 2 → k < l 0 0) ∧ (w = 1 ∨ w = 3 → k + 1 < l 0 0) := by
  by_cases a : w = 0 ∨ w = 2
  · obtain ⟨k, hk, e⟩ := qg_dN h8 (g.1 a)
    exact ⟨k, by omega, fun _ => e, fun _ => hk, fun q => by omega⟩
  by_cases b : w = 1 ∨ w = 3
  · obtain ⟨k, hk, e⟩ := qg_sN h8 (g.2 b)
    exact ⟨k, by omega, fun _ => e, fun q => by omega, fun _ => hk⟩
  exact ⟨0, by omega, fun q => by omega, fun q => by omega, fun q => by omega⟩
/-- undo, redo: line and changes alone -/
theorem c87 : qs_st 87 146 [] := by
  intro s hs
  obtain ⟨L, dn, un, e1, e2, e3, e4, e5⟩ := hs.2.2.2.1
  by_cases z : dn = 0
  · refine qs_no (.int (-5)) hs ?_ ?_
    · intro d h hc
      rw [m87, hc.2.2.2.1.1, e1, z, if_pos (by decide)]
    · intro d h hr
      rw [m146, hr.2.2.2.1.1, e1, z, if_pos (by decide)]
  · obtain ⟨k, rfl⟩ : ∃ k, dn = k + 1 := ⟨dn - 1, by omega⟩
    obtain ⟨k1, k2, w, i, a, b, hw, hi, ha, hb, f1, f2, f3, f4, f5, f6⟩ := e5 k (by omega)
    rw [e4] at f5 f6 k2
    obtain ⟨o1, o2, o3, o4, o5, o6, o7⟩ := hs
    refine ⟨.int (nI k), (L k, s.2.1, qt (qt s.2.2.1 0 1 (nI k)) 0 2 (nI (un + 1)), s.2.2.2), mk_ok (k1) (f_im (fun a j q => (qt_ne (by omega)).trans (qt_ne (by omega))) o2) (f_or (fun a j q => (qt_ne (by omega)).trans (qt_ne (by omega))) o3) (⟨L, k, un + 1, (qt_ne (by omega)).trans qt_eq, qt_eq, by omega, rfl, fun i hi => by rw [qt_ne (by omega), qt_ne (by omega), qt_ne (by omega), qt_ne (by omega), qt_ne (by omega), qt_ne (by omega), qt_ne (by omega), qt_ne (by omega)]; exact e5 i (by omega)⟩) (f_tp (fun a j q => (qt_ne (by omega)).trans (qt_ne (by omega))) o5) (f_rw (fun a j q => (qt_ne (by omega)).trans (qt_ne (by omega))) o6) (f_tc (fun a j q => (qt_ne (by omega)).trans (qt_ne (by omega))) o7), ?_, ?_⟩
    · rintro d h ⟨c1, c2, c3, c4, c5, c6, c7, c8⟩
      obtain ⟨h2, g1, g2, g3, g4⟩ := s24_12 (d + 11) (h := q_si (q_si h 38 4 (nI k)) 38 5 (nI (un + 1))) (f_c1 (fun a j q => (qw_si_ne (by omega)).trans (qw_si_ne (by omega))) c1) hw hi f2 a
      refine ⟨h2, ?_, ?_⟩
      · rw [m87, c4.1, e1, if_neg (by rw [show (0 : Int32) = nI 0 from rfl, nI_eq_iff (by omega) (by omega)]; omega), m3, c4.1, c4.2.1, e1, e2, nI_m1, nI_p1, q_ix_n (by omega) (by decide), q_ix_n (by omega) (by decide), q_ix_n (by omega) (by decide), c4.2.2 0 k (by omega) (by omega), c4.2.2 1 k (by omega) (by omega), c4.2.2 2 k (by omega) (by omega), f1, f3, g1, q_c0_s, g3 38 4 (by omega), qw_si_ne (by omega), qw_si_eq, q_c1_s]
      · have u : ∀ a j, ¬ (12 ≤ a ∧ a ≤ 17) → ¬ (a = 38 ∧ (j = 4 ∨ j = 5)) → h2.1 a j = h.1 a j := fun a j q r => (g3 a j q).trans ((qw_si_ne (by omega)).trans (qw_si_ne (by omega)))
        have ul : h2.2 = h.2 := g4
        exact mk_C (f6 ▸ g2) (f_c2 (fun a j q => u a j (by omega) (by omega)) (fun a j q => (qt_ne (by omega)).trans (qt_ne (by omega))) c2) (f_c3 (fun a j q => u a j (by omega) (by omega)) (fun a j q => (qt_ne (by omega)).trans (qt_ne (by omega))) c3) ⟨by rw [g3 _ _ (by omega), qw_si_ne (by omega), qw_si_eq, qt_ne (by omega), qt_eq], by rw [g3 _ _ (by omega), qw_si_eq, qt_eq], fun a i x y => by rw [u _ _ (by omega) (by omega), qt_ne (by omega), qt_ne (by omega)]; exact c4.2.2 a i x y⟩ (f_c5 (fun a j q => u a j (by omega) (by omega)) (fun a j q => (qt_ne (by omega)).trans (qt_ne (by omega))) c5) (f_c6 (fun a j q => u a j (by omega) (by omega)) (fun a j _ => by rw [ul]) (fun a j q => (qt_ne (by omega)).trans (qt_ne (by omega))) c6) (f_c7 (fun a j q => u a j (by omega) (by omega)) (by rw [ul]) (fun a j q => (qt_ne (by omega)).trans (qt_ne (by omega))) c7) (f_z (fun a j _ => by rw [ul]) c8)
    · rintro d h ⟨c1, c2, c3, c4, c5, c6, c7⟩
      obtain ⟨h2, g1, g2, g3, g4⟩ := s139 (d + 12) (h := q_si (q_si h 67 20 (nI k)) 67 21 (nI (un + 1))) (f_r1 (fun a j q => (qw_si_ne (by omega)).trans (qw_si_ne (by omega))) c1) hw hi f2 a
      refine ⟨h2, ?_, ?_⟩
      · rw [m146, c4.1, c4.2.1, e1, e2, if_neg (by rw [show (0 : Int32) = nI 0 from rfl, nI_eq_iff (by omega) (by omega)]; omega), nI_m1, nI_p1, q_ix_n (by omega) (by decide), q_ix_n (by omega) (by decide), q_ix_n (by omega) (by decide), c4.2.2 0 k (by omega) (by omega), c4.2.2 1 k (by omega) (by omega), c4.2.2 2 k (by omega) (by omega), f1, f3, g1, q_c0_s, g3 67 20 (by omega), qw_si_ne (by omega), qw_si_eq]
      · have u : ∀ a j, ¬ ((a = 67 ∧ j < 3) ∨ (68 ≤ a ∧ a ≤ 72)) → ¬ (a = 67 ∧ (j = 20 ∨ j = 21)) → h2.1 a j = h.1 a j := fun a j q r => (g3 a j q).trans ((qw_si_ne (by omega)).trans (qw_si_ne (by omega)))
        have ul : h2.2 = h.2 := g4
        exact mk_R (f6 ▸ g2) (f_r2 (fun a j q => u a j (by omega) (by omega)) (fun a j q => (qt_ne (by omega)).trans (qt_ne (by omega))) c2) (f_r3 (fun a j q => u a j (by omega) (by omega)) (fun a j q => (qt_ne (by omega)).trans (qt_ne (by omega))) c3) ⟨by rw [g3 _ _ (by omega), qw_si_ne (by omega), qw_si_eq, qt_ne (by omega), qt_eq], by rw [g3 _ _ (by omega), qw_si_eq, qt_eq], fun a i x y => by rw [u _ _ (by omega) (by omega), qt_ne (by omega), qt_ne (by omega)]; exact c4.2.2 a i x y⟩ (f_r5 (fun a j q => u a j (by omega) (by omega)) (fun a j q => (qt_ne (by omega)).trans (qt_ne (by omega))) c5) (f_r6 (fun a j q => u a j (by omega) (by omega)) (fun a j _ => by rw [ul]) (fun a j q => (qt_ne (by omega)).trans (qt_ne (by omega))) c6) (f_r7 (fun a j q => u a j (by omega) (by omega)) (fun a j q => (qt_ne (by omega)).trans (qt_ne (by omega))) c7)
theorem c88 : qs_st 88 147 [] := by
  intro s hs
  obtain ⟨L, dn, un, e1, e2, e3, e4, e5⟩ := hs.2.2.2.1
  by_cases z : un = 0
  · refine qs_no (.int (-5)) hs ?_ ?_
    · intro d h hc
      rw [m88, hc.2.2.2.1.2.1, e2, z, if_pos (by decide)]
    · intro d h hr
      rw [m147, hr.2.2.2.1.2.1, e2, z, if_pos (by decide)]
  · obtain ⟨k, rfl⟩ : ∃ k, un = k + 1 := ⟨un - 1, by omega⟩
    obtain ⟨k1, k2, w, i, a, b, hw, hi, ha, hb, f1, f2, f3, f4, f5, f6⟩ := e5 dn (by omega)
    rw [e4] at f5 f6 k1
    obtain ⟨o1, o2, o3, o4, o5, o6, o7⟩ := hs
    refine ⟨.int (nI k), (L (dn + 1), s.2.1, qt (qt s.2.2.1 0 1 (nI (dn + 1))) 0 2 (nI k), s.2.2.2), mk_ok (k2) (f_im (fun a j q => (qt_ne (by omega)).trans (qt_ne (by omega))) o2) (f_or (fun a j q => (qt_ne (by omega)).trans (qt_ne (by omega))) o3) (⟨L, dn + 1, k, (qt_ne (by omega)).trans qt_eq, qt_eq, by omega, rfl, fun i hi => by rw [qt_ne (by omega), qt_ne (by omega), qt_ne (by omega), qt_ne (by omega), qt_ne (by omega), qt_ne (by omega), qt_ne (by omega), qt_ne (by omega)]; exact e5 i (by omega)⟩) (f_tp (fun a j q => (qt_ne (by omega)).trans (qt_ne (by omega))) o5) (f_rw (fun a j q => (qt_ne (by omega)).trans (qt_ne (by omega))) o6) (f_tc (fun a j q => (qt_ne (by omega)).trans (qt_ne (by omega))) o7), ?_, ?_⟩
    · rintro d h ⟨c1, c2, c3, c4, c5, c6, c7, c8⟩
      obtain ⟨h2, g1, g2, g3, g4⟩ := s24_12 (d + 11) (h := h) c1 hw hi f2 b
      refine ⟨q_si (q_si h2 38 4 (nI (dn + 1))) 38 5 (nI k), ?_, ?_⟩
      · rw [m88, c4.2.1, e2, if_neg (by rw [show (0 : Int32) = nI 0 from rfl, nI_eq_iff (by omega) (by omega)]; omega), m4, c4.1, e1, q_ix_n (by omega) (by decide), q_ix_n (by omega) (by decide), q_ix_n (by omega) (by decide), c4.2.2 0 dn (by omega) (by omega), c4.2.2 1 dn (by omega) (by omega), c4.2.2 3 dn (by omega) (by omega), f1, f4, g1, q_c0_s, g3 38 4 (by omega), g3 38 5 (by omega), c4.1, c4.2.1, e1, e2, nI_m1, nI_p1, q_c1_s]
      · have u : ∀ a j, ¬ (12 ≤ a ∧ a ≤ 17) → ¬ (a = 38 ∧ (j = 4 ∨ j = 5)) → (q_si (q_si h2 38 4 (nI (dn + 1))) 38 5 (nI k)).1 a j = h.1 a j := fun a j q r => (qw_si_ne (by omega)).trans ((qw_si_ne (by omega)).trans (g3 a j q))
        have ul : (q_si (q_si h2 38 4 (nI (dn + 1))) 38 5 (nI k)).2 = h.2 := g4
        exact mk_C (f_c1 (fun a j q => (qw_si_ne (by omega)).trans (qw_si_ne (by omega))) (f5 ▸ g2)) (f_c2 (fun a j q => u a j (by omega) (by omega)) (fun a j q => (qt_ne (by omega)).trans (qt_ne (by omega))) c2) (f_c3 (fun a j q => u a j (by omega) (by omega)) (fun a j q => (qt_ne (by omega)).trans (qt_ne (by omega))) c3) ⟨by rw [qw_si_ne (by omega), qw_si_eq, qt_ne (by omega), qt_eq], by rw [qw_si_eq, qt_eq], fun a i x y => by rw [u _ _ (by omega) (by omega), qt_ne (by omega), qt_ne (by omega)]; exact c4.2.2 a i x y⟩ (f_c5 (fun a j q => u a j (by omega) (by omega)) (fun a j q => (qt_ne (by omega)).trans (qt_ne (by omega))) c5) (f_c6 (fun a j q => u a j (by omega) (by omega)) (fun a j _ => by rw [ul]) (fun a j q => (qt_ne (by omega)).trans (qt_ne (by omega))) c6) (f_c7 (fun a j q => u a j (by omega) (by omega)) (by rw [ul]) (fun a j q => (qt_ne (by omega)).trans (qt_ne (by omega))) c7) (f_z (fun a j _ => by rw [ul]) c8)
    · rintro d h ⟨c1, c2, c3, c4, c5, c6, c7⟩
      obtain ⟨h2, g1, g2, g3, g4⟩ := s139 (d + 12) (h := h) c1 hw hi f2 b
      refine ⟨q_si (q_si h2 67 20 (nI (dn + 1))) 67 21 (nI k), ?_, ?_⟩
      · rw [m147, c4.2.1, e2, if_neg (by rw [show (0 : Int32) = nI 0 from rfl, nI_eq_iff (by omega) (by omega)]; omega), c4.1, e1, q_ix_n (by omega) (by decide), q_ix_n (by omega) (by decide), q_ix_n (by omega) (by decide), c4.2.2 0 dn (by omega) (by omega), c4.2.2 1 dn (by omega) (by omega), c4.2.2 3 dn (by omega) (by omega), f1, f4, g1, q_c0_s, g3 67 20 (by omega), g3 67 21 (by omega), c4.1, c4.2.1, e1, e2, nI_m1, nI_p1]
      · have u : ∀ a j, ¬ ((a = 67 ∧ j < 3) ∨ (68 ≤ a ∧ a ≤ 72)) → ¬ (a = 67 ∧ (j = 20 ∨ j = 21)) → (q_si (q_si h2 67 20 (nI (dn + 1))) 67 21 (nI k)).1 a j = h.1 a j := fun a j q r => (qw_si_ne (by omega)).trans ((qw_si_ne (by omega)).trans (g3 a j q))
        have ul : (q_si (q_si h2 67 20 (nI (dn + 1))) 67 21 (nI k)).2 = h.2 := g4
        exact mk_R (f_r1 (fun a j q => (qw_si_ne (by omega)).trans (qw_si_ne (by omega))) (f5 ▸ g2)) (f_r2 (fun a j q => u a j (by omega) (by omega)) (fun a j q => (qt_ne (by omega)).trans (qt_ne (by omega))) c2) (f_r3 (fun a j q => u a j (by omega) (by omega)) (fun a j q => (qt_ne (by omega)).trans (qt_ne (by omega))) c3) ⟨by rw [qw_si_ne (by omega), qw_si_eq, qt_ne (by omega), qt_eq], by rw [qw_si_eq, qt_eq], fun a i x y => by rw [u _ _ (by omega) (by omega), qt_ne (by omega), qt_ne (by omega)]; exact c4.2.2 a i x y⟩ (f_r5 (fun a j q => u a j (by omega) (by omega)) (fun a j q => (qt_ne (by omega)).trans (qt_ne (by omega))) c5) (f_r6 (fun a j q => u a j (by omega) (by omega)) (fun a j _ => by rw [ul]) (fun a j q => (qt_ne (by omega)).trans (qt_ne (by omega))) c6) (f_r7 (fun a j q => u a j (by omega) (by omega)) (fun a j q => (qt_ne (by omega)).trans (qt_ne (by omega))) c7)
