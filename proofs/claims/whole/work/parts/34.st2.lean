/-! ===== cut, clear, disc ===== -/
def ql (l : qv_L) (a i v : Nat) : qv_L := fun b j => if b = a ∧ j = i then v else l b j
theorem ql_eq {l : qv_L} {a i v : Nat} : ql l a i v a i = v := by simp [ql]
theorem ql_ne {l : qv_L} {a i v b j : Nat} (hn : ¬ (b = a ∧ j = i)) : ql l a i v b j = l b j := by simp only [ql]; rw [if_neg hn]
theorem ql_rat {l : qv_L} {a i v : Nat} (h : a ≠ 5) : ∀ k, qv_rat (ql l a i v) k = qv_rat l k
  | 0 => rfl
  | k + 1 => by rw [qv_rat, qv_rat, ql_rat h k, ql_ne (by omega)]
theorem ql_rat5 {l : qv_L} {i v : Nat} : ∀ k, k ≤ i → qv_rat (ql l 5 i v) k = qv_rat l k
  | 0, _ => rfl
  | k + 1, hk => by rw [qv_rat, qv_rat, ql_rat5 k (by omega), ql_ne (by omega)]
theorem at_0 {h : q_S} {o : Nat} {l : qv_L} {v : Nat} (c : qv_at h o l) : qv_at (q_si h o 6 (nI v)) o (ql l 0 0 v) :=
  ⟨by rw [qw_si_eq, ql_eq], by rw [qw_si_ne (by omega), ql_ne (by omega)]; exact c.2.1, by rw [qw_si_ne (by omega), ql_ne (by omega)]; exact c.2.2.1, fun a i x y z => by rw [qw_si_ne (by omega), ql_ne (by omega)]; exact c.2.2.2 a i x y z⟩
theorem at_1 {h : q_S} {o : Nat} {l : qv_L} {v : Nat} (c : qv_at h o l) : qv_at (q_si h o 7 (nI v)) o (ql l 0 1 v) :=
  ⟨by rw [qw_si_ne (by omega), ql_ne (by omega)]; exact c.1, by rw [qw_si_eq, ql_eq], by rw [qw_si_ne (by omega), ql_ne (by omega)]; exact c.2.2.1, fun a i x y z => by rw [qw_si_ne (by omega), ql_ne (by omega)]; exact c.2.2.2 a i x y z⟩
theorem at_2 {h : q_S} {o : Nat} {l : qv_L} {v : Nat} (c : qv_at h o l) : qv_at (q_si h o 8 (nI v)) o (ql l 0 2 v) :=
  ⟨by rw [qw_si_ne (by omega), ql_ne (by omega)]; exact c.1, by rw [qw_si_ne (by omega), ql_ne (by omega)]; exact c.2.1, by rw [qw_si_eq, ql_eq], fun a i x y z => by rw [qw_si_ne (by omega), ql_ne (by omega)]; exact c.2.2.2 a i x y z⟩
theorem at_a {h : q_S} {o : Nat} {l : qv_L} {b k v : Nat} (hb : 1 ≤ b) (c : qv_at h o l) : qv_at (q_si h (o + b) k (nI v)) o (ql l b k v) :=
  ⟨by rw [qw_si_ne (by omega), ql_ne (by omega)]; exact c.1, by rw [qw_si_ne (by omega), ql_ne (by omega)]; exact c.2.1, by rw [qw_si_ne (by omega), ql_ne (by omega)]; exact c.2.2.1, fun a i x y z => by
    by_cases w : a = b ∧ i = k
    · obtain ⟨rfl, rfl⟩ := w
      rw [qw_si_eq, ql_eq]
    · rw [qw_si_ne (by omega), ql_ne (by omega)]
      exact c.2.2.2 a i x y z⟩
theorem aw_0 {h : q_S} {l : qv_L} {v : Nat} (c : qw_at h l) : qw_at (q_si h 67 0 (nI v)) (ql l 0 0 v) :=
  ⟨by rw [qw_si_eq, ql_eq], by rw [qw_si_ne (by omega), ql_ne (by omega)]; exact c.2.1, by rw [qw_si_ne (by omega), ql_ne (by omega)]; exact c.2.2.1, fun a i x y z => by rw [qw_si_ne (by omega), ql_ne (by omega)]; exact c.2.2.2 a i x y z⟩
theorem aw_1 {h : q_S} {l : qv_L} {v : Nat} (c : qw_at h l) : qw_at (q_si h 67 1 (nI v)) (ql l 0 1 v) :=
  ⟨by rw [qw_si_ne (by omega), ql_ne (by omega)]; exact c.1, by rw [qw_si_eq, ql_eq], by rw [qw_si_ne (by omega), ql_ne (by omega)]; exact c.2.2.1, fun a i x y z => by rw [qw_si_ne (by omega), ql_ne (by omega)]; exact c.2.2.2 a i x y z⟩
theorem aw_2 {h : q_S} {l : qv_L} {v : Nat} (c : qw_at h l) : qw_at (q_si h 67 2 (nI v)) (ql l 0 2 v) :=
  ⟨by rw [qw_si_ne (by omega), ql_ne (by omega)]; exact c.1, by rw [qw_si_ne (by omega), ql_ne (by omega)]; exact c.2.1, by rw [qw_si_eq, ql_eq], fun a i x y z => by rw [qw_si_ne (by omega), ql_ne (by omega)]; exact c.2.2.2 a i x y z⟩
theorem aw_a {h : q_S} {l : qv_L} {b k v : Nat} (hb : 1 ≤ b) (c : qw_at h l) : qw_at (q_si h (67 + b) k (nI v)) (ql l b k v) :=
  ⟨by rw [qw_si_ne (by omega), ql_ne (by omega)]; exact c.1, by rw [qw_si_ne (by omega), ql_ne (by omega)]; exact c.2.1, by rw [qw_si_ne (by omega), ql_ne (by omega)]; exact c.2.2.1, fun a i x y z => by
    by_cases w : a = b ∧ i = k
    · obtain ⟨rfl, rfl⟩ := w
      rw [qw_si_eq, ql_eq]
    · rw [qw_si_ne (by omega), ql_ne (by omega)]
      exact c.2.2.2 a i x y z⟩
theorem qs_ch0 {l : qv_L} {t : qT} (a : t 0 1 = nI 0) (b : t 0 2 = nI 0) : qs_ch l t := ⟨fun _ => l, 0, 0, a, b, by omega, rfl, fun i hi => absurd hi (by omega)⟩
theorem ok_cut {l : qv_L} (h : qv_ok l) : qv_ok (ql l 0 0 (l 0 0 - 1)) := by
  obtain ⟨a, b, c, d, e, f, g⟩ := h
  have z : ql l 0 0 (l 0 0 - 1) 0 0 = l 0 0 - 1 := ql_eq
  refine ⟨by omega, by rw [ql_ne (by omega)]; exact b, by rw [ql_ne (by omega)]; exact c, fun i hi => ?_, fun i hi => ?_, fun i hi => ?_, ?_⟩
  · rw [ql_ne (by omega), ql_ne (by omega), ql_ne (by omega), ql_ne (by omega), ql_ne (by omega)]
    exact d i hi
  · rw [ql_ne (by omega)]
    exact e i (by omega)
  · rw [ql_ne (by omega), ql_ne (by omega)]
    exact f i (by omega)
  · rw [ql_rat (by omega), z]
    exact (qv_rat_6 ⟨a, b, c, d, e, f, g⟩ (by omega)).2
theorem ok_clr {l : qv_L} (h : qv_ok l) : qv_ok (ql (ql (ql l 0 0 0) 0 1 0) 0 2 0) := by
  obtain ⟨a, b, c, d, e, f, g⟩ := h
  have z0 : ql (ql (ql l 0 0 0) 0 1 0) 0 2 0 0 0 = 0 := by rw [ql_ne (by omega), ql_ne (by omega), ql_eq]
  have z1 : ql (ql (ql l 0 0 0) 0 1 0) 0 2 0 0 1 = 0 := by rw [ql_ne (by omega), ql_eq]
  have z2 : ql (ql (ql l 0 0 0) 0 1 0) 0 2 0 0 2 = 0 := ql_eq
  refine ⟨by omega, by omega, by omega, fun i hi => ?_, fun i hi => absurd hi (by omega), fun i hi => absurd hi (by omega), ?_⟩
  · have e : ∀ a, a ≠ 0 → ql (ql (ql l 0 0 0) 0 1 0) 0 2 0 a i = l a i := fun a ha => by rw [ql_ne (by omega), ql_ne (by omega), ql_ne (by omega)]
    rw [e 1 (by omega), e 2 (by omega), e 3 (by omega), e 4 (by omega), e 5 (by omega)]
    exact d i hi
  · rw [z0]
    exact (by omega : 1 ≤ 6)
theorem k62 : qs_sk 62 136 [] := by
  intro s hs
  have h8 := hs.1.1
  by_cases z : s.1 0 0 = 0
  · refine qs_nok (-5) hs ?_ ?_
    · intro d h hc
      rw [m62, hc.1.1, z, if_pos (by decide)]
    · intro d h hr
      rw [m136, hr.1.1, z, if_pos (by decide)]
  · obtain ⟨k, hk⟩ : ∃ k, s.1 0 0 = k + 1 := ⟨s.1 0 0 - 1, by omega⟩
    have hk2 : s.1 0 0 - 1 = k := by omega
    obtain ⟨o1, o2, o3, o4, o5, o6, o7⟩ := hs
    refine ⟨nI k, (ql s.1 0 0 (s.1 0 0 - 1), s.2.1, qt (qt s.2.2.1 0 1 0) 0 2 0, s.2.2.2), mk_ok (ok_cut o1) (f_im (fun a j q => (qt_ne (by omega)).trans (qt_ne (by omega))) o2) (f_or (fun a j q => (qt_ne (by omega)).trans (qt_ne (by omega))) o3) (qs_ch0 ((qt_ne (by omega)).trans qt_eq) qt_eq) (f_tp (fun a j q => (qt_ne (by omega)).trans (qt_ne (by omega))) o5) (f_rw (fun a j q => (qt_ne (by omega)).trans (qt_ne (by omega))) o6) (f_tc (fun a j q => (qt_ne (by omega)).trans (qt_ne (by omega))) o7), ⟨rfl, rfl, fun a j q => (qt_ne (by omega)).trans (qt_ne (by omega))⟩, ?_, ?_⟩
    · rintro d h ⟨c1, c2, c3, c4, c5, c6, c7, c8⟩
      refine ⟨q_si (q_si (q_si h 38 4 0) 38 5 0) 12 6 (nI (s.1 0 0 - 1)), ?_, ?_⟩
      · rw [m62, c1.1, if_neg (by rw [show (0 : Int32) = nI 0 from rfl, nI_eq_iff (by omega) (by omega)]; omega), m0, q_c0_s, qw_si_ne (by omega), qw_si_ne (by omega), c1.1, hk, nI_m1, Nat.add_sub_cancel]
      · exact mk_C (at_0 (f_c1 (fun a j q => (qw_si_ne (by omega)).trans (qw_si_ne (by omega))) c1)) (f_c2 (fun a j q => (qw_si_ne (by omega)).trans ((qw_si_ne (by omega)).trans (qw_si_ne (by omega)))) (fun a j q => (qt_ne (by omega)).trans (qt_ne (by omega))) c2) (f_c3 (fun a j q => (qw_si_ne (by omega)).trans ((qw_si_ne (by omega)).trans (qw_si_ne (by omega)))) (fun a j q => (qt_ne (by omega)).trans (qt_ne (by omega))) c3) (⟨by rw [qw_si_ne (by omega), qw_si_ne (by omega), qw_si_eq, qt_ne (by omega), qt_eq], by rw [qw_si_ne (by omega), qw_si_eq, qt_eq], fun a i x y => by rw [qw_si_ne (by omega), qw_si_ne (by omega), qw_si_ne (by omega), qt_ne (by omega), qt_ne (by omega)]; exact c4.2.2 a i x y⟩) (f_c5 (fun a j q => (qw_si_ne (by omega)).trans ((qw_si_ne (by omega)).trans (qw_si_ne (by omega)))) (fun a j q => (qt_ne (by omega)).trans (qt_ne (by omega))) c5) (f_c6 (fun a j q => (qw_si_ne (by omega)).trans ((qw_si_ne (by omega)).trans (qw_si_ne (by omega)))) (fun _ _ _ => rfl) (fun a j q => (qt_ne (by omega)).trans (qt_ne (by omega))) c6) (f_c7 (fun a j q => (qw_si_ne (by omega)).trans ((qw_si_ne (by omega)).trans (qw_si_ne (by omega)))) rfl (fun a j q => (qt_ne (by omega)).trans (qt_ne (by omega))) c7) (c8)
    · rintro d h ⟨c1, c2, c3, c4, c5, c6, c7⟩
      refine ⟨q_si (q_si (q_si h 67 20 0) 67 21 0) 67 0 (nI (s.1 0 0 - 1)), ?_, ?_⟩
      · rw [m136, c1.1, if_neg (by rw [show (0 : Int32) = nI 0 from rfl, nI_eq_iff (by omega) (by omega)]; omega), m134, q_c0_s, qw_si_ne (by omega), qw_si_ne (by omega), c1.1, hk, nI_m1, Nat.add_sub_cancel]
      · exact mk_R (aw_0 (f_r1 (fun a j q => (qw_si_ne (by omega)).trans (qw_si_ne (by omega))) c1)) (f_r2 (fun a j q => (qw_si_ne (by omega)).trans ((qw_si_ne (by omega)).trans (qw_si_ne (by omega)))) (fun a j q => (qt_ne (by omega)).trans (qt_ne (by omega))) c2) (f_r3 (fun a j q => (qw_si_ne (by omega)).trans ((qw_si_ne (by omega)).trans (qw_si_ne (by omega)))) (fun a j q => (qt_ne (by omega)).trans (qt_ne (by omega))) c3) (⟨by rw [qw_si_ne (by omega), qw_si_ne (by omega), qw_si_eq, qt_ne (by omega), qt_eq], by rw [qw_si_ne (by omega), qw_si_eq, qt_eq], fun a i x y => by rw [qw_si_ne (by omega), qw_si_ne (by omega), qw_si_ne (by omega), qt_ne (by omega), qt_ne (by omega)]; exact c4.2.2 a i x y⟩) (f_r5 (fun a j q => (qw_si_ne (by omega)).trans ((qw_si_ne (by omega)).trans (qw_si_ne (by omega)))) (fun a j q => (qt_ne (by omega)).trans (qt_ne (by omega))) c5) (f_r6 (fun a j q => (qw_si_ne (by omega)).trans ((qw_si_ne (by omega)).trans (qw_si_ne (by omega)))) (fun _ _ _ => rfl) (fun a j q => (qt_ne (by omega)).trans (qt_ne (by omega))) c6) (f_r7 (fun a j q => (qw_si_ne (by omega)).trans ((qw_si_ne (by omega)).trans (qw_si_ne (by omega)))) (fun a j q => (qt_ne (by omega)).trans (qt_ne (by omega))) c7)
theorem c63 : qs_st 63 137 [] := by
  intro s hs
  obtain ⟨o1, o2, o3, o4, o5, o6, o7⟩ := hs
  refine ⟨.int (nI (s.1 0 0)), (ql (ql (ql s.1 0 0 0) 0 1 0) 0 2 0, s.2.1, qt (qt s.2.2.1 0 1 0) 0 2 0, s.2.2.2), mk_ok (ok_clr o1) (f_im (fun a j q => (qt_ne (by omega)).trans (qt_ne (by omega))) o2) (f_or (fun a j q => (qt_ne (by omega)).trans (qt_ne (by omega))) o3) (qs_ch0 ((qt_ne (by omega)).trans qt_eq) qt_eq) (f_tp (fun a j q => (qt_ne (by omega)).trans (qt_ne (by omega))) o5) (f_rw (fun a j q => (qt_ne (by omega)).trans (qt_ne (by omega))) o6) (f_tc (fun a j q => (qt_ne (by omega)).trans (qt_ne (by omega))) o7), ?_, ?_⟩
  · rintro d h ⟨c1, c2, c3, c4, c5, c6, c7, c8⟩
    refine ⟨q_si (q_si (q_si (q_si (q_si h 38 4 0) 38 5 0) 12 6 (nI 0)) 12 7 (nI 0)) 12 8 (nI 0), ?_, ?_⟩
    · rw [m63, m0, q_c0_s, c1.1]
      rfl
    · exact mk_C (at_2 (at_1 (at_0 (f_c1 (fun a j q => (qw_si_ne (by omega)).trans (qw_si_ne (by omega))) c1)))) (f_c2 (fun a j q => (qw_si_ne (by omega)).trans ((qw_si_ne (by omega)).trans ((qw_si_ne (by omega)).trans ((qw_si_ne (by omega)).trans (qw_si_ne (by omega)))))) (fun a j q => (qt_ne (by omega)).trans (qt_ne (by omega))) c2) (f_c3 (fun a j q => (qw_si_ne (by omega)).trans ((qw_si_ne (by omega)).trans ((qw_si_ne (by omega)).trans ((qw_si_ne (by omega)).trans (qw_si_ne (by omega)))))) (fun a j q => (qt_ne (by omega)).trans (qt_ne (by omega))) c3) (⟨by rw [qw_si_ne (by omega), qw_si_ne (by omega), qw_si_ne (by omega), qw_si_ne (by omega), qw_si_eq, qt_ne (by omega), qt_eq], by rw [qw_si_ne (by omega), qw_si_ne (by omega), qw_si_ne (by omega), qw_si_eq, qt_eq], fun a i x y => by rw [qw_si_ne (by omega), qw_si_ne (by omega), qw_si_ne (by omega), qw_si_ne (by omega), qw_si_ne (by omega), qt_ne (by omega), qt_ne (by omega)]; exact c4.2.2 a i x y⟩) (f_c5 (fun a j q => (qw_si_ne (by omega)).trans ((qw_si_ne (by omega)).trans ((qw_si_ne (by omega)).trans ((qw_si_ne (by omega)).trans (qw_si_ne (by omega)))))) (fun a j q => (qt_ne (by omega)).trans (qt_ne (by omega))) c5) (f_c6 (fun a j q => (qw_si_ne (by omega)).trans ((qw_si_ne (by omega)).trans ((qw_si_ne (by omega)).trans ((qw_si_ne (by omega)).trans (qw_si_ne (by omega)))))) (fun _ _ _ => rfl) (fun a j q => (qt_ne (by omega)).trans (qt_ne (by omega))) c6) (f_c7 (fun a j q => (qw_si_ne (by omega)).trans ((qw_si_ne (by omega)).trans ((qw_si_ne (by omega)).trans ((qw_si_ne (by omega)).trans (qw_si_ne (by omega)))))) rfl (fun a j q => (qt_ne (by omega)).trans (qt_ne (by omega))) c7) (c8)
  · rintro d h ⟨c1, c2, c3, c4, c5, c6, c7⟩
    refine ⟨q_si (q_si (q_si (q_si (q_si h 67 0 (nI 0)) 67 1 (nI 0)) 67 2 (nI 0)) 67 20 0) 67 21 0, ?_, ?_⟩
    · rw [m137, m134, q_c0_s, c1.1]
      rfl
    · exact mk_R (f_r1 (fun a j q => (qw_si_ne (by omega)).trans (qw_si_ne (by omega))) (aw_2 (aw_1 (aw_0 c1)))) (f_r2 (fun a j q => (qw_si_ne (by omega)).trans ((qw_si_ne (by omega)).trans ((qw_si_ne (by omega)).trans ((qw_si_ne (by omega)).trans (qw_si_ne (by omega)))))) (fun a j q => (qt_ne (by omega)).trans (qt_ne (by omega))) c2) (f_r3 (fun a j q => (qw_si_ne (by omega)).trans ((qw_si_ne (by omega)).trans ((qw_si_ne (by omega)).trans ((qw_si_ne (by omega)).trans (qw_si_ne (by omega)))))) (fun a j q => (qt_ne (by omega)).trans (qt_ne (by omega))) c3) (⟨by rw [qw_si_ne (by omega), qw_si_eq, qt_ne (by omega), qt_eq], by rw [qw_si_eq, qt_eq], fun a i x y => by rw [qw_si_ne (by omega), qw_si_ne (by omega), qw_si_ne (by omega), qw_si_ne (by omega), qw_si_ne (by omega), qt_ne (by omega), qt_ne (by omega)]; exact c4.2.2 a i x y⟩) (f_r5 (fun a j q => (qw_si_ne (by omega)).trans ((qw_si_ne (by omega)).trans ((qw_si_ne (by omega)).trans ((qw_si_ne (by omega)).trans (qw_si_ne (by omega)))))) (fun a j q => (qt_ne (by omega)).trans (qt_ne (by omega))) c5) (f_r6 (fun a j q => (qw_si_ne (by omega)).trans ((qw_si_ne (by omega)).trans ((qw_si_ne (by omega)).trans ((qw_si_ne (by omega)).trans (qw_si_ne (by omega)))))) (fun _ _ _ => rfl) (fun a j q => (qt_ne (by omega)).trans (qt_ne (by omega))) c6) (f_r7 (fun a j q => (qw_si_ne (by omega)).trans ((qw_si_ne (by omega)).trans ((qw_si_ne (by omega)).trans ((qw_si_ne (by omega)).trans (qw_si_ne (by omega)))))) (fun a j q => (qt_ne (by omega)).trans (qt_ne (by omega))) c7)
theorem s104p (d : Nat) (h : q_S) {x : Int32} (g : ¬ x < 0 ∧ ¬ 4 < x) : q_sem (d + 1) 104 h [.int x] = some (h, some (.int 1)) := by
  rw [m104, if_neg g.1]
  show (if x < 5 then some (h, some (Value.int 1)) else some (h, some (Value.int 0))) = _
  obtain ⟨n, hn, rfl⟩ := qg_nat g.1
  have b := g.2
  rw [show (4 : Int32) = nI 4 from rfl, nI_lt_iff (by decide) hn] at b
  rw [if_pos (by rw [show (5 : Int32) = nI 5 from rfl, nI_lt_iff hn (by decide)]; omega)]
theorem s104n (d : Nat) (h : q_S) {x : Int32} (g : ¬ (¬ x < 0 ∧ ¬ 4 < x)) : q_sem (d + 1) 104 h [.int x] = some (h, some (.int 0)) := by
  rw [m104]
  by_cases a : x < 0
  · rw [if_pos a]
  · rw [if_neg a]
    show (if x < 5 then some (h, some (Value.int 1)) else some (h, some (Value.int 0))) = _
    obtain ⟨n, hn, rfl⟩ := qg_nat a
    have b : 4 < nI n := Classical.byContradiction fun b => g ⟨a, b⟩
    rw [show (4 : Int32) = nI 4 from rfl, nI_lt_iff (by decide) hn] at b
    rw [if_neg (by rw [show (5 : Int32) = nI 5 from rfl, nI_lt_iff hn (by decide)]; omega)]
def q_lst (w : Nat) : Nat := if w = 0 ∨ w = 1 ∨ w = 3 then 1 else 0
def q_mst (w : Nat) : Nat := if w < 3 then 99 else if w = 3 then 6 else if w = 4 then 9 else 2
theorem m105w (d : Nat) (h : q_S) {w : Nat} (hw : w ≤ 5) (x : Int32) : q_sem (d + 1) 105 h [.int (nI w), .int x] = if x < nI (q_lst w) then some (h, some (.int 0)) else if nI (q_mst w) < x then some (h, some (.int 0)) else some (h, some (.int 1)) := by
  rw [m105]
  rcases (by omega : w = 0 ∨ w = 1 ∨ w = 2 ∨ w = 3 ∨ w = 4 ∨ w = 5) with e | e | e | e | e | e <;> (subst e; rfl)
def qg_v (w : Nat) (x : Int32) : Prop := ¬ x < nI (q_lst w) ∧ ¬ nI (q_mst w) < x
theorem s105p (d : Nat) (h : q_S) {w : Nat} (hw : w ≤ 5) {x : Int32} (g : qg_v w x) : q_sem (d + 1) 105 h [.int (nI w), .int x] = some (h, some (.int 1)) := by
  rw [m105w _ _ hw, if_neg g.1, if_neg g.2]
theorem s105n (d : Nat) (h : q_S) {w : Nat} (hw : w ≤ 5) {x : Int32} (g : ¬ qg_v w x) : q_sem (d + 1) 105 h [.int (nI w), .int x] = some (h, some (.int 0)) := by
  rw [m105w _ _ hw]
  by_cases a : x < nI (q_lst w)
  · rw [if_pos a]
  · rw [if_neg a, if_pos (Classical.byContradiction fun b => g ⟨a, b⟩)]
theorem qg_vN {w : Nat} {x : Int32} (g : qg_v w x) : ∃ v, q_lst w ≤ v ∧ v ≤ q_mst w ∧ x = nI v := by
  have hl : q_lst w ≤ 1 := by unfold q_lst; split <;> omega
  have hm : q_mst w ≤ 99 := by unfold q_mst; split <;> (try omega); split <;> (try omega); split <;> omega
  have h0 : ¬ x < 0 := by
    intro a
    refine g.1 ?_
    rw [Int32.lt_iff_toInt_lt] at a ⊢
    have e0 : (0 : Int32).toInt = 0 := rfl
    have e1 : (nI (q_lst w)).toInt = q_lst w := by
      rcases (by omega : q_lst w = 0 ∨ q_lst w = 1) with e | e <;> (rw [e]; rfl)
    omega
  obtain ⟨c, hc, rfl⟩ := qg_nat h0
  have a := g.1
  have b := g.2
  rw [nI_lt_iff hc (by omega)] at a
  rw [nI_lt_iff (by omega) hc] at b
  exact ⟨c, by omega, by omega, rfl⟩
