/-! ===== set ===== -/
def qt_add (t : qT) (dn : Nat) (x1 x2 x3 x4 : Int32) : qT := fun c i => if c = 0 ∧ i = 1 then nI (min (dn + 1) 12) else if c = 0 ∧ i = 2 then 0 else if 4 ≤ c ∧ c ≤ 7 then qx_add dn (t c) (qx_a x1 x2 x3 x4 (c - 4)) i else t c i
theorem ta_1 {t : qT} {dn : Nat} {x1 x2 x3 x4 : Int32} : qt_add t dn x1 x2 x3 x4 0 1 = nI (min (dn + 1) 12) := rfl
theorem ta_2 {t : qT} {dn : Nat} {x1 x2 x3 x4 : Int32} : qt_add t dn x1 x2 x3 x4 0 2 = 0 := rfl
theorem ta_a {t : qT} {dn : Nat} {x1 x2 x3 x4 : Int32} {a i : Nat} (ha : a < 4) : qt_add t dn x1 x2 x3 x4 (4 + a) i = qx_add dn (t (4 + a)) (qx_a x1 x2 x3 x4 a) i := by
  unfold qt_add
  rw [if_neg (by omega), if_neg (by omega), if_pos (by omega), show 4 + a - 4 = a by omega]
theorem ta_ne {t : qT} {dn : Nat} {x1 x2 x3 x4 : Int32} {c i : Nat} (h : ¬ ((c = 0 ∧ (i = 1 ∨ i = 2)) ∨ (4 ≤ c ∧ c ≤ 7))) : qt_add t dn x1 x2 x3 x4 c i = t c i := by
  unfold qt_add
  rw [if_neg (by omega), if_neg (by omega), if_neg (by omega)]
theorem ch_add {l l2 : qv_L} {t : qT} {dn un : Nat} {L : Nat → qv_L} {x1 x2 x3 x4 : Int32} (h12 : dn + un ≤ 12) (h0 : L dn = l) (hL : ∀ i, i < dn + un → qs_link (L i) (L (i + 1)) (t 4 i) (t 5 i) (t 6 i) (t 7 i)) (hn : qs_link l l2 x1 x2 x3 x4) : qs_ch l2 (qt_add t dn x1 x2 x3 x4) := by
  by_cases z : dn = 12
  · refine ⟨fun i => if i = 12 then l2 else L (i + 1), 12, 0, by rw [ta_1, z]; rfl, ta_2, by omega, if_pos rfl, fun i hi => ?_⟩
    have e : ∀ a, a < 4 → qt_add t dn x1 x2 x3 x4 (4 + a) i = if i = 11 then qx_a x1 x2 x3 x4 a else t (4 + a) (i + 1) := fun a ha => by
      rw [ta_a ha]
      unfold qx_add
      rw [if_pos z]
    show qs_link (if i = 12 then l2 else L (i + 1)) (if i + 1 = 12 then l2 else L (i + 1 + 1)) _ _ _ _
    by_cases w : i = 11
    · rw [if_neg (show ¬ i = 12 by omega), if_pos (show i + 1 = 12 by omega), show i + 1 = dn by omega, h0]
      rw [show qt_add t dn x1 x2 x3 x4 4 i = x1 from (e 0 (by omega)).trans (if_pos w), show qt_add t dn x1 x2 x3 x4 5 i = x2 from (e 1 (by omega)).trans (if_pos w), show qt_add t dn x1 x2 x3 x4 6 i = x3 from (e 2 (by omega)).trans (if_pos w), show qt_add t dn x1 x2 x3 x4 7 i = x4 from (e 3 (by omega)).trans (if_pos w)]
      exact hn
    · rw [if_neg (show ¬ i = 12 by omega), if_neg (show ¬ i + 1 = 12 by omega)]
      rw [show qt_add t dn x1 x2 x3 x4 4 i = t 4 (i + 1) from (e 0 (by omega)).trans (if_neg w), show qt_add t dn x1 x2 x3 x4 5 i = t 5 (i + 1) from (e 1 (by omega)).trans (if_neg w), show qt_add t dn x1 x2 x3 x4 6 i = t 6 (i + 1) from (e 2 (by omega)).trans (if_neg w), show qt_add t dn x1 x2 x3 x4 7 i = t 7 (i + 1) from (e 3 (by omega)).trans (if_neg w)]
      exact hL (i + 1) (by omega)
  · refine ⟨fun i => if i = dn + 1 then l2 else L i, dn + 1, 0, by rw [ta_1, Nat.min_eq_left (by omega)], ta_2, by omega, if_pos rfl, fun i hi => ?_⟩
    have e : ∀ a, a < 4 → qt_add t dn x1 x2 x3 x4 (4 + a) i = if i = dn then qx_a x1 x2 x3 x4 a else t (4 + a) i := fun a ha => by
      rw [ta_a ha]
      unfold qx_add
      rw [if_neg z]
    show qs_link (if i = dn + 1 then l2 else L i) (if i + 1 = dn + 1 then l2 else L (i + 1)) _ _ _ _
    by_cases w : i = dn
    · rw [if_neg (show ¬ i = dn + 1 by omega), if_pos (show i + 1 = dn + 1 by omega), show L i = l by rw [w, h0]]
      rw [show qt_add t dn x1 x2 x3 x4 4 i = x1 from (e 0 (by omega)).trans (if_pos w), show qt_add t dn x1 x2 x3 x4 5 i = x2 from (e 1 (by omega)).trans (if_pos w), show qt_add t dn x1 x2 x3 x4 6 i = x3 from (e 2 (by omega)).trans (if_pos w), show qt_add t dn x1 x2 x3 x4 7 i = x4 from (e 3 (by omega)).trans (if_pos w)]
      exact hn
    · rw [if_neg (show ¬ i = dn + 1 by omega), if_neg (show ¬ i + 1 = dn + 1 by omega)]
      rw [show qt_add t dn x1 x2 x3 x4 4 i = t 4 i from (e 0 (by omega)).trans (if_neg w), show qt_add t dn x1 x2 x3 x4 5 i = t 5 i from (e 1 (by omega)).trans (if_neg w), show qt_add t dn x1 x2 x3 x4 6 i = t 6 i from (e 2 (by omega)).trans (if_neg w), show qt_add t dn x1 x2 x3 x4 7 i = t 7 i from (e 3 (by omega)).trans (if_neg w)]
      exact hL i (by omega)
theorem k64 (x y z : Int32) : qs_sk 64 145 [.int x, .int y, .int z] := by
  intro s hs
  have h8 := hs.1.1
  by_cases hx : ∃ w, w ≤ 5 ∧ x = nI w
  · obtain ⟨w, hw, rfl⟩ := hx
    by_cases g : qg_pl s.1 w y ∧ qg_v w z
    · obtain ⟨k, hk, hy, hd, hsf⟩ := qg_plN h8 g.1
      obtain ⟨v, hv1, hv2, rfl⟩ := qg_vN g.2
      have hm : q_mst w ≤ 99 := by unfold q_mst; split <;> (try omega); split <;> (try omega); split <;> omega
      by_cases r : w = 3 ∧ 6 < qv_but s.1 k (s.1 0 0 - 1) * v
      · obtain ⟨rfl, r⟩ := r
        have hk1 := hsf (by omega)
        have e := hy (by omega)
        subst e
        have hv6 : v ≤ 6 := hv2
        refine qs_nok (-5) hs ?_ ?_
        · intro d h hc
          rw [m64, s22s_12 _ hs.1 hc.1 hk1 g.1 g.2 hv6 (but_6 hs.1 hk1) r, q_c1_s, if_neg (by decide)]
        · intro d h hr
          rw [m145, s143s _ hs.1 hr.1 hk1 g.1 g.2 hv6 r, q_c1_s, if_neg (by decide)]
      · have r3 : w = 3 → qv_but s.1 k (s.1 0 0 - 1) * v ≤ 6 := fun q => by
          rcases Nat.lt_or_ge 6 (qv_but s.1 k (s.1 0 0 - 1) * v) with p | p
          · exact absurd ⟨q, p⟩ r
          · exact p
        have gb := get_bd hs.1 (w := w) hk
        by_cases u : qv_get s.1 w k = v
        · refine qs_nok (nI v) hs ?_ ?_
          · intro d h hc
            rw [m64, s22p_12 _ hs.1 hc.1 hw hy (fun q => hsf (by omega)) g.1 g.2 r3, q_c1_s, if_pos rfl, s23 _ hc.1 hw hk hy, q_c1_s, u, if_pos rfl]
          · intro d h hr
            rw [m145, s143p _ hs.1 hr.1 hw hy (fun q => hsf (by omega)) g.1 g.2 r3, q_c1_s, if_pos rfl, s138 _ hr.1 hw hk hy, q_c1_s, u, if_pos rfl]
        · have hne : ¬ nI (qv_get s.1 w k) = nI v := by rw [nI_eq_iff (by omega) (by omega)]; exact u
          obtain ⟨L, dn, un, e1, e2, e3, e4, e5⟩ := hs.2.2.2.1
          have hok := ok_put hs.1 hw hk hd hsf hv1 hv2 r3
          obtain ⟨o1, o2, o3, o4, o5, o6, o7⟩ := hs
          refine ⟨nI (qv_get s.1 w k), (qv_put s.1 w k v, s.2.1, qt_add s.2.2.1 dn (nI w) y (nI (qv_get s.1 w k)) (nI v), s.2.2.2), mk_ok hok (f_im (fun a j q => ta_ne (by omega)) o2) (f_or (fun a j q => ta_ne (by omega)) o3) (ch_add e3 e4 e5 ⟨o1, hok, w, k, qv_get s.1 w k, v, hw, hk, gb, by omega, rfl, hy, rfl, rfl, rfl, (put_put s.1 hw k v).symm⟩) (f_tp (fun a j q => ta_ne (by omega)) o5) (f_rw (fun a j q => ta_ne (by omega)) o6) (f_tc (fun a j q => ta_ne (by omega)) o7), ⟨rfl, rfl, fun a j q => ta_ne q⟩, ?_, ?_⟩
          · rintro d h ⟨c1, c2, c3, c4, c5, c6, c7, c8⟩
            obtain ⟨h2, g1, g2, g3, g4⟩ := s24_12 (d + 12) c1 hw hk hy v
            obtain ⟨h3, j1, j2, j3, j4, j5, j6⟩ := s1 (d + 11) h2 dn (by omega) (by rw [g3 _ _ (by omega), c4.1, e1]) (nI w) y (nI (qv_get s.1 w k)) (nI v)
            refine ⟨h3, ?_, ?_⟩
            · rw [m64, s22p_12 _ o1 c1 hw hy (fun q => hsf (by omega)) g.1 g.2 r3, q_c1_s, if_pos rfl, s23 _ c1 hw hk hy, q_c1_s, if_neg hne, g1, q_c0_s, j1, q_c0_s]
            · have u : ∀ a j, ¬ (12 ≤ a ∧ a ≤ 17) → ¬ (38 ≤ a ∧ a ≤ 42) → h3.1 a j = h.1 a j := fun a j q r => (j5 a j r).trans (g3 a j q)
              have ul : h3.2 = h.2 := j6.trans g4
              exact mk_C (f_c1 (fun a j q => j5 a j (by omega)) g2) (f_c2 (fun a j q => u a j (by omega) (by omega)) (fun a j q => ta_ne (by omega)) c2) (f_c3 (fun a j q => u a j (by omega) (by omega)) (fun a j q => ta_ne (by omega)) c3) ⟨j2, j3, fun a i x y => by
                rw [j4 a i x y, ta_a x]
                unfold qx_add
                split
                · by_cases zz : i = 11
                  · rw [if_pos zz, if_pos zz]
                  · rw [if_neg zz, if_neg zz, g3 _ _ (by omega)]
                    exact c4.2.2 a (i + 1) x (by omega)
                · split
                  · rfl
                  · rw [g3 _ _ (by omega)]
                    exact c4.2.2 a i x y⟩ (f_c5 (fun a j q => u a j (by omega) (by omega)) (fun a j q => ta_ne (by omega)) c5) (f_c6 (fun a j q => u a j (by omega) (by omega)) (fun a j _ => by rw [ul]) (fun a j q => ta_ne (by omega)) c6) (f_c7 (fun a j q => u a j (by omega) (by omega)) (by rw [ul]) (fun a j q => ta_ne (by omega)) c7) (f_z (fun a j _ => by rw [ul]) c8)
          · rintro d h ⟨c1, c2, c3, c4, c5, c6, c7⟩
            obtain ⟨h2, j1, j2, j3, j4, j5, j6⟩ := s144 (d + 12) h dn (by omega) (c4.1.trans e1) (nI w) y (nI (qv_get s.1 w k)) (nI v)
            obtain ⟨h3, g1, g2, g3, g4⟩ := s139 (d + 12) (h := h2) (f_r1 (fun a j q => j5 a j (by omega)) c1) hw hk hy v
            refine ⟨h3, ?_, ?_⟩
            · rw [m145, s143p _ o1 c1 hw hy (fun q => hsf (by omega)) g.1 g.2 r3, q_c1_s, if_pos rfl, s138 _ c1 hw hk hy, q_c1_s, if_neg hne, j1, q_c0_s, g1, q_c0_s]
            · have u : ∀ a j, ¬ ((a = 67 ∧ j < 3) ∨ (68 ≤ a ∧ a ≤ 72)) → ¬ ((a = 67 ∧ (j = 20 ∨ j = 21)) ∨ (81 ≤ a ∧ a ≤ 84)) → h3.1 a j = h.1 a j := fun a j q r => (g3 a j q).trans (j5 a j r)
              have ul : h3.2 = h.2 := g4.trans j6
              exact mk_R g2 (f_r2 (fun a j q => u a j (by omega) (by omega)) (fun a j q => ta_ne (by omega)) c2) (f_r3 (fun a j q => u a j (by omega) (by omega)) (fun a j q => ta_ne (by omega)) c3) ⟨by rw [g3 _ _ (by omega), j2, ta_1], by rw [g3 _ _ (by omega), j3, ta_2], fun a i x y => by
                rw [g3 _ _ (by omega), j4 a i x y, ta_a x]
                unfold qx_add
                split
                · by_cases zz : i = 11
                  · rw [if_pos zz, if_pos zz]
                  · rw [if_neg zz, if_neg zz]
                    exact c4.2.2 a (i + 1) x (by omega)
                · split
                  · rfl
                  · exact c4.2.2 a i x y⟩ (f_r5 (fun a j q => u a j (by omega) (by omega)) (fun a j q => ta_ne (by omega)) c5) (f_r6 (fun a j q => u a j (by omega) (by omega)) (fun a j _ => by rw [ul]) (fun a j q => ta_ne (by omega)) c6) (f_r7 (fun a j q => u a j (by omega) (by omega)) (fun a j q => ta_ne (by omega)) c7)
    · refine qs_nok (-1) hs ?_ ?_
      · intro d h hc
        rw [m64, s22n_12 _ hc.1 hw g, q_c1_s, if_neg (by decide)]
      · intro d h hr
        rw [m145, s143n _ hs.1 hr.1 hw g, q_c1_s, if_neg (by decide)]
  · have hy : ∀ w, w ≤ 5 → x ≠ nI w := fun w a b => hx ⟨w, a, b⟩
    refine qs_nok (-1) hs ?_ ?_
    · intro d h hc
      rw [m64, s22o_12 _ _ hy, q_c1_s, if_neg (by decide)]
    · intro d h hr
      rw [m145, s143o _ _ hy, q_c1_s, if_neg (by decide)]
theorem c61 (x y z : Int32) : qs_st 61 135 [.int x, .int y, .int z] := qs_sk_st (k61 x y z)
theorem c62 : qs_st 62 136 [] := qs_sk_st k62
theorem c64 (x y z : Int32) : qs_st 64 145 [.int x, .int y, .int z] := qs_sk_st (k64 x y z)
