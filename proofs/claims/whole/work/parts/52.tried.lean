/-! ===== tried ===== -/
def qa_c (l l' : qv_L) (x y z : Int32) : Prop := ∀ (d : Nat) (h : q_S), qv_at h 18 l → ∃ v, q_sem (d + 3) 22 h [.ref 18, .int x, .int y, .int z] = some (h, some (.int v)) ∧ ((v ≠ 0 ∧ l' = l) ∨ (v = 0 ∧ ∃ h2, q_sem (d + 3) 24 h [.ref 18, .int x, .int y, .int z] = some (h2, none) ∧ qv_at h2 18 l' ∧ (∀ a j, ¬ (18 ≤ a ∧ a ≤ 23) → h2.1 a j = h.1 a j) ∧ h2.2 = h.2))
def qa_r (l l' : qv_L) (x y z : Int32) : Prop := ∀ (d : Nat) (h : q_S), qw_at h l → ∃ v, q_sem (d + 4) 143 h [.ref 67, .int x, .int y, .int z] = some (h, some (.int v)) ∧ ((v ≠ 0 ∧ l' = l) ∨ (v = 0 ∧ ∃ h2, q_sem (d + 4) 139 h [.ref 67, .int x, .int y, .int z] = some (h2, none) ∧ qw_at h2 l' ∧ (∀ a j, ¬ ((a = 67 ∧ j < 3) ∨ (68 ≤ a ∧ a ≤ 72)) → h2.1 a j = h.1 a j) ∧ h2.2 = h.2))
theorem put_00 (l : qv_L) {w : Nat} (hw : w ≤ 5) (k v : Nat) : qv_put l w k v 0 0 = l 0 0 := by
  rcases q6 hw with rfl | rfl | rfl | rfl | rfl | rfl
  · rw [put_0, ql_ne (by omega)]
  · rw [put_1, ql_ne (by omega)]
  · rw [put_2, ql_ne (by omega)]
  · rw [put_3, ql_ne (by omega)]
  · rw [put_4, ql_ne (by omega)]
  · rw [put_5, ql_ne (by omega)]
theorem qa {l : qv_L} (hl : qv_ok l) (x y z : Int32) : ∃ l', qv_ok l' ∧ l' 0 0 = l 0 0 ∧ qa_c l l' x y z ∧ qa_r l l' x y z := by
  have h8 := hl.1
  by_cases hx : ∃ w, w ≤ 5 ∧ x = nI w
  · obtain ⟨w, hw, rfl⟩ := hx
    by_cases g : qg_pl l w y ∧ qg_v w z
    · obtain ⟨k, hk, hy, hd, hsf⟩ := qg_plN h8 g.1
      obtain ⟨v, hv1, hv2, rfl⟩ := qg_vN g.2
      by_cases r : w = 3 ∧ 6 < qv_but l k (l 0 0 - 1) * v
      · obtain ⟨rfl, r⟩ := r
        have hk1 := hsf (by omega)
        have e := hy (by omega)
        subst e
        have hv6 : v ≤ 6 := hv2
        exact ⟨l, hl, rfl, fun d h hc => ⟨-5, s22s_18 _ hl hc hk1 g.1 g.2 hv6 (but_6 hl hk1) r, Or.inl ⟨by decide, rfl⟩⟩, fun d h hc => ⟨-5, s143s _ hl hc hk1 g.1 g.2 hv6 r, Or.inl ⟨by decide, rfl⟩⟩⟩
      · have r3 : w = 3 → qv_but l k (l 0 0 - 1) * v ≤ 6 := fun q => by
          rcases Nat.lt_or_ge 6 (qv_but l k (l 0 0 - 1) * v) with p | p
          · exact absurd ⟨q, p⟩ r
          · exact p
        refine ⟨qv_put l w k v, ok_put hl hw hk hd hsf hv1 hv2 r3, put_00 l hw k v, fun d h hc => ⟨0, s22p_18 _ hl hc hw hy (fun q => hsf (by omega)) g.1 g.2 r3, Or.inr ⟨rfl, s24_18 (d + 2) hc hw hk hy v⟩⟩, fun d h hc => ⟨0, s143p _ hl hc hw hy (fun q => hsf (by omega)) g.1 g.2 r3, Or.inr ⟨rfl, s139 (d + 3) hc hw hk hy v⟩⟩⟩
    · exact ⟨l, hl, rfl, fun d h hc => ⟨-1, s22n_18 _ hc hw g, Or.inl ⟨by decide, rfl⟩⟩, fun d h hc => ⟨-1, s143n _ hl hc hw g, Or.inl ⟨by decide, rfl⟩⟩⟩
  · have hy : ∀ w, w ≤ 5 → x ≠ nI w := fun w a b => hx ⟨w, a, b⟩
    exact ⟨l, hl, rfl, fun d h hc => ⟨-1, s22o_18 _ _ hy _ _, Or.inl ⟨by decide, rfl⟩⟩, fun d h hc => ⟨-1, s143o _ _ hy _ _, Or.inl ⟨by decide, rfl⟩⟩⟩
theorem l84 (t : qT) (w : Nat) (hw : w ≤ 8) (et : t 0 0 = nI w) (k q : Int32) : ∀ m i (l : qv_L), i + m = w → qv_ok l → ∃ l', qv_ok l' ∧ l' 0 0 = l 0 0 ∧ (∀ (d f : Nat) (h0 h : q_S), qv_at h 18 l → qs_c3 h t → qc_sc h0 h → qr_z h → ∃ h2, q_go e_84 q_X0 (q_sem (d + 6)) (f + 1 + m) 33 [(0, .ref 0), (1, .int k), (2, .int q), (3, .int (nI i))] [] h = q_go e_84 q_X0 (q_sem (d + 6)) (f + 1) 33 [(0, .ref 0), (1, .int k), (2, .int q), (3, .int (nI w))] [] h2 ∧ qv_at h2 18 l' ∧ qs_c3 h2 t ∧ qc_sc h0 h2 ∧ qr_z h2) ∧ (∀ (d f : Nat) (h0 h : q_S), qw_at h l → qs_r3 h t → qy h0 h → ∃ h2, q_go e_181 q_X0 (q_sem (d + 6)) (f + 1 + m) 19 [(0, .ref 67), (1, .int k), (2, .int q), (3, .int (nI i))] [] h = q_go e_181 q_X0 (q_sem (d + 6)) (f + 1) 19 [(0, .ref 67), (1, .int k), (2, .int q), (3, .int (nI w))] [] h2 ∧ qw_at h2 l' ∧ qs_r3 h2 t ∧ qy h0 h2 ∧ ∀ j, h2.1 98 j = h.1 98 j) := by
  intro m
  induction m with
  | zero =>
    intro i l hi hl
    have : i = w := by omega
    subst this
    exact ⟨l, hl, rfl, fun d f h0 h a b c e => ⟨h, rfl, a, b, c, e⟩, fun d f h0 h a b c => ⟨h, rfl, a, b, c, fun _ => rfl⟩⟩
  | succ m ih =>
    intro i l hi hl
    obtain ⟨l1, k1, k2, kc, kr⟩ := qa hl (t 1 i) (t 2 i) (t 3 i)
    obtain ⟨l', j1, j2, jc, jr⟩ := ih (i + 1) l1 (by omega) k1
    refine ⟨l', j1, j2.trans k2, fun d f h0 h a b c e => ?_, fun d f h0 h a b c => ?_⟩
    · obtain ⟨v, v1, v2⟩ := kc (d + 3) h a
      rw [show f + 1 + (m + 1) = (f + 1 + m) + 1 by omega, b84_33, b.1, et, if_pos (by rw [nI_lt_iff (by omega) (by omega)]; omega), nI_p1]
      simp only [q_ix_n (show i < 8 by omega) (show 8 < 2147483648 by decide)]
      rw [show h.1 31 i = t 1 i from b.2 0 i (by omega) (by omega), show h.1 32 i = t 2 i from b.2 1 i (by omega) (by omega), show h.1 33 i = t 3 i from b.2 2 i (by omega) (by omega), v1, q_c1_s]
      rcases v2 with ⟨v0, rfl⟩ | ⟨v0, h2, g1, g2, g3, g4⟩
      · rw [if_neg v0]
        exact jc d f h0 h a b c e
      · rw [if_pos v0, show h.1 31 i = t 1 i from b.2 0 i (by omega) (by omega), show h.1 32 i = t 2 i from b.2 1 i (by omega) (by omega), show h.1 33 i = t 3 i from b.2 2 i (by omega) (by omega), g1, q_c0_s]
        exact jc d f h0 h2 g2 (f_c3 (fun a j q => g3 a j (by omega)) (fun _ _ _ => rfl) b) (qc_sc_tr c (qc_fr g3 g4)) (qz_fr2 g4 e)
    · obtain ⟨v, v1, v2⟩ := kr (d + 2) h a
      rw [show f + 1 + (m + 1) = (f + 1 + m) + 1 by omega, b181_19, b.1, et, if_pos (by rw [nI_lt_iff (by omega) (by omega)]; omega), nI_p1]
      simp only [q_ix_n (show i < 8 by omega) (show 8 < 2147483648 by decide)]
      rw [show h.1 89 i = t 1 i from b.2 0 i (by omega) (by omega), show h.1 90 i = t 2 i from b.2 1 i (by omega) (by omega), show h.1 91 i = t 3 i from b.2 2 i (by omega) (by omega), v1, q_c1_s]
      rcases v2 with ⟨v0, rfl⟩ | ⟨v0, h2, g1, g2, g3, g4⟩
      · rw [if_neg v0]
        exact jr d f h0 h a b c
      · rw [if_pos v0, show h.1 89 i = t 1 i from b.2 0 i (by omega) (by omega), show h.1 90 i = t 2 i from b.2 1 i (by omega) (by omega), show h.1 91 i = t 3 i from b.2 2 i (by omega) (by omega), g1, q_c0_s]
        obtain ⟨h3, r1, r2, r3, r4, r5⟩ := jr d f h0 h2 g2 (f_r3 (fun a j q => g3 a j (by omega)) (fun _ _ _ => rfl) b) (qy_tr c ⟨fun a j _ p q _ => g3 a j (by omega), fun a j _ => by rw [g4]⟩)
        exact ⟨h3, r1, r2, r3, r4, fun j => (r5 j).trans (g3 98 j (by omega))⟩
theorem c84 (x y : Int32) : qs_st 84 181 [.int x, .int y] := by
  intro s hs
  have h8 := hs.1.1
  by_cases g : qg_d s.1 x ∧ qg_q y
  · obtain ⟨q, hq1, hq, rfl⟩ := qg_qN g.2
    obtain ⟨k, hk, rfl⟩ := qg_dN hs.1.1 g.1
    obtain ⟨w, hw, et, -⟩ := hs.2.2.1
    obtain ⟨l', kok, k00, kc, kr⟩ := l84 s.2.2.1 w hw et (nI k) (nI q) w 0 s.1 (by omega) hs.1
    have hk' : k < l' 0 0 := by rw [k00]; exact hk
    refine ⟨.int (nI (qv_f l' k q)), s, hs, ?_, ?_⟩
    · intro d h hc
      obtain ⟨h2, e1, e2, e3, e4⟩ := s16_18_12 (d + 12) hc.1
      obtain ⟨h3, f1, f2, f3, f4, f5⟩ := kc (d + 7) (998 - w) h h2 e2 (f_c3 (fun a j q => e3 a j (by omega)) (fun _ _ _ => rfl) hc.2.2.1) (qc_fr e3 e4) (qz_fr2 e4 hc.2.2.2.2.2.2.2)
      obtain ⟨h4, j1, j2, j3⟩ := s112t (d + 7) h3 l' kok k q hq1 hq hk' f2 f5
      refine ⟨h4, ?_, qs_C_sc (qc_sc_tr f4 (qc_of j2)) j3 hc⟩
      rw [show 998 - w + 1 + w = 999 by omega] at f1
      rw [m84, s19p _ hc.1 g.1, q_c1_s, if_neg (by decide), s106p _ _ g.2, q_c1_s, if_neg (by decide), e1, q_c0_s, show q_go e_84 q_X0 (q_sem (d + 13)) 999 33 [(0, .ref 0), (1, .int (nI k)), (2, .int (nI q)), (3, .int 0)] [] h2 = _ from f1, b84_33, f3.1, et, if_neg (by rw [nI_lt_iff (by omega) (by omega)]; omega), j1, q_c1_s]
    · rintro d h ⟨c1, c2, c3, c4, c5, c6, c7⟩
      obtain ⟨h1, a1, iv⟩ := s202 (d + 10) h (g := 1) (w := 0) (by omega) (by omega)
      have V1 : ∀ p, p < 68 → h1.1 (qk_c p) (qk_i p) = h.1 (qk_c p) (qk_i p) ∧ h1.1 98 p = h.1 (qk_c p) (qk_i p) := by
        intro p hp
        have r := iv.2.2.1 p hp
        unfold qk_V at r
        rw [if_pos rfl, show 70 * 0 + p = p by omega] at r
        exact r
      have src : ∀ (A B : q_S), (∀ p, p < 68 → A.1 (qk_c p) (qk_i p) = B.1 (qk_c p) (qk_i p)) → (∀ j, j < 3 → A.1 67 j = B.1 67 j) ∧ A.1 67 26 = B.1 67 26 ∧ (∀ a i, 1 ≤ a → a ≤ 5 → i < 8 → A.1 (67 + a) i = B.1 (67 + a) i) ∧ (∀ a i, a < 3 → i < 8 → A.1 (89 + a) i = B.1 (89 + a) i) := by
        intro A B e
        refine ⟨fun j hj => ?_, e 3 (by omega), fun a i x y z => ?_, fun a i x y => ?_⟩
        · rcases q3 hj with rfl | rfl | rfl
          · exact e 0 (by omega)
          · exact e 1 (by omega)
          · exact e 2 (by omega)
        · obtain ⟨b1, b2⟩ := qk_arr (a - 1) (by omega) i z
          have r := e (4 + 8 * (a - 1) + i) (by omega)
          rw [b1, b2, if_pos (by omega), show 68 + (a - 1) = 67 + a by omega] at r
          exact r
        · obtain ⟨b1, b2⟩ := qk_arr (5 + a) (by omega) i y
          have r := e (4 + 8 * (5 + a) + i) (by omega)
          rw [b1, b2, if_neg (by omega), show 84 + (5 + a) = 89 + a by omega] at r
          exact r
      obtain ⟨t1, t2, t3, t4⟩ := src h1 h (fun p hp => (V1 p hp).1)
      have L1 : qw_at h1 s.1 := ⟨(t1 0 (by omega)).trans c1.1, (t1 1 (by omega)).trans c1.2.1, (t1 2 (by omega)).trans c1.2.2.1, fun a i x y z => (t3 a i x y z).trans (c1.2.2.2 a i x y z)⟩
      have O1 : qs_r3 h1 s.2.2.1 := ⟨t2.trans c3.1, fun a i x y => (t4 a i x y).trans (c3.2 a i x y)⟩
      obtain ⟨h2, f1, f2, f3, f4, f5⟩ := kr (d + 7) (998 - w) h1 h1 L1 O1 (qy_rf h1)
      obtain ⟨h3, g1, g2⟩ := s133 (d + 9) h2 l' kok k q hq1 hq hk' f2
      obtain ⟨h4, z1, iw⟩ := s202 (d + 10) h3 (g := 0) (w := 0) (by omega) (by omega)
      have V2 : ∀ p, p < 68 → h4.1 (qk_c p) (qk_i p) = h.1 (qk_c p) (qk_i p) := by
        intro p hp
        have r := (iw.2.2.1 p hp).1
        unfold qk_V at r
        rw [if_neg (show ¬ (0 : Nat) = 1 by omega), show 70 * 0 + p = p by omega, g2.1 98 (by decide), f5 p, (V1 p hp).2] at r
        exact r
      obtain ⟨u1, u2, u3, u4⟩ := src h4 h V2
      have hT : ∀ a, a ∉ qw_T ↔ ¬ (a = 73 ∨ a = 74 ∨ a = 75 ∨ a = 76 ∨ a = 77 ∨ a = 79 ∨ a = 80) := by
        intro a
        simp [qw_T]
      have fr : ∀ a j, ((a = 67 ∧ 3 ≤ j ∧ j ≠ 26 ∧ j ≠ 44 ∧ j ≠ 46) ∨ (80 < a ∧ a < 89) ∨ (91 < a ∧ a < 98) ∨ (a = 98 ∧ 70 ≤ j) ∨ 98 < a) → h4.1 a j = h.1 a j := fun a j p => by
        rw [iw.2.2.2.2.1 a j (by omega) (by omega) (by omega) (by omega), g2.1 a ((hT a).mpr (by omega)), f4.1 a j ((hT a).mpr (by omega)) (by omega) (by omega) (by omega), iv.2.2.2.2.1 a j (by omega) (by omega) (by omega) (by omega)]
      have fl : ∀ a j, a ≠ 78 → h4.2.1 a j = h.2.1 a j := fun a j p => by
        rw [iw.2.2.2.2.2, g2.2.2 a p, f4.2 a j p, iv.2.2.2.2.2]
      refine ⟨h4, ?_, ⟨(u1 0 (by omega)).trans c1.1, (u1 1 (by omega)).trans c1.2.1, (u1 2 (by omega)).trans c1.2.2.1, fun a i x y z => (u3 a i x y z).trans (c1.2.2.2 a i x y z)⟩, f_r2 (fun a j q => fr a j (by omega)) (fun _ _ _ => rfl) c2, ⟨u2.trans c3.1, fun a i x y => (u4 a i x y).trans (c3.2 a i x y)⟩, f_r4 (fun a j q => fr a j (by omega)) (fun _ _ _ => rfl) c4, f_r5 (fun a j q => fr a j (by omega)) (fun _ _ _ => rfl) c5, f_r6 (fun a j q => fr a j (by omega)) (fun a j q => fl a j (by omega)) (fun _ _ _ => rfl) c6, f_r7 (fun a j q => fr a j (by omega)) (fun _ _ _ => rfl) c7⟩
      rw [show 998 - w + 1 + w = 999 by omega] at f1
      rw [m181, s155p _ hs.1 c1 g, q_c1_s, if_neg (by decide), show q_sem (d + 13) 202 h [.ref 67, .int 0, .int 1] = _ from a1, q_c0_s, show q_go e_181 q_X0 (q_sem (d + 13)) 999 19 [(0, .ref 67), (1, .int (nI k)), (2, .int (nI q)), (3, .int 0)] [] h1 = _ from f1, b181_19, f3.1, et, if_neg (by rw [nI_lt_iff (by omega) (by omega)]; omega), g1, q_c1_s, show q_sem (d + 13) 202 h3 [.ref 67, .int 0, .int 0] = _ from z1, q_c0_s]
  · refine qs_no (.int (-1)) hs ?_ ?_
    · intro d h hc
      rw [m84]
      by_cases a : qg_d s.1 x
      · rw [s19p _ hc.1 a, q_c1_s, if_neg (by decide), s106n _ _ (fun b => g ⟨a, b⟩), q_c1_s, if_pos rfl]
      · rw [s19n _ hc.1 a, q_c1_s, if_pos rfl]
    · intro d h hr
      rw [m181, s155n _ hs.1 hr.1 g, q_c1_s, if_pos rfl]
