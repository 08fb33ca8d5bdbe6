/-! ===== copy ===== -/
theorem gb96_22 {r : Nat} (hr : r < 3) (X : q_X) (O : q_O) (n : Nat) (h : q_S) (x2 : Int32) (x3 : Int32) (x4 : Int32) (x5 : Int32) : q_go e_96 X O (n + 1) 22 [(0, .ref 0), (2, .int x2), (3, .int x3), (4, .int x4), (5, .int x5)] [.ref (61 + r)] h =
  q_ix x3 3 (fun j1 =>
  q_go e_96 X O n 30 [(2, .int x2), (4, .int x4), (5, .int x5), (6, .ref (61 + r))] [.ref (q_rf 60 j1)] h) := by
  rcases q3 hr with rfl | rfl | rfl
  · exact b96_22 ..
  · exact b96_22_1 ..
  · exact b96_22_2 ..
theorem gb96_30 {r r2 : Nat} (hr : r < 3) (hr2 : r2 < 3) (X : q_X) (O : q_O) (n : Nat) (h : q_S) (x2 : Int32) (x4 : Int32) (x5 : Int32) : q_go e_96 X O (n + 1) 30 [(2, .int x2), (4, .int x4), (5, .int x5), (6, .ref (61 + r))] [.ref (61 + r2)] h =
  q_c1 (O 48 h [.ref (61 + r)]) (fun h1 v2 =>
  if v2 = 0 then
    q_c1 (O 48 h1 [.ref (61 + r2)]) (fun h3 v4 =>
    if v4 = 0 then
      if (h3.1 (61 + r) 1) = (h3.1 (61 + r2) 1) then
        q_c1 (O 51 h3 [.ref (61 + r), .int x2, .int x5]) (fun h5 v6 =>
        if v6 = 0 then
          some (h5, some (.int (-13)))
        else
          q_c1 (O 51 h5 [.ref (61 + r2), .int x4, .int x5]) (fun h7 v8 =>
          if v8 = 0 then
            some (h7, some (.int (-13)))
          else
            q_arc h7 (64 + r) x2 (64 + r2) x4 x5 (fun h9 =>
            some (h9, some (.int x5)))))
      else
        some (h3, some (.int (-12)))
    else
      some (h3, some (.int (-11))))
  else
    some (h1, some (.int (-11)))) := by
  rcases q3 hr with rfl | rfl | rfl
  · rcases q3 hr2 with rfl | rfl | rfl
    · exact b96_30 ..
    · exact b96_30_1 ..
    · exact b96_30_2 ..
  · rcases q3 hr2 with rfl | rfl | rfl
    · exact b96_30_3 ..
    · exact b96_30_4 ..
    · exact b96_30_5 ..
  · rcases q3 hr2 with rfl | rfl | rfl
    · exact b96_30_6 ..
    · exact b96_30_7 ..
    · exact b96_30_8 ..
theorem arc_l {h : q_S} {a b sp dp n : Nat} {f : q_S → q_A} (ta : q_ty a = 1) (tb : q_ty b = 1) (la : sp + n ≤ q_ln a) (lb : dp + n ≤ q_ln b) (h1 : q_ln a < 1000) (h2 : q_ln b < 1000) : q_arc h a (nI sp) b (nI dp) (nI n) f = f (q_cpl h a sp b dp n) := by
  unfold q_arc
  rw [nI_clamp (show sp < 2 ^ 31 by omega), nI_clamp (show dp < 2 ^ 31 by omega), nI_clamp (show n < 2 ^ 31 by omega), if_neg, ta, tb]
  · rfl
  · rintro (q | q | q | q | q)
    · exact nI_lt0 (by omega) q
    · exact nI_lt0 (by omega) q
    · exact nI_lt0 (by omega) q
    · omega
    · omega
theorem cpl_eq {h : q_S} {a b sp dp n j : Nat} : (q_cpl h a sp b dp n).2.1 b j = if dp ≤ j ∧ j < dp + n then h.2.1 a (sp + (j - dp)) else h.2.1 b j := by
  simp [q_cpl, va_cpy]
theorem cpl_ne {h : q_S} {a b sp dp n c j : Nat} (hc : c ≠ b) : (q_cpl h a sp b dp n).2.1 c j = h.2.1 c j := by
  simp [q_cpl, hc]
theorem ty_pl {r : Nat} (hr : r < 3) : q_ty (64 + r) = 1 := by
  rcases q3 hr with rfl | rfl | rfl <;> rfl
theorem ln_pl {r : Nat} (hr : r < 3) : q_ln (64 + r) = 40 := by
  rcases q3 hr with rfl | rfl | rfl <;> rfl
def q_sp (N : Nat) (x y : Int32) : Prop := ∃ a b, x = nI a ∧ y = nI b ∧ a + b ≤ N
theorem sp_neg {N : Nat} (hN : N ≤ 40) {x y : Int32} (g : q_sp N x y) : ¬ y < 0 ∧ ¬ x < 0 := by
  obtain ⟨a, b, rfl, rfl, e⟩ := g
  exact ⟨nI_lt0 (by omega), nI_lt0 (by omega)⟩
theorem s51p (d : Nat) {h : q_S} {r N : Nat} (hr : r < 3) (hN : N ≤ 40) (e : h.1 (61 + r) 2 = nI N) {x y : Int32} (g : q_sp N x y) : q_sem (d + 1) 51 h [.ref (61 + r), .int x, .int y] = some (h, some (.int 1)) := by
  obtain ⟨n1, n2⟩ := sp_neg hN g
  obtain ⟨a, b, rfl, rfl, k⟩ := g
  rw [gm51 hr, if_neg n1, if_neg n2, e, if_neg (by rw [nI_lt_iff (by omega) (by omega)]; omega), pk_sub (by omega), if_neg (by rw [nI_lt_iff (by omega) (by omega)]; omega)]
theorem s51n (d : Nat) {h : q_S} {r N : Nat} (hr : r < 3) (hN : N ≤ 40) (e : h.1 (61 + r) 2 = nI N) {x y : Int32} (g : ¬ q_sp N x y) : q_sem (d + 1) 51 h [.ref (61 + r), .int x, .int y] = some (h, some (.int 0)) := by
  rw [gm51 hr]
  by_cases n1 : y < 0
  · rw [if_pos n1]
  · rw [if_neg n1]
    by_cases n2 : x < 0
    · rw [if_pos n2]
    · rw [if_neg n2, e]
      obtain ⟨a, ha, rfl⟩ := qg_nat n2
      obtain ⟨b, hb, rfl⟩ := qg_nat n1
      by_cases w : N < b
      · rw [if_pos (by rw [nI_lt_iff (by omega) hb]; exact w)]
      · have : ¬ a + b ≤ N := fun q => g ⟨a, b, rfl, rfl, q⟩
        rw [if_neg (by rw [nI_lt_iff (by omega) hb]; exact w), pk_sub (by omega), if_pos (by rw [nI_lt_iff (by omega) ha]; omega)]
theorem sp_lg {N : Nat} (hN : N ≤ 40) {x y : Int32} (n2 : ¬ x < 0) (n1 : ¬ y < 0) : 0 < lg_cmp (x.toInt64 + y.toInt64) ((nI N).toInt64) ↔ ¬ q_sp N x y := by
  obtain ⟨a, ha, rfl⟩ := qg_nat n2
  obtain ⟨b, hb, rfl⟩ := qg_nat n1
  rw [nI_L ha, nI_L hb, nI_L (by omega), iL_add, lg_gt (by omega) (by omega) (by omega) (by omega)]
  constructor
  · intro e ⟨a', b', e1, e2, k⟩
    rw [nI_eq_iff ha (by omega)] at e1
    rw [nI_eq_iff hb (by omega)] at e2
    omega
  · intro g
    have : ¬ a + b ≤ N := fun q => g ⟨a, b, rfl, rfl, q⟩
    omega
def qp_c (P : Nat → Nat → Int64) (r i r2 j n : Nat) : Nat → Nat → Int64 := fun a b => if a = r2 ∧ j ≤ b ∧ b < j + n then P r (i + (b - j)) else P a b
theorem l174a (X : q_X) (O : q_O) (r i r2 j n : Nat) (P : Nat → Nat → Int64) (hr : r < 3) (hi : i + n ≤ 40) (h0 : q_S) (hP : ∀ b, b < 40 → h0.2.1 87 (40 * r + b) = P r b) : ∀ m k f h, k + m = n → m < f → (∀ u, u < k → h.2.1 88 u = P r (i + u)) → h.1 = h0.1 → (∀ a, a ≠ 88 → h.2.1 a = h0.2.1 a) → ∃ h2, q_go e_174 X O f 110 [(0, .ref 67), (1, .int (nI r)), (2, .int (nI i)), (3, .int (nI r2)), (4, .int (nI j)), (5, .int (nI n)), (6, .int (nI k))] [] h = q_go e_174 X O (f - m - 1) 147 [(0, .ref 67), (3, .int (nI r2)), (4, .int (nI j)), (5, .int (nI n)), (6, .int 0)] [] h2 ∧ (∀ u, u < n → h2.2.1 88 u = P r (i + u)) ∧ h2.1 = h0.1 ∧ (∀ a, a ≠ 88 → h2.2.1 a = h0.2.1 a) := by
  intro m
  induction m with
  | zero =>
    intro k f h hm hf e1 e2 e3
    obtain ⟨f, rfl⟩ : ∃ g, f = g + 1 := ⟨f - 1, by omega⟩
    exact ⟨h, by rw [b174_110, if_neg (by rw [nI_lt_iff (by omega) (by omega)]; omega)]; rfl, fun u hu => e1 u (by omega), e2, e3⟩
  | succ m ih =>
    intro k f h hm hf e1 e2 e3
    obtain ⟨f, rfl⟩ : ∃ g, f = g + 1 := ⟨f - 1, by omega⟩
    obtain ⟨h2, g⟩ := ih (k + 1) f (q_sl h 88 k (P r (i + k))) (by omega) (by omega) (fun u hu => by
      by_cases w : u = k
      · subst w; rw [qr_sl_eq]
      · rw [qr_sl_ne (by omega)]; exact e1 u (by omega)) e2 (fun a ha => by funext z; rw [qr_sl_ne (by omega)]; exact congrFun (e3 a ha) z)
    refine ⟨h2, ?_, g.2⟩
    rw [b174_110, if_pos (by rw [nI_lt_iff (by omega) (by omega)]; omega), show (40 : Int32) = nI 40 from rfl, pk_mul, nI_add, nI_add, q_ix_n (by omega) (by decide), q_ix_n (by omega) (by decide), nI_p1, e3 87 (by decide), show 40 * r + i + k = 40 * r + (i + k) by omega, hP _ (by omega), g.1, show f + 1 - (m + 1) - 1 = f - m - 1 by omega]
theorem l174b (X : q_X) (O : q_O) (r i r2 j n : Nat) (P : Nat → Nat → Int64) (hr2 : r2 < 3) (hn : n ≤ 40) (hj : j + n ≤ 40) (h0 : q_S) : ∀ m k f h, k + m = n → m < f → (∀ u, u < n → h.2.1 88 u = P r (i + u)) → h.1 = h0.1 → (∀ a b, a < 3 → b < 40 → h.2.1 87 (40 * a + b) = qp_c P r i r2 j k a b) → ∃ h2, q_go e_174 X O f 147 [(0, .ref 67), (3, .int (nI r2)), (4, .int (nI j)), (5, .int (nI n)), (6, .int (nI k))] [] h = some (h2, some (.int (nI n))) ∧ h2.1 = h0.1 ∧ (∀ a b, a < 3 → b < 40 → h2.2.1 87 (40 * a + b) = qp_c P r i r2 j n a b) := by
  intro m
  induction m with
  | zero =>
    intro k f h hm hf e1 e2 e3
    obtain ⟨f, rfl⟩ : ∃ g, f = g + 1 := ⟨f - 1, by omega⟩
    have : k = n := by omega
    subst this
    exact ⟨h, by rw [b174_147, if_neg (by rw [nI_lt_iff (by omega) (by omega)]; omega)], e2, e3⟩
  | succ m ih =>
    intro k f h hm hf e1 e2 e3
    obtain ⟨f, rfl⟩ : ∃ g, f = g + 1 := ⟨f - 1, by omega⟩
    obtain ⟨h2, g⟩ := ih (k + 1) f (q_sl h 87 (40 * r2 + j + k) (P r (i + k))) (by omega) (by omega) (fun u hu => by
      rw [qr_sl_ne (by omega)]; exact e1 u hu) e2 (fun a b ha hb => by
      by_cases w : a = r2 ∧ b = j + k
      · obtain ⟨rfl, rfl⟩ := w
        rw [show 40 * a + (j + k) = 40 * a + j + k by omega, qr_sl_eq, qp_c, if_pos (by omega), show j + k - j = k by omega]
      · rw [qr_sl_ne (by omega), e3 a b ha hb]
        unfold qp_c
        by_cases v : a = r2 ∧ j ≤ b ∧ b < j + k
        · rw [if_pos v, if_pos (by omega)]
        · rw [if_neg v, if_neg (by omega)])
    refine ⟨h2, ?_, g.2⟩
    rw [b174_147, if_pos (by rw [nI_lt_iff (by omega) (by omega)]; omega), show (40 : Int32) = nI 40 from rfl, pk_mul, nI_add, nI_add, q_ix_n (by omega) (by decide), q_ix_n (by omega) (by decide), nI_p1, e1 k (by omega), g.1]
theorem c96 (x1 x2 x3 x4 x5 : Int32) : qs_st 96 174 [.int x1, .int x2, .int x3, .int x4, .int x5] := by
  intro s hs
  by_cases ga : qg_r x1
  · by_cases gb : qg_r x3
    · obtain ⟨r, hr, rfl⟩ := qg_rN ga
      obtain ⟨r2, hr2, rfl⟩ := qg_rN gb
      obtain ⟨n, hn, e2, e1⟩ := hs.2.2.2.2.2.1 r hr
      obtain ⟨n2, hn2, f2, f1⟩ := hs.2.2.2.2.2.1 r2 hr2
      have CL : ∀ (d : Nat) (h : q_S), qs_C h s → ∀ res : Option (q_S × Option Value), q_go e_96 q_X0 (q_sem (d + 13)) 998 30 [(2, .int x2), (4, .int x4), (5, .int x5), (6, .ref (61 + r))] [.ref (61 + r2)] h = res → q_sem (d + 14) 96 h [.ref 0, .int (nI r), .int x2, .int (nI r2), .int x4, .int x5] = res := by
        intro d h hc res e
        rw [m96, s109p _ _ ga, q_c1_s, if_neg (by decide), s109p _ _ gb, q_c1_s, if_neg (by decide), q_ix_n hr (by decide), rf60 hr, gb96_22 hr, q_ix_n hr2 (by decide), rf60 hr2]
        exact e
      rcases e1 with ⟨e1, n0⟩ | ⟨k, hk, e1⟩
      · refine qs_no (.int (-11)) hs ?_ ?_
        · intro d h hc
          have c6 := hc.2.2.2.2.2.1 r hr
          refine CL d h hc _ ?_
          rw [gb96_30 hr hr2, gm48 hr, c6.1, e1, if_pos rfl, q_c1_s, if_neg (by decide)]
        · intro d h hc
          have c6 := hc.2.2.2.2.2.1 r hr
          rw [m174, s168p _ _ ga, q_c1_s, if_neg (by decide), s168p _ _ gb, q_c1_s, if_neg (by decide), q_ix_n hr (by decide), c6.1, e1, if_pos (by decide)]
      · rcases f1 with ⟨f1, n0⟩ | ⟨k2, hk2, f1⟩
        · refine qs_no (.int (-11)) hs ?_ ?_
          · intro d h hc
            have c6 := hc.2.2.2.2.2.1 r hr
            have c62 := hc.2.2.2.2.2.1 r2 hr2
            refine CL d h hc _ ?_
            rw [gb96_30 hr hr2, gm48 hr, c6.1, e1, if_neg (nI_nm1 hk), q_c1_s, if_pos rfl, gm48 hr2, c62.1, f1, if_pos rfl, q_c1_s, if_neg (by decide)]
          · intro d h hc
            have c6 := hc.2.2.2.2.2.1 r hr
            have c62 := hc.2.2.2.2.2.1 r2 hr2
            rw [m174, s168p _ _ ga, q_c1_s, if_neg (by decide), s168p _ _ gb, q_c1_s, if_neg (by decide), q_ix_n hr (by decide), c6.1, e1, if_neg (nI_lt0 (by omega)), q_ix_n hr2 (by decide), c62.1, f1, if_pos (by decide)]
        · have CM : ∀ (d : Nat) (h : q_S), qs_C h s → ∀ res : Option (q_S × Option Value), (if nI k = nI k2 then q_c1 (q_sem (d + 13) 51 h [.ref (61 + r), .int x2, .int x5]) (fun h5 v6 => if v6 = 0 then some (h5, some (.int (-13))) else q_c1 (q_sem (d + 13) 51 h5 [.ref (61 + r2), .int x4, .int x5]) (fun h7 v8 => if v8 = 0 then some (h7, some (.int (-13))) else q_arc h7 (64 + r) x2 (64 + r2) x4 x5 (fun h9 => some (h9, some (.int x5))))) else some (h, some (.int (-12)))) = res → q_sem (d + 14) 96 h [.ref 0, .int (nI r), .int x2, .int (nI r2), .int x4, .int x5] = res := by
            intro d h hc res e
            have c6 := hc.2.2.2.2.2.1 r hr
            have c62 := hc.2.2.2.2.2.1 r2 hr2
            refine CL d h hc _ ?_
            rw [gb96_30 hr hr2, gm48 hr, c6.1, e1, if_neg (nI_nm1 hk), q_c1_s, if_pos rfl, gm48 hr2, c62.1, f1, if_neg (nI_nm1 hk2), q_c1_s, if_pos rfl, c6.1, e1, c62.1, f1]
            exact e
          have RM : ∀ (d : Nat) (h : q_S), qs_R h s → ∀ res : Option (q_S × Option Value), (if nI k = nI k2 then if x5 < 0 then some (h, some (.int (-13))) else if x2 < 0 then some (h, some (.int (-13))) else if x4 < 0 then some (h, some (.int (-13))) else if 0 < lg_cmp (x2.toInt64 + x5.toInt64) ((nI n).toInt64) then some (h, some (.int (-13))) else if 0 < lg_cmp (x4.toInt64 + x5.toInt64) ((nI n2).toInt64) then some (h, some (.int (-13))) else q_go e_174 q_X0 (q_sem (d + 13)) 999 110 [(0, .ref 67), (1, .int (nI r)), (2, .int x2), (3, .int (nI r2)), (4, .int x4), (5, .int x5), (6, .int 0)] [] h else some (h, some (.int (-12)))) = res → q_sem (d + 14) 174 h [.ref 67, .int (nI r), .int x2, .int (nI r2), .int x4, .int x5] = res := by
            intro d h hc res e
            have c6 := hc.2.2.2.2.2.1 r hr
            have c62 := hc.2.2.2.2.2.1 r2 hr2
            rw [m174, s168p _ _ ga, q_c1_s, if_neg (by decide), s168p _ _ gb, q_c1_s, if_neg (by decide), q_ix_n hr (by decide), c6.1, e1, if_neg (nI_lt0 (by omega)), q_ix_n hr2 (by decide), c62.1, f1, if_neg (nI_lt0 (by omega)), q_ix_n hr (by decide), q_ix_n hr2 (by decide), c6.1, e1, c62.1, f1, q_ix_n hr (by decide), c6.2.1, e2, q_ix_n hr2 (by decide), c62.2.1, f2]
            exact e
          by_cases ek : nI k = nI k2
          · by_cases g1 : q_sp n x2 x5
            · by_cases g2 : q_sp n2 x4 x5
              · have ng1 := sp_neg hn g1
                have ng2 := sp_neg hn2 g2
                have q1 := g1
                have q2 := g2
                obtain ⟨i, u, rfl, rfl, k1⟩ := g1
                obtain ⟨j, u2, rfl, w2, k2'⟩ := g2
                rw [nI_eq_iff (by omega) (by omega)] at w2
                subst w2
                obtain ⟨l, m, t, P⟩ := s
                refine ⟨.int (nI u), (l, m, t, qp_c P r i r2 j u), hs, fun d h hc => ?_, fun d h hc => ?_⟩
                · have c6 := hc.2.2.2.2.2.1
                  refine ⟨q_cpl h (64 + r) i (64 + r2) j u, CM d h hc _ ?_, ?_⟩
                  · rw [if_pos ek, s51p _ hr hn ((c6 r hr).2.1.trans e2) q1, q_c1_s, if_neg (by decide), s51p _ hr2 hn2 ((c6 r2 hr2).2.1.trans f2) q2, q_c1_s, if_neg (by decide), arc_l (ty_pl hr) (ty_pl hr2) (by rw [ln_pl hr]; omega) (by rw [ln_pl hr2]; omega) (by rw [ln_pl hr]; omega) (by rw [ln_pl hr2]; omega)]
                  · refine mk_C hc.1 hc.2.1 hc.2.2.1 hc.2.2.2.1 hc.2.2.2.2.1 (fun a ha => ⟨(c6 a ha).1, (c6 a ha).2.1, fun b hb => ?_⟩) hc.2.2.2.2.2.2.1 (f_z (fun a j ha => cpl_ne (by omega)) hc.2.2.2.2.2.2.2)
                    by_cases w : a = r2
                    · subst w
                      rw [cpl_eq, qp_c]
                      by_cases v : j ≤ b ∧ b < j + u
                      · rw [if_pos v, if_pos ⟨rfl, v⟩, (c6 r hr).2.2 _ (by omega)]
                      · rw [if_neg v, if_neg (fun e => v e.2), (c6 a ha).2.2 _ hb]
                    · rw [cpl_ne (by omega), qp_c, if_neg (by omega)]
                      exact (c6 a ha).2.2 b hb
                · have c6 := hc.2.2.2.2.2.1
                  obtain ⟨h2, y1, y2, y3, y4⟩ := l174a q_X0 (q_sem (d + 13)) r i r2 j u P hr (by omega) h (fun b hb => (c6 r hr).2.2 b hb) u 0 999 h (by omega) (by omega) (fun _ q => by omega) rfl (fun _ _ => rfl)
                  obtain ⟨h3, z1, z2, z3⟩ := l174b q_X0 (q_sem (d + 13)) r i r2 j u P hr2 (by omega) (by omega) h u 0 (999 - u - 1) h2 (by omega) (by omega) y2 y3 (fun a b ha hb => by rw [y4 87 (by decide), (c6 a ha).2.2 b hb, qp_c, if_neg (by omega)])
                  refine ⟨h3, RM d h hc _ ?_, ?_⟩
                  · rw [if_pos ek, if_neg ng1.1, if_neg ng1.2, if_neg ng2.2, if_neg (fun e => (sp_lg hn ng1.2 ng1.1).mp e q1), if_neg (fun e => (sp_lg hn2 ng2.2 ng1.1).mp e q2)]
                    exact y1.trans z1
                  · have hf : ∀ a j, h3.1 a j = h.1 a j := fun a j => by rw [z2]
                    obtain ⟨c1, c2, c3, c4, c5, -, c7⟩ := hc
                    exact mk_R (f_r1 (fun a j _ => hf a j) c1) (f_r2 (fun a j _ => hf a j) (fun _ _ _ => rfl) c2) (f_r3 (fun a j _ => hf a j) (fun _ _ _ => rfl) c3) (f_r4 (fun a j _ => hf a j) (fun _ _ _ => rfl) c4) (f_r5 (fun a j _ => hf a j) (fun _ _ _ => rfl) c5) (fun a ha => ⟨(hf _ _).trans (c6 a ha).1, (hf _ _).trans (c6 a ha).2.1, fun b hb => z3 a b ha hb⟩) (f_r7 (fun a j _ => hf a j) (fun _ _ _ => rfl) c7)
              · refine qs_no (.int (-13)) hs ?_ ?_
                · intro d h hc
                  have c6 := hc.2.2.2.2.2.1
                  refine CM d h hc _ ?_
                  rw [if_pos ek, s51p _ hr hn ((c6 r hr).2.1.trans e2) g1, q_c1_s, if_neg (by decide), s51n _ hr2 hn2 ((c6 r2 hr2).2.1.trans f2) g2, q_c1_s, if_pos rfl]
                · intro d h hc
                  have ng1 := sp_neg hn g1
                  refine RM d h hc _ ?_
                  rw [if_pos ek, if_neg ng1.1, if_neg ng1.2, if_neg (fun e => (sp_lg hn ng1.2 ng1.1).mp e g1)]
                  by_cases a : x4 < 0
                  · rw [if_pos a]
                  · rw [if_neg a, if_pos ((sp_lg hn2 a ng1.1).mpr g2)]
            · refine qs_no (.int (-13)) hs ?_ ?_
              · intro d h hc
                have c6 := hc.2.2.2.2.2.1
                refine CM d h hc _ ?_
                rw [if_pos ek, s51n _ hr hn ((c6 r hr).2.1.trans e2) g1, q_c1_s, if_pos rfl]
              · intro d h hc
                refine RM d h hc _ ?_
                rw [if_pos ek]
                by_cases a : x5 < 0
                · rw [if_pos a]
                · by_cases b : x2 < 0
                  · rw [if_neg a, if_pos b]
                  · by_cases c : x4 < 0
                    · rw [if_neg a, if_neg b, if_pos c]
                    · rw [if_neg a, if_neg b, if_neg c, if_pos ((sp_lg hn b a).mpr g1)]
          · refine qs_no (.int (-12)) hs ?_ ?_
            · intro d h hc
              exact CM d h hc _ (if_neg ek)
            · intro d h hc
              exact RM d h hc _ (if_neg ek)
    · refine qs_no (.int (-1)) hs ?_ ?_
      · intro d h hc
        rw [m96, s109p _ _ ga, q_c1_s, if_neg (by decide), s109n _ _ gb, q_c1_s, if_pos rfl]
      · intro d h hc
        rw [m174, s168p _ _ ga, q_c1_s, if_neg (by decide), s168n _ _ gb, q_c1_s, if_pos rfl]
  · refine qs_no (.int (-1)) hs ?_ ?_
    · intro d h hc
      rw [m96, s109n _ _ ga, q_c1_s, if_pos rfl]
    · intro d h hc
      rw [m174, s168n _ _ ga, q_c1_s, if_pos rfl]
