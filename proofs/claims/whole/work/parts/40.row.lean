/-! ===== rows ===== -/
theorem q3 {r : Nat} (h : r < 3) : r = 0 ∨ r = 1 ∨ r = 2 := by omega
theorem rf60 {r : Nat} (h : r < 3) : q_rf 60 r = 61 + r := by
  rcases q3 h with rfl | rfl | rfl <;> rfl
theorem gm48 {r : Nat} (hr : r < 3) (d : Nat) (h : q_S)  : q_sem (d + 1) 48 h [.ref (61 + r)] =
  if (h.1 (61 + r) 1) = (-1) then
    some (h, some (.int 1))
  else
    some (h, some (.int 0)) := by
  rcases q3 hr with rfl | rfl | rfl
  · exact m48 ..
  · exact m48_1 ..
  · exact m48_2 ..
theorem gm49 {r : Nat} (hr : r < 3) (d : Nat) (h : q_S) (x1 : Int32) (x2 : Int32) : q_sem (d + 1) 49 h [.ref (61 + r), .int x1, .int x2] =
  q_go e_49 q_X0 (q_sem d) 999 12 [(0, .ref (61 + r)), (3, .int 0)] [] (q_si (q_si h (61 + r) 1 x1) (61 + r) 2 x2) := by
  rcases q3 hr with rfl | rfl | rfl
  · exact m49 ..
  · exact m49_1 ..
  · exact m49_2 ..
theorem gm50 {r : Nat} (hr : r < 3) (d : Nat) (h : q_S) (x1 : Int32) : q_sem (d + 1) 50 h [.ref (61 + r), .int x1] =
  if x1 < 0 then
    some (h, some (.int 0))
  else
    if x1 < (h.1 (61 + r) 2) then
      some (h, some (.int 1))
    else
      some (h, some (.int 0)) := by
  rcases q3 hr with rfl | rfl | rfl
  · exact m50 ..
  · exact m50_1 ..
  · exact m50_2 ..
theorem gm51 {r : Nat} (hr : r < 3) (d : Nat) (h : q_S) (x1 : Int32) (x2 : Int32) : q_sem (d + 1) 51 h [.ref (61 + r), .int x1, .int x2] =
  if x2 < 0 then
    some (h, some (.int 0))
  else
    if x1 < 0 then
      some (h, some (.int 0))
    else
      if (h.1 (61 + r) 2) < x2 then
        some (h, some (.int 0))
      else
        if ((h.1 (61 + r) 2) - x2) < x1 then
          some (h, some (.int 0))
        else
          some (h, some (.int 1)) := by
  rcases q3 hr with rfl | rfl | rfl
  · exact m51 ..
  · exact m51_1 ..
  · exact m51_2 ..
theorem gm52 {r : Nat} (hr : r < 3) (d : Nat) (h : q_S) (x1 : Int32) (x2 : Int64) : q_sem (d + 1) 52 h [.ref (61 + r), .int x1, .long x2] =
  if (h.1 (61 + r) 1) = 0 then
    q_ix x1 40 (fun j1 =>
    some ((q_sl h (64 + r) j1 (((((((x2 : Int64)).toInt32 : Int32)).toInt8.toInt32 : Int32)).toInt64)), none))
  else
    if (h.1 (61 + r) 1) = 1 then
      q_ix x1 40 (fun j2 =>
      some ((q_sl h (64 + r) j2 (((((x2 : Int64)).toInt32 : Int32)).toInt64)), none))
    else
      q_ix x1 40 (fun j3 =>
      some ((q_sl h (64 + r) j3 x2), none)) := by
  rcases q3 hr with rfl | rfl | rfl
  · exact m52 ..
  · exact m52_1 ..
  · exact m52_2 ..
theorem gb49_12 {r : Nat} (hr : r < 3) (X : q_X) (O : q_O) (n : Nat) (h : q_S) (x3 : Int32) : q_go e_49 X O (n + 1) 12 [(0, .ref (61 + r)), (3, .int x3)] [] h =
  if x3 < 40 then
    q_ix x3 40 (fun j1 =>
    q_go e_49 X O n 12 [(0, .ref (61 + r)), (3, .int (x3 + 1))] [] (q_sl h (64 + r) j1 (Int64.ofNat 0)))
  else
    some (h, none) := by
  rcases q3 hr with rfl | rfl | rfl
  · exact b49_12 ..
  · exact b49_12_1 ..
  · exact b49_12_2 ..
theorem gb92_30 {r : Nat} (hr : r < 3) (X : q_X) (O : q_O) (n : Nat) (h : q_S)  : q_go e_92 X O (n + 1) 30 [] [.ref (61 + r)] h =
  q_c0 (O 49 h [.ref (61 + r), .int (-1), .int 0]) (fun h1 =>
  some (h1, some (.int 1))) := by
  rcases q3 hr with rfl | rfl | rfl
  · exact b92_30 ..
  · exact b92_30_1 ..
  · exact b92_30_2 ..
theorem gb92_58 {r : Nat} (hr : r < 3) (X : q_X) (O : q_O) (n : Nat) (h : q_S) (x2 : Int32) (x3 : Int32) : q_go e_92 X O (n + 1) 58 [(2, .int x2), (3, .int x3)] [.ref (61 + r)] h =
  q_c0 (O 49 h [.ref (61 + r), .int x2, .int x3]) (fun h1 =>
  some (h1, some (.int 1))) := by
  rcases q3 hr with rfl | rfl | rfl
  · exact b92_58 ..
  · exact b92_58_1 ..
  · exact b92_58_2 ..
theorem gb93_15 {r : Nat} (hr : r < 3) (X : q_X) (O : q_O) (n : Nat) (h : q_S) (x1 : Int32) (x2 : Int32) (x3 : Int64) : q_go e_93 X O (n + 1) 15 [(0, .ref 0), (1, .int x1), (2, .int x2), (3, .long x3)] [.ref (61 + r)] h =
  q_c1 (O 48 h [.ref (61 + r)]) (fun h1 v2 =>
  if v2 = 0 then
    q_ix x1 3 (fun j3 =>
    q_go e_93 X O n 30 [(0, .ref 0), (1, .int x1), (2, .int x2), (3, .long x3)] [.ref (q_rf 60 j3)] h1)
  else
    some (h1, some (.int (-11)))) := by
  rcases q3 hr with rfl | rfl | rfl
  · exact b93_15 ..
  · exact b93_15_1 ..
  · exact b93_15_2 ..
theorem gb93_30 {r : Nat} (hr : r < 3) (X : q_X) (O : q_O) (n : Nat) (h : q_S) (x1 : Int32) (x2 : Int32) (x3 : Int64) : q_go e_93 X O (n + 1) 30 [(0, .ref 0), (1, .int x1), (2, .int x2), (3, .long x3)] [.ref (61 + r)] h =
  q_c1 (O 50 h [.ref (61 + r), .int x2]) (fun h1 v2 =>
  if v2 = 0 then
    some (h1, some (.int (-13)))
  else
    q_ix x1 3 (fun j3 =>
    q_go e_93 X O n 46 [(2, .int x2), (3, .long x3)] [.ref (q_rf 60 j3)] h1)) := by
  rcases q3 hr with rfl | rfl | rfl
  · exact b93_30 ..
  · exact b93_30_1 ..
  · exact b93_30_2 ..
theorem gb93_46 {r : Nat} (hr : r < 3) (X : q_X) (O : q_O) (n : Nat) (h : q_S) (x2 : Int32) (x3 : Int64) : q_go e_93 X O (n + 1) 46 [(2, .int x2), (3, .long x3)] [.ref (61 + r)] h =
  q_c0 (O 52 h [.ref (61 + r), .int x2, .long x3]) (fun h1 =>
  some (h1, some (.int 1))) := by
  rcases q3 hr with rfl | rfl | rfl
  · exact b93_46 ..
  · exact b93_46_1 ..
  · exact b93_46_2 ..
theorem gb94_13 {r : Nat} (hr : r < 3) (X : q_X) (O : q_O) (n : Nat) (h : q_S) (x1 : Int32) (x2 : Int32) : q_go e_94 X O (n + 1) 13 [(0, .ref 0), (1, .int x1), (2, .int x2)] [.ref (61 + r)] h =
  q_c1 (O 50 h [.ref (61 + r), .int x2]) (fun h1 v2 =>
  if v2 = 0 then
    some (h1, some (.long (Int64.ofNat 9223372036854775808)))
  else
    q_ix x1 3 (fun j3 =>
    q_go e_94 X O n 26 [(2, .int x2)] [.ref (q_rf 60 j3)] h1)) := by
  rcases q3 hr with rfl | rfl | rfl
  · exact b94_13 ..
  · exact b94_13_1 ..
  · exact b94_13_2 ..
theorem gb94_26 {r : Nat} (hr : r < 3) (X : q_X) (O : q_O) (n : Nat) (h : q_S) (x2 : Int32) : q_go e_94 X O (n + 1) 26 [(2, .int x2)] [.ref (61 + r)] h =
  q_ix x2 40 (fun j1 =>
  some (h, some (.long (h.2.1 (64 + r) j1)))) := by
  rcases q3 hr with rfl | rfl | rfl
  · exact b94_26 ..
  · exact b94_26_1 ..
  · exact b94_26_2 ..
theorem gb95_42 {r : Nat} (hr : r < 3) (X : q_X) (O : q_O) (n : Nat) (h : q_S) (x1 : Int32) (x2 : Int32) (x3 : Int32) : q_go e_95 X O (n + 1) 42 [(0, .ref 0), (1, .int x1), (2, .int x2), (3, .int x3)] [.ref (61 + r)] h =
  q_c0 (O 49 h [.ref (61 + r), .int x2, .int (h.1 12 6)]) (fun h1 =>
  q_go e_95 X O n 56 [(0, .ref 0), (1, .int x1), (3, .int x3), (4, .int 0)] [] h1) := by
  rcases q3 hr with rfl | rfl | rfl
  · exact b95_42 ..
  · exact b95_42_1 ..
  · exact b95_42_2 ..
theorem gb95_74 {r : Nat} (hr : r < 3) (X : q_X) (O : q_O) (n : Nat) (h : q_S) (x1 : Int32) (x3 : Int32) (x4 : Int32) : q_go e_95 X O (n + 1) 74 [(0, .ref 0), (1, .int x1), (3, .int x3), (4, .int x4)] [.ref (61 + r)] h =
  q_c1 (O 43 h [.ref 43, .int x4, .int x3]) (fun h1 v2 =>
  q_c0 (O 52 h1 [.ref (61 + r), .int x4, .long (((v2 : Int32)).toInt64)]) (fun h3 =>
  q_go e_95 X O n 56 [(0, .ref 0), (1, .int x1), (3, .int x3), (4, .int (x4 + 1))] [] h3)) := by
  rcases q3 hr with rfl | rfl | rfl
  · exact b95_74 ..
  · exact b95_74_1 ..
  · exact b95_74_2 ..
theorem gb111_15 {r : Nat} (hr : r < 3) (X : q_X) (O : q_O) (n : Nat) (h : q_S) (x1 : Int32) (x2 : Int32) : q_go e_111 X O (n + 1) 15 [(0, .ref 0), (1, .int x1), (2, .int x2)] [.ref (61 + r)] h =
  q_c1 (O 48 h [.ref (61 + r)]) (fun h1 v2 =>
  if v2 = 0 then
    q_go e_111 X O n 4 [(0, .ref 0), (1, .int (x1 + 1)), (2, .int (x2 + 1))] [] h1
  else
    q_go e_111 X O n 4 [(0, .ref 0), (1, .int x1), (2, .int (x2 + 1))] [] h1) := by
  rcases q3 hr with rfl | rfl | rfl
  · exact b111_15 ..
  · exact b111_15_1 ..
  · exact b111_15_2 ..
def qg_r (x : Int32) : Prop := ¬ x < 0 ∧ ¬ 2 < x
theorem qg_rN {x : Int32} (g : qg_r x) : ∃ r, r < 3 ∧ x = nI r := by
  obtain ⟨c, hc, rfl⟩ := qg_nat g.1
  have b := g.2
  rw [show (2 : Int32) = nI 2 from rfl, nI_lt_iff (by decide) hc] at b
  exact ⟨c, by omega, rfl⟩
theorem s109p (d : Nat) (h : q_S) {x : Int32} (g : qg_r x) : q_sem (d + 1) 109 h [.int x] = some (h, some (.int 1)) := by
  obtain ⟨r, hr, rfl⟩ := qg_rN g
  rw [m109, if_neg g.1, if_pos (by rw [show (3 : Int32) = nI 3 from rfl, nI_lt_iff (by omega) (by omega)]; omega)]
theorem s109n (d : Nat) (h : q_S) {x : Int32} (g : ¬ qg_r x) : q_sem (d + 1) 109 h [.int x] = some (h, some (.int 0)) := by
  rw [m109]
  by_cases a : x < 0
  · rw [if_pos a]
  · have b : 2 < x := Classical.byContradiction fun b => g ⟨a, b⟩
    obtain ⟨c, hc, rfl⟩ := qg_nat a
    rw [show (2 : Int32) = nI 2 from rfl, nI_lt_iff (by decide) hc] at b
    rw [if_neg a, if_neg (by rw [show (3 : Int32) = nI 3 from rfl, nI_lt_iff (by omega) (by omega)]; omega)]
theorem s168p (d : Nat) (h : q_S) {x : Int32} (g : qg_r x) : q_sem (d + 2) 168 h [.int x] = some (h, some (.int 1)) := by
  rw [m168, s120p _ _ g.1 g.2, q_c1_s, if_pos (by decide)]
theorem s168n (d : Nat) (h : q_S) {x : Int32} (g : ¬ qg_r x) : q_sem (d + 2) 168 h [.int x] = some (h, some (.int 0)) := by
  rw [m168, s120n _ _ g, q_c1_s, if_pos (by decide)]
/-- all but one row's places -/
theorem l49 (X : q_X) (O : q_O) (r : Nat) (hr : r < 3) (h0 : q_S) : ∀ m f i h, i + m = 40 → h.1 = h0.1 → h.2.2 = h0.2.2 → (∀ a, a ≠ 64 + r → h.2.1 a = h0.2.1 a) → (∀ j, j < i → h.2.1 (64 + r) j = iL 0) → ∃ h2, q_go e_49 X O (f + 1 + m) 12 [(0, .ref (61 + r)), (3, .int (nI i))] [] h = some (h2, none) ∧ h2.1 = h0.1 ∧ h2.2.2 = h0.2.2 ∧ (∀ a, a ≠ 64 + r → h2.2.1 a = h0.2.1 a) ∧ (∀ j, j < 40 → h2.2.1 (64 + r) j = iL 0) := by
  intro m
  induction m with
  | zero =>
    intro f i h hi e1 e2 e3 e4
    refine ⟨h, ?_, e1, e2, e3, fun j hj => e4 j (by omega)⟩
    rw [Nat.add_zero, gb49_12 hr, if_neg (by rw [show (40 : Int32) = nI 40 from rfl, nI_lt_iff (by omega) (by omega)]; omega)]
  | succ m ih =>
    intro f i h hi e1 e2 e3 e4
    rw [show f + 1 + (m + 1) = (f + 1 + m) + 1 by omega, gb49_12 hr, if_pos (by rw [show (40 : Int32) = nI 40 from rfl, nI_lt_iff (by omega) (by omega)]; omega), q_ix_n (by omega) (by decide), nI_p1]
    refine ih f (i + 1) _ (by omega) e1 e2 (fun a ha => ?_) (fun j hj => ?_)
    · rw [← e3 a ha]
      funext j
      exact qr_sl_ne (by omega)
    · by_cases z : j = i
      · rw [z, qr_sl_eq]
        rfl
      · rw [qr_sl_ne (by omega)]
        exact e4 j (by omega)
theorem s49 (d : Nat) (h : q_S) (r : Nat) (hr : r < 3) (x y : Int32) : ∃ h2, q_sem (d + 1) 49 h [.ref (61 + r), .int x, .int y] = some (h2, none) ∧ h2.1 = (q_si (q_si h (61 + r) 1 x) (61 + r) 2 y).1 ∧ h2.2.2 = h.2.2 ∧ (∀ a, a ≠ 64 + r → h2.2.1 a = h.2.1 a) ∧ (∀ j, j < 40 → h2.2.1 (64 + r) j = iL 0) := by
  rw [gm49 hr]
  exact l49 _ _ r hr (q_si (q_si h (61 + r) 1 x) (61 + r) 2 y) 40 958 0 _ (by omega) rfl rfl (fun _ _ => rfl) (fun j hj => absurd hj (by omega))
theorem l170 (X : q_X) (O : q_O) (r : Nat) (hr : r < 3) (h0 : q_S) : ∀ m f i h, i + m = 40 → h.1 = h0.1 → h.2.2 = h0.2.2 → (∀ a j, ¬ (a = 87 ∧ 40 * r ≤ j ∧ j < 40 * r + 40) → h.2.1 a j = h0.2.1 a j) → (∀ j, j < i → h.2.1 87 (40 * r + j) = iL 0) → ∃ h2, q_go e_170 X O (f + 1 + m) 64 [(0, .ref 67), (1, .int (nI r)), (4, .int (nI i))] [] h = some (h2, some (.int 1)) ∧ h2.1 = h0.1 ∧ h2.2.2 = h0.2.2 ∧ (∀ a j, ¬ (a = 87 ∧ 40 * r ≤ j ∧ j < 40 * r + 40) → h2.2.1 a j = h0.2.1 a j) ∧ (∀ j, j < 40 → h2.2.1 87 (40 * r + j) = iL 0) := by
  intro m
  induction m with
  | zero =>
    intro f i h hi e1 e2 e3 e4
    refine ⟨h, ?_, e1, e2, e3, fun j hj => e4 j (by omega)⟩
    rw [Nat.add_zero, b170_64, if_neg (by rw [show (40 : Int32) = nI 40 from rfl, nI_lt_iff (by omega) (by omega)]; omega)]
  | succ m ih =>
    intro f i h hi e1 e2 e3 e4
    rw [show f + 1 + (m + 1) = (f + 1 + m) + 1 by omega, b170_64, if_pos (by rw [show (40 : Int32) = nI 40 from rfl, nI_lt_iff (by omega) (by omega)]; omega), show (40 : Int32) = nI 40 from rfl, pk_mul, nI_add, q_ix_n (by omega) (by decide), nI_p1]
    refine ih f (i + 1) _ (by omega) e1 e2 (fun a j ha => ?_) (fun j hj => ?_)
    · rw [← e3 a j ha]
      exact qr_sl_ne (by omega)
    · by_cases z : j = i
      · rw [z, qr_sl_eq]
        rfl
      · rw [qr_sl_ne (by omega)]
        exact e4 j (by omega)
/-- a row's places in the table of all rows -/
def qp_z (P : Nat → Nat → Int64) (r : Nat) : Nat → Nat → Int64 := fun a i => if a = r then iL 0 else P a i
theorem rw_new {t : qT} {r : Nat} {x : Int32} {n : Nat} (hr : r < 3) (hn : n ≤ 40) (hx : (x = -1 ∧ n = 0) ∨ ∃ k, k ≤ 2 ∧ x = nI k) (o : qs_rw t) : qs_rw (qt (qt t 0 (4 + r) x) 0 (7 + r) (nI n)) := by
  intro a ha
  by_cases z : a = r
  · subst z
    rw [qt_eq, qt_ne (by omega), qt_eq]
    exact ⟨n, hn, rfl, hx⟩
  · rw [qt_ne (by omega), qt_ne (by omega), qt_ne (by omega), qt_ne (by omega)]
    exact o a ha
theorem c6_new {h h2 : q_S} {t : qT} {P : Nat → Nat → Int64} {r : Nat} {x y : Int32} (hr : r < 3) (c : qs_c6 h t P) (e1 : h2.1 = (q_si (q_si h (61 + r) 1 x) (61 + r) 2 y).1) (e3 : ∀ a, a ≠ 64 + r → h2.2.1 a = h.2.1 a) (e4 : ∀ j, j < 40 → h2.2.1 (64 + r) j = iL 0) : qs_c6 h2 (qt (qt t 0 (4 + r) x) 0 (7 + r) y) (qp_z P r) := by
  intro a ha
  rw [e1]
  by_cases z : a = r
  · subst z
    refine ⟨by rw [qw_si_ne (by omega), qw_si_eq, qt_ne (by omega), qt_eq], by rw [qw_si_eq, qt_eq], fun i hi => ?_⟩
    rw [e4 i hi]
    simp [qp_z]
  · obtain ⟨d1, d2, d3⟩ := c a ha
    refine ⟨by rw [qw_si_ne (by omega), qw_si_ne (by omega), qt_ne (by omega), qt_ne (by omega)]; exact d1, by rw [qw_si_ne (by omega), qw_si_ne (by omega), qt_ne (by omega), qt_ne (by omega)]; exact d2, fun i hi => ?_⟩
    rw [e3 _ (by omega)]
    simp only [qp_z]
    rw [if_neg z]
    exact d3 i hi
theorem r6_new {h h2 : q_S} {t : qT} {P : Nat → Nat → Int64} {r : Nat} {x y : Int32} (hr : r < 3) (c : qs_r6 h t P) (e1 : h2.1 = (q_si (q_si h 85 r x) 86 r y).1) (e3 : ∀ a j, ¬ (a = 87 ∧ 40 * r ≤ j ∧ j < 40 * r + 40) → h2.2.1 a j = h.2.1 a j) (e4 : ∀ j, j < 40 → h2.2.1 87 (40 * r + j) = iL 0) : qs_r6 h2 (qt (qt t 0 (4 + r) x) 0 (7 + r) y) (qp_z P r) := by
  intro a ha
  rw [e1]
  by_cases z : a = r
  · subst z
    refine ⟨by rw [qw_si_ne (by omega), qw_si_eq, qt_ne (by omega), qt_eq], by rw [qw_si_eq, qt_eq], fun i hi => ?_⟩
    rw [e4 i hi]
    simp [qp_z]
  · obtain ⟨d1, d2, d3⟩ := c a ha
    refine ⟨by rw [qw_si_ne (by omega), qw_si_ne (by omega), qt_ne (by omega), qt_ne (by omega)]; exact d1, by rw [qw_si_ne (by omega), qw_si_ne (by omega), qt_ne (by omega), qt_ne (by omega)]; exact d2, fun i hi => ?_⟩
    rw [e3 _ _ (by omega)]
    simp only [qp_z]
    rw [if_neg z]
    exact d3 i hi
theorem row_core {y y' : Nat} {as : List Value} {s : qs} (hs : qs_ok s) {r : Nat} (hr : r < 3) {x : Int32} {n : Nat} (hn : n ≤ 40) (hx : (x = -1 ∧ n = 0) ∨ ∃ k, k ≤ 2 ∧ x = nI k)
    (a : ∀ (d : Nat) (h : q_S), qs_C h s → ∃ h2, q_sem (d + 14) y h (.ref 0 :: as) = some (h2, some (.int 1)) ∧ h2.1 = (q_si (q_si h (61 + r) 1 x) (61 + r) 2 (nI n)).1 ∧ h2.2.2 = h.2.2 ∧ (∀ a, a ≠ 64 + r → h2.2.1 a = h.2.1 a) ∧ (∀ j, j < 40 → h2.2.1 (64 + r) j = iL 0))
    (b : ∀ (d : Nat) (h : q_S), qs_R h s → ∃ h2, q_sem (d + 14) y' h (.ref 67 :: as) = some (h2, some (.int 1)) ∧ h2.1 = (q_si (q_si h 85 r x) 86 r (nI n)).1 ∧ h2.2.2 = h.2.2 ∧ (∀ a j, ¬ (a = 87 ∧ 40 * r ≤ j ∧ j < 40 * r + 40) → h2.2.1 a j = h.2.1 a j) ∧ (∀ j, j < 40 → h2.2.1 87 (40 * r + j) = iL 0)) : ∃ v s', qs_ok s' ∧ (∀ (d : Nat) (h : q_S), qs_C h s → ∃ h1, q_sem (d + 14) y h (.ref 0 :: as) = some (h1, some v) ∧ qs_C h1 s') ∧ (∀ (d : Nat) (h : q_S), qs_R h s → ∃ h1, q_sem (d + 14) y' h (.ref 67 :: as) = some (h1, some v) ∧ qs_R h1 s') := by
  obtain ⟨o1, o2, o3, o4, o5, o6, o7⟩ := hs
  refine ⟨.int 1, (s.1, s.2.1, qt (qt s.2.2.1 0 (4 + r) x) 0 (7 + r) (nI n), qp_z s.2.2.2 r), mk_ok (o1) (f_im (fun a j q => (qt_ne (by omega)).trans (qt_ne (by omega))) o2) (f_or (fun a j q => (qt_ne (by omega)).trans (qt_ne (by omega))) o3) (f_ch (fun a j q => (qt_ne (by omega)).trans (qt_ne (by omega))) o4) (f_tp (fun a j q => (qt_ne (by omega)).trans (qt_ne (by omega))) o5) (rw_new hr hn hx o6) (f_tc (fun a j q => (qt_ne (by omega)).trans (qt_ne (by omega))) o7), ?_, ?_⟩
  · intro d h hc
    obtain ⟨h2, k, e1, e2, e3, e4⟩ := a d h hc
    obtain ⟨c1, c2, c3, c4, c5, c6, c7, c8⟩ := hc
    have u : ∀ a j, ¬ (61 ≤ a ∧ a ≤ 63) → h2.1 a j = h.1 a j := fun a j q => by rw [e1, qw_si_ne (by omega), qw_si_ne (by omega)]
    exact ⟨h2, k, mk_C (f_c1 (fun a j q => u a j (by omega)) c1) (f_c2 (fun a j q => u a j (by omega)) (fun a j q => (qt_ne (by omega)).trans (qt_ne (by omega))) c2) (f_c3 (fun a j q => u a j (by omega)) (fun a j q => (qt_ne (by omega)).trans (qt_ne (by omega))) c3) (f_c4 (fun a j q => u a j (by omega)) (fun a j q => (qt_ne (by omega)).trans (qt_ne (by omega))) c4) (f_c5 (fun a j q => u a j (by omega)) (fun a j q => (qt_ne (by omega)).trans (qt_ne (by omega))) c5) (c6_new hr c6 e1 e3 e4) (f_c7 (fun a j q => u a j (by omega)) e2 (fun a j q => (qt_ne (by omega)).trans (qt_ne (by omega))) c7) (f_z (fun a j q => congrFun (e3 a (by omega)) j) c8)⟩
  · intro d h hc
    obtain ⟨h2, k, e1, e2, e3, e4⟩ := b d h hc
    obtain ⟨c1, c2, c3, c4, c5, c6, c7⟩ := hc
    have u : ∀ a j, ¬ (85 ≤ a ∧ a ≤ 86) → h2.1 a j = h.1 a j := fun a j q => by rw [e1, qw_si_ne (by omega), qw_si_ne (by omega)]
    exact ⟨h2, k, mk_R (f_r1 (fun a j q => u a j (by omega)) c1) (f_r2 (fun a j q => u a j (by omega)) (fun a j q => (qt_ne (by omega)).trans (qt_ne (by omega))) c2) (f_r3 (fun a j q => u a j (by omega)) (fun a j q => (qt_ne (by omega)).trans (qt_ne (by omega))) c3) (f_r4 (fun a j q => u a j (by omega)) (fun a j q => (qt_ne (by omega)).trans (qt_ne (by omega))) c4) (f_r5 (fun a j q => u a j (by omega)) (fun a j q => (qt_ne (by omega)).trans (qt_ne (by omega))) c5) (r6_new hr c6 e1 e3 e4) (f_r7 (fun a j q => u a j (by omega)) (fun a j q => (qt_ne (by omega)).trans (qt_ne (by omega))) c7)⟩
theorem c92 (x y z : Int32) : qs_st 92 170 [.int x, .int y, .int z] := by
  intro s hs
  by_cases g : qg_r x
  · by_cases g2 : ¬ y < -1 ∧ ¬ 2 < y
    · obtain ⟨r, hr, rfl⟩ := qg_rN g
      by_cases y0 : y < 0
      · have ym : y = -1 := by
          have a := g2.1
          rw [Int32.lt_iff_toInt_lt] at a y0
          have e0 : (0 : Int32).toInt = 0 := rfl
          have e1 : (-1 : Int32).toInt = -1 := rfl
          exact Int32.toInt_inj.mp (by omega)
        subst ym
        refine row_core (n := 0) hs hr (by omega) (Or.inl ⟨rfl, rfl⟩) ?_ ?_
        · intro d h hc
          obtain ⟨h2, k, e⟩ := s49 (d + 12) h r hr (-1) 0
          refine ⟨h2, ?_, e⟩
          rw [m92, s109p _ _ g, q_c1_s, if_neg (by decide), if_neg g2.1, if_neg g2.2, if_pos rfl, q_ix_n hr (by decide), rf60 hr, gb92_30 hr, k, q_c0_s]
        · intro d h hc
          obtain ⟨h2, k, e⟩ := l170 q_X0 (q_sem (d + 13)) r hr (q_si (q_si h 85 r (-1)) 86 r 0) 40 957 0 _ (by omega) rfl rfl (fun _ _ _ => rfl) (fun j hj => absurd hj (by omega))
          refine ⟨h2, ?_, e⟩
          rw [m170, s168p _ _ g, q_c1_s, if_neg (by decide), s120p _ _ g2.1 g2.2, q_c1_s, if_neg (by decide), if_pos y0, if_pos y0, b170_39, q_ix_n hr (by decide), if_pos y0, q_ix_n hr (by decide)]
          exact k
      · obtain ⟨w, hw, rfl⟩ : ∃ w, w ≤ 2 ∧ y = nI w := by
          obtain ⟨c, hc, rfl⟩ := qg_nat y0
          have b := g2.2
          rw [show (2 : Int32) = nI 2 from rfl, nI_lt_iff (by decide) hc] at b
          exact ⟨c, by omega, rfl⟩
        have ym : ¬ nI w = -1 := fun q => y0 (by rw [q]; decide)
        by_cases z4 : 40 < z
        · refine qs_no (.int (-1)) hs ?_ ?_
          · intro d h hc
            rw [m92, s109p _ _ g, q_c1_s, if_neg (by decide), if_neg g2.1, if_neg g2.2, if_neg ym, if_pos z4]
          · intro d h hc
            rw [m170, s168p _ _ g, q_c1_s, if_neg (by decide), s120p _ _ g2.1 g2.2, q_c1_s, if_neg (by decide), if_neg y0, if_pos z4]
        · by_cases z0 : z < 0
          · refine qs_no (.int (-14)) hs ?_ ?_
            · intro d h hc
              rw [m92, s109p _ _ g, q_c1_s, if_neg (by decide), if_neg g2.1, if_neg g2.2, if_neg ym, if_neg z4, if_pos z0]
            · intro d h hc
              rw [m170, s168p _ _ g, q_c1_s, if_neg (by decide), s120p _ _ g2.1 g2.2, q_c1_s, if_neg (by decide), if_neg y0, if_neg z4, if_neg y0, if_pos z0]
          · obtain ⟨n, hn, rfl⟩ : ∃ n, n ≤ 40 ∧ z = nI n := by
              obtain ⟨c, hc, rfl⟩ := qg_nat z0
              rw [show (40 : Int32) = nI 40 from rfl, nI_lt_iff (by decide) hc] at z4
              exact ⟨c, by omega, rfl⟩
            refine row_core (n := n) hs hr hn (Or.inr ⟨w, hw, rfl⟩) ?_ ?_
            · intro d h hc
              obtain ⟨h2, k, e⟩ := s49 (d + 12) h r hr (nI w) (nI n)
              refine ⟨h2, ?_, e⟩
              rw [m92, s109p _ _ g, q_c1_s, if_neg (by decide), if_neg g2.1, if_neg g2.2, if_neg ym, if_neg z4, if_neg z0, q_ix_n hr (by decide), rf60 hr, gb92_58 hr, k, q_c0_s]
            · intro d h hc
              obtain ⟨h2, k, e⟩ := l170 q_X0 (q_sem (d + 13)) r hr (q_si (q_si h 85 r (nI w)) 86 r (nI n)) 40 957 0 _ (by omega) rfl rfl (fun _ _ _ => rfl) (fun j hj => absurd hj (by omega))
              refine ⟨h2, ?_, e⟩
              rw [m170, s168p _ _ g, q_c1_s, if_neg (by decide), s120p _ _ g2.1 g2.2, q_c1_s, if_neg (by decide), if_neg y0, if_neg z4, if_neg y0, if_neg z0, b170_39, q_ix_n hr (by decide), if_neg y0, q_ix_n hr (by decide)]
              exact k
    · refine qs_no (.int (-1)) hs ?_ ?_
      · intro d h hc
        rw [m92, s109p _ _ g, q_c1_s, if_neg (by decide)]
        by_cases a : y < -1
        · rw [if_pos a]
        · rw [if_neg a, if_pos (Classical.byContradiction fun b => g2 ⟨a, b⟩)]
      · intro d h hc
        rw [m170, s168p _ _ g, q_c1_s, if_neg (by decide), s120n _ _ g2, q_c1_s, if_pos rfl]
  · refine qs_no (.int (-1)) hs ?_ ?_
    · intro d h hc
      rw [m92, s109n _ _ g, q_c1_s, if_pos rfl]
    · intro d h hc
      rw [m170, s168n _ _ g, q_c1_s, if_pos rfl]
