/-! ===== fits ===== -/
theorem gm116 {r : Nat} (hr : r < 3) (d : Nat) (h : q_S) (x2 : Int32) (x3 : Int32) (x4 : Int32) (x5 : Int32) : q_sem (d + 1) 116 h [.ref 0, .ref (61 + r), .int x2, .int x3, .int x4, .int x5] =
  q_go e_116 q_X0 (q_sem d) 999 6 [(0, .ref 0), (1, .ref (61 + r)), (2, .int x2), (3, .int x3), (4, .int x4), (5, .int x5), (6, .int 0), (7, .int 1)] [] h := by
  rcases q3 hr with rfl | rfl | rfl
  · exact m116 ..
  · exact m116_1 ..
  · exact m116_2 ..
theorem gm117 {r : Nat} (hr : r < 3) (d : Nat) (h : q_S) (x2 : Int32) (x3 : Int32) (x4 : Int32) : q_sem (d + 1) 117 h [.ref 0, .ref (61 + r), .int x2, .int x3, .int x4] =
  q_go e_117 q_X0 (q_sem d) 999 6 [(0, .ref 0), (1, .ref (61 + r)), (2, .int x2), (3, .int x3), (4, .int x4), (5, .int 0), (6, .int 0)] [] h := by
  rcases q3 hr with rfl | rfl | rfl
  · exact m117 ..
  · exact m117_1 ..
  · exact m117_2 ..
theorem gb116_6 {r : Nat} (hr : r < 3) (X : q_X) (O : q_O) (n : Nat) (h : q_S) (x2 : Int32) (x3 : Int32) (x4 : Int32) (x5 : Int32) (x6 : Int32) (x7 : Int32) : q_go e_116 X O (n + 1) 6 [(0, .ref 0), (1, .ref (61 + r)), (2, .int x2), (3, .int x3), (4, .int x4), (5, .int x5), (6, .int x6), (7, .int x7)] [] h =
  if 99 < x7 then
    if x5 = 0 then
      some (h, some (.int x6))
    else
      some (h, some (.int (-2)))
  else
    q_ix x4 8 (fun j1 =>
    q_c1 (O 115 (q_si h 20 j1 x7) [.ref 0, .ref (61 + r), .int x2, .int x3]) (fun h2 v3 =>
    if v3 = 0 then
      q_go e_116 X O n 6 [(0, .ref 0), (1, .ref (61 + r)), (2, .int x2), (3, .int x3), (4, .int x4), (5, .int x5), (6, .int x6), (7, .int (x7 + 1))] [] h2
    else
      if x5 = 0 then
        q_go e_116 X O n 6 [(0, .ref 0), (1, .ref (61 + r)), (2, .int x2), (3, .int x3), (4, .int x4), (5, .int x5), (6, .int (x6 + 1)), (7, .int (x7 + 1))] [] h2
      else
        some (h2, some (.int x7)))) := by
  rcases q3 hr with rfl | rfl | rfl
  · exact b116_6 ..
  · exact b116_6_1 ..
  · exact b116_6_2 ..
theorem gb117_6 {r : Nat} (hr : r < 3) (X : q_X) (O : q_O) (n : Nat) (h : q_S) (x2 : Int32) (x3 : Int32) (x4 : Int32) (x5 : Int32) (x6 : Int32) : q_go e_117 X O (n + 1) 6 [(0, .ref 0), (1, .ref (61 + r)), (2, .int x2), (3, .int x3), (4, .int x4), (5, .int x5), (6, .int x6)] [] h =
  q_len X 102 (fun w1 =>
  if x6 < w1 then
    q_ix x4 8 (fun j2 =>
    q_c1 (O 115 (q_si h 19 j2 x6) [.ref 0, .ref (61 + r), .int x2, .int x3]) (fun h3 v4 =>
    if v4 = 0 then
      q_go e_117 X O n 6 [(0, .ref 0), (1, .ref (61 + r)), (2, .int x2), (3, .int x3), (4, .int x4), (5, .int x5), (6, .int (x6 + 1))] [] h3
    else
      q_go e_117 X O n 6 [(0, .ref 0), (1, .ref (61 + r)), (2, .int x2), (3, .int x3), (4, .int x4), (5, .int (x5 ||| (1 <<< (x6 &&& 31)))), (6, .int (x6 + 1))] [] h3))
  else
    some (h, some (.int x5))) := by
  rcases q3 hr with rfl | rfl | rfl
  · exact b117_6 ..
  · exact b117_6_1 ..
  · exact b117_6_2 ..
theorem gb81_60 {r : Nat} (hr : r < 3) (X : q_X) (O : q_O) (n : Nat) (h : q_S) (x1 : Int32) (x2 : Int32) (x3 : Int32) (x4 : Int32) (x5 : Int32) : q_go e_81 X O (n + 1) 60 [(0, .ref 0), (1, .int x1), (2, .int x2), (3, .int x3), (4, .int x4), (5, .int x5)] [.ref (61 + r)] h =
  q_c1 (O 48 h [.ref (61 + r)]) (fun h1 v2 =>
  if v2 = 0 then
    q_ix x1 3 (fun j3 =>
    q_go e_81 X O n 76 [(0, .ref 0), (1, .int x1), (2, .int x2), (3, .int x3), (4, .int x4), (5, .int x5)] [.ref (q_rf 60 j3), .int x2] h1)
  else
    some (h1, some (.int (-11)))) := by
  rcases q3 hr with rfl | rfl | rfl
  · exact b81_60 ..
  · exact b81_60_1 ..
  · exact b81_60_2 ..
theorem gb81_76 {r : Nat} (hr : r < 3) (X : q_X) (O : q_O) (n : Nat) (h : q_S) (x1 : Int32) (x2 : Int32) (x3 : Int32) (x4 : Int32) (x5 : Int32) (s1 : Int32) : q_go e_81 X O (n + 1) 76 [(0, .ref 0), (1, .int x1), (2, .int x2), (3, .int x3), (4, .int x4), (5, .int x5)] [.ref (61 + r), .int s1] h =
  if (h.1 (61 + r) 2) < s1 then
    some (h, some (.int (-13)))
  else
    q_c0 (O 16 h [.ref 18, .ref 12]) (fun h1 =>
    if x5 = 2 then
      q_ix x1 3 (fun j2 =>
      q_go e_81 X O n 109 [(2, .int x2), (3, .int x3), (4, .int x4)] [.ref (q_rf 60 j2), .ref 0] h1)
    else
      q_ix x1 3 (fun j3 =>
      q_go e_81 X O n 124 [(2, .int x2), (3, .int x3), (4, .int x4), (5, .int x5)] [.ref (q_rf 60 j3), .ref 0] h1)) := by
  rcases q3 hr with rfl | rfl | rfl
  · exact b81_76 ..
  · exact b81_76_1 ..
  · exact b81_76_2 ..
theorem gb81_109 {r : Nat} (hr : r < 3) (X : q_X) (O : q_O) (n : Nat) (h : q_S) (x2 : Int32) (x3 : Int32) (x4 : Int32) : q_go e_81 X O (n + 1) 109 [(2, .int x2), (3, .int x3), (4, .int x4)] [.ref (61 + r), .ref 0] h =
  q_c1 (O 117 h [.ref 0, .ref (61 + r), .int x2, .int x3, .int x4]) (fun h1 v2 =>
  some (h1, some (.int v2))) := by
  rcases q3 hr with rfl | rfl | rfl
  · exact b81_109 ..
  · exact b81_109_1 ..
  · exact b81_109_2 ..
theorem gb81_124 {r : Nat} (hr : r < 3) (X : q_X) (O : q_O) (n : Nat) (h : q_S) (x2 : Int32) (x3 : Int32) (x4 : Int32) (x5 : Int32) : q_go e_81 X O (n + 1) 124 [(2, .int x2), (3, .int x3), (4, .int x4), (5, .int x5)] [.ref (61 + r), .ref 0] h =
  if x5 = 1 then
    q_c1 (O 116 h [.ref 0, .ref (61 + r), .int x2, .int x3, .int x4, .int 1]) (fun h1 v2 =>
    some (h1, some (.int v2)))
  else
    q_c1 (O 116 h [.ref 0, .ref (61 + r), .int x2, .int x3, .int x4, .int 0]) (fun h3 v4 =>
    some (h3, some (.int v4))) := by
  rcases q3 hr with rfl | rfl | rfl
  · exact b81_124 ..
  · exact b81_124_1 ..
  · exact b81_124_2 ..
theorem ok_kind {l : qv_L} (h : qv_ok l) {k v : Nat} (hv : v ≤ 4) : qv_ok (ql l 1 k v) := by
  obtain ⟨a, b, c, d, e, f, g⟩ := h
  have z : ql l 1 k v 0 0 = l 0 0 := ql_ne (by omega)
  refine ⟨by omega, by rw [ql_ne (by omega)]; exact b, by rw [ql_ne (by omega)]; exact c, fun i hi => ?_, fun i hi => ?_, fun i hi => ?_, ?_⟩
  · rw [ql_ne (a := 1) (b := 2) (by omega), ql_ne (a := 1) (b := 3) (by omega), ql_ne (a := 1) (b := 4) (by omega), ql_ne (a := 1) (b := 5) (by omega)]
    refine ⟨?_, (d i hi).2⟩
    by_cases w : i = k
    · subst w; rw [ql_eq]; exact hv
    · rw [ql_ne (by omega)]; exact (d i hi).1
  · rw [ql_ne (by omega)]; exact e i (by omega)
  · rw [ql_ne (by omega), ql_ne (by omega)]; exact f i (by omega)
  · rw [z, ql_rat (by omega)]; exact g
def q_cd (g : Nat → Int32) : Nat → Nat
  | 0 => 0
  | v + 1 => if g (v + 1) = 0 then q_cd g v else q_cd g v + 1
theorem q_cd_le (g : Nat → Int32) : ∀ v, q_cd g v ≤ v
  | 0 => Nat.le_refl _
  | v + 1 => by
    have := q_cd_le g v
    rw [q_cd]; split <;> omega
def q_le (g : Nat → Int32) : Nat → Nat → Int32
  | 0, _ => -2
  | n + 1, v => if g v = 0 then q_le g n (v + 1) else nI v
def q_bi (g : Nat → Int32) : Nat → Int32
  | 0 => 0
  | v + 1 => if g v = 0 then q_bi g v else q_bi g v ||| (1 <<< (nI v &&& 31))
theorem l116 (X : q_X) (d : Nat) (l : qv_L) (hl : qv_ok l) (q m k : Nat) (hm : m ≤ l 0 0) (hk : k < l 0 0) (hq1 : 1 ≤ q) (hq : q ≤ 16) (r : Nat) (hr : r < 3) (P : Nat → Int64) (x5 : Int32) (h0 : q_S) (g : Nat → Int32) (hg : ∀ v, g v = q_so (ql l 2 k v) q P m 0) : ∀ n f v x h, v + n = 99 → n < f → (x5 ≠ 0 → q_le g 99 1 = q_le g n (v + 1)) → qv_at h 18 (ql l 2 k x) → (∀ i, i < 40 → h.2.1 (64 + r) i = P i) → qr_z h → qc_sc h0 h → ∃ h2, q_go e_116 X (q_sem (d + 6)) f 6 [(0, .ref 0), (1, .ref (61 + r)), (2, .int (nI m)), (3, .int (nI q)), (4, .int (nI k)), (5, .int x5), (6, .int (nI (q_cd g v))), (7, .int (nI (v + 1)))] [] h = some (h2, some (.int (if x5 = 0 then nI (q_cd g 99) else q_le g 99 1))) ∧ qc_sc h0 h2 ∧ qr_z h2 := by
  have h8 := hl.1
  intro n
  induction n with
  | zero =>
    intro f v x h hn hf hle a ep z sc
    obtain ⟨f, rfl⟩ : ∃ g, f = g + 1 := ⟨f - 1, by omega⟩
    have : v = 99 := by omega
    subst this
    refine ⟨h, ?_, sc, z⟩
    rw [gb116_6 hr, if_pos (by decide)]
    by_cases w : x5 = 0
    · rw [if_pos w, if_pos w]
    · rw [if_neg w, if_neg w, hle w]; rfl
  | succ n ih =>
    intro f v x h hn hf hle a ep z sc
    obtain ⟨f, rfl⟩ : ∃ g, f = g + 1 := ⟨f - 1, by omega⟩
    have a1 : qv_at (q_si h 20 k (nI (v + 1))) 18 (ql l 2 k (v + 1)) := by
      have := at_a (o := 18) (b := 2) (k := k) (v := v + 1) (by omega) a
      rwa [ql_ql2] at this
    have e00 : ql l 2 k (v + 1) 0 0 = l 0 0 := ql_ne (by omega)
    have ok := ok_mass hl hk (show 1 ≤ v + 1 by omega) (show v + 1 ≤ 99 by omega)
    obtain ⟨h2, g1, g2, g3⟩ := s115 d _ ok q m (by omega) hq1 hq r hr P (q_si h 20 k (nI (v + 1))) a1 ep z
    rw [← hg] at g1
    have sc2 := qc_sc_tr sc (qc_sc_tr (qc_si (h := h) (a := 20) (i := k) (x := nI (v + 1)) (by omega)) (qc_of g2))
    have ep2 : ∀ i, i < 40 → h2.2.1 (64 + r) i = P i := fun i hi => (congrFun (g2.2.2 _ (by omega)) i).trans (ep i hi)
    rw [gb116_6 hr, if_neg (by rw [show (99 : Int32) = nI 99 from rfl, nI_lt_iff (by omega) (by omega)]; omega), q_ix_n (by omega) (by decide), g1, q_c1_s, nI_p1, nI_p1]
    have ih := ih f (v + 1) (v + 1) h2 (by omega) (by omega)
    rw [q_cd] at ih
    by_cases w : g (v + 1) = 0
    · rw [if_pos w] at ih
      rw [if_pos w]
      exact ih (fun e => by rw [hle e, q_le, if_pos w]) (qr_sc_at g2 (Or.inr (Or.inl rfl)) a1) ep2 g3 sc2
    · rw [if_neg w] at ih
      rw [if_neg w]
      by_cases e : x5 = 0
      · rw [if_pos e]
        exact ih (fun e2 => absurd e e2) (qr_sc_at g2 (Or.inr (Or.inl rfl)) a1) ep2 g3 sc2
      · rw [if_neg e, if_neg e, hle e, q_le, if_neg w]
        exact ⟨h2, rfl, sc2, g3⟩
theorem l117 (X : q_X) (hX : X 102 = q_X0 102) (d : Nat) (l : qv_L) (hl : qv_ok l) (q m k : Nat) (hm : m ≤ l 0 0) (hk : k < l 0 0) (hq1 : 1 ≤ q) (hq : q ≤ 16) (r : Nat) (hr : r < 3) (P : Nat → Int64) (h0 : q_S) (g : Nat → Int32) (hg : ∀ v, g v = q_so (ql l 1 k v) q P m 0) : ∀ n f v x h, v + n = 5 → n < f → qv_at h 18 (ql l 1 k x) → (∀ i, i < 40 → h.2.1 (64 + r) i = P i) → qr_z h → qc_sc h0 h → ∃ h2, q_go e_117 X (q_sem (d + 6)) f 6 [(0, .ref 0), (1, .ref (61 + r)), (2, .int (nI m)), (3, .int (nI q)), (4, .int (nI k)), (5, .int (q_bi g v)), (6, .int (nI v))] [] h = some (h2, some (.int (q_bi g 5))) ∧ qc_sc h0 h2 ∧ qr_z h2 := by
  have h8 := hl.1
  have hlen : ∀ f : Int32 → q_A, q_len X 102 f = f 5 := by
    intro f
    unfold q_len
    rw [show q_ty 102 = 4 from rfl, hX]
    rfl
  intro n
  induction n with
  | zero =>
    intro f v x h hn hf a ep z sc
    obtain ⟨f, rfl⟩ : ∃ g, f = g + 1 := ⟨f - 1, by omega⟩
    have : v = 5 := by omega
    subst this
    exact ⟨h, by rw [gb117_6 hr, hlen, if_neg (by decide)], sc, z⟩
  | succ n ih =>
    intro f v x h hn hf a ep z sc
    obtain ⟨f, rfl⟩ : ∃ g, f = g + 1 := ⟨f - 1, by omega⟩
    have a1 : qv_at (q_si h 19 k (nI v)) 18 (ql l 1 k v) := by
      have := at_a (o := 18) (b := 1) (k := k) (v := v) (by omega) a
      rwa [ql_ql2] at this
    have e00 : ql l 1 k v 0 0 = l 0 0 := ql_ne (by omega)
    have ok := ok_kind hl (k := k) (v := v) (by omega)
    obtain ⟨h2, g1, g2, g3⟩ := s115 d _ ok q m (by omega) hq1 hq r hr P (q_si h 19 k (nI v)) a1 ep z
    rw [← hg] at g1
    have sc2 := qc_sc_tr sc (qc_sc_tr (qc_si (h := h) (a := 19) (i := k) (x := nI v) (by omega)) (qc_of g2))
    have ep2 : ∀ i, i < 40 → h2.2.1 (64 + r) i = P i := fun i hi => (congrFun (g2.2.2 _ (by omega)) i).trans (ep i hi)
    rw [gb117_6 hr, hlen, if_pos (by rw [show (5 : Int32) = nI 5 from rfl, nI_lt_iff (by omega) (by omega)]; omega), q_ix_n (by omega) (by decide), g1, q_c1_s, nI_p1]
    have ih := ih f (v + 1) v h2 (by omega) (by omega) (qr_sc_at g2 (Or.inr (Or.inl rfl)) a1) ep2 g3 sc2
    rw [q_bi] at ih
    by_cases w : g v = 0
    · rw [if_pos w] at ih
      rw [if_pos w]
      exact ih
    · rw [if_neg w] at ih
      rw [if_neg w]
      exact ih
theorem l178 (X : q_X) (d : Nat) (l : qv_L) (hl : qv_ok l) (q m k : Nat) (hm : m ≤ l 0 0) (hk : k < l 0 0) (hq1 : 1 ≤ q) (hq : q ≤ 16) (r : Nat) (hr : r < 3) (P : Nat → Int64) (x5 : Int32) (h0 : q_S) (g : Nat → Int32) (hg : ∀ v, g v = q_so (ql l 2 k v) q P m 0) : ∀ v n c f x h, v + n = 99 → c + q_cd g v = q_cd g 99 → v < f → qw_at h (ql l 2 k x) → (∀ i, i < 40 → h.2.1 87 (40 * r + i) = P i) → qy h0 h → ∃ h2, q_go e_178 X (q_sem (d + 5)) f 20 [(0, .ref 67), (1, .int (nI r)), (2, .int (nI m)), (3, .int (nI q)), (4, .int (nI k)), (5, .int x5), (6, .int (nI (l 2 k))), (7, .int (nI c)), (8, .int (q_le g n (v + 1))), (9, .int (nI v))] [] h = some (h2, some (.int (if x5 = 0 then nI (q_cd g 99) else q_le g 99 1))) ∧ qy h0 h2 ∧ qw_at h2 l := by
  have h8 := hl.1
  intro v
  induction v with
  | zero =>
    intro n c f x h hn hc hf a ep sc
    obtain ⟨f, rfl⟩ : ∃ g, f = g + 1 := ⟨f - 1, by omega⟩
    have : n = 99 := by omega
    subst this
    have : c = q_cd g 99 := by rw [← hc]; rfl
    subst this
    have a3 : qw_at (q_si h 69 k (nI (l 2 k))) l := by
      have := aw_a (b := 2) (k := k) (v := l 2 k) (by omega) a
      rwa [ql_ql2, ql_self] at this
    refine ⟨_, ?_, qy_tr sc (qy_si (h := h) (a := 69) (i := k) (x := nI (l 2 k)) (by omega)), a3⟩
    rw [b178_20, if_neg (by decide), q_ix_n (by omega) (by decide)]
    split <;> rfl
  | succ v ih =>
    intro n c f x h hn hc hf a ep sc
    obtain ⟨f, rfl⟩ : ∃ g, f = g + 1 := ⟨f - 1, by omega⟩
    have a1 : qw_at (q_si h 69 k (nI (v + 1))) (ql l 2 k (v + 1)) := by
      have := aw_a (b := 2) (k := k) (v := v + 1) (by omega) a
      rwa [ql_ql2] at this
    have e00 : ql l 2 k (v + 1) 0 0 = l 0 0 := ql_ne (by omega)
    have ok := ok_mass hl hk (show 1 ≤ v + 1 by omega) (show v + 1 ≤ 99 by omega)
    obtain ⟨h2, g1, g2⟩ := s175 d _ ok q m (by omega) hq1 hq r hr P (q_si h 69 k (nI (v + 1))) a1 ep
    rw [← hg] at g1
    have sc2 := qy_tr sc (qy_tr (qy_si (h := h) (a := 69) (i := k) (x := nI (v + 1)) (by omega)) (qy_of g2))
    have ep2 : ∀ i, i < 40 → h2.2.1 87 (40 * r + i) = P i := fun i hi => (congrFun (g2.2.2 87 (by decide)) _).trans (ep i hi)
    rw [q_cd] at hc
    have ih := fun c hc => ih (n + 1) c f (v + 1) h2 (by omega) hc (by omega) (qw_sc_at g2 a1) ep2 sc2
    rw [q_le] at ih
    rw [b178_20, if_pos (by rw [show (0 : Int32) = nI 0 from rfl, nI_lt_iff (by omega) (by omega)]; omega), q_ix_n (by omega) (by decide), g1, q_c1_s, show nI (v + 1) + (-1) = nI v by rw [← Int32.sub_eq_add_neg, nI_m1]]
    by_cases w : g (v + 1) = 0
    · rw [if_pos w] at hc
      rw [if_pos w]
      rw [if_pos w] at ih
      exact ih c hc
    · rw [if_neg w] at hc
      rw [if_neg w, nI_p1]
      rw [if_neg w] at ih
      exact ih (c + 1) (by omega)
theorem l177 (X : q_X) (d : Nat) (l : qv_L) (hl : qv_ok l) (q m k : Nat) (hm : m ≤ l 0 0) (hk : k < l 0 0) (hq1 : 1 ≤ q) (hq : q ≤ 16) (r : Nat) (hr : r < 3) (P : Nat → Int64) (h0 : q_S) (g : Nat → Int32) (hg : ∀ v, g v = q_so (ql l 1 k v) q P m 0) : ∀ n v f x h, v + n = 5 → n < f → qw_at h (ql l 1 k x) → (∀ i, i < 40 → h.2.1 87 (40 * r + i) = P i) → qy h0 h → ∃ h2, q_go e_177 X (q_sem (d + 5)) f 15 [(0, .ref 67), (1, .int (nI r)), (2, .int (nI m)), (3, .int (nI q)), (4, .int (nI k)), (5, .int (nI (l 1 k))), (6, .int (q_bi g v)), (7, .int (nI v))] [] h = some (h2, some (.int (q_bi g 5))) ∧ qy h0 h2 ∧ qw_at h2 l := by
  have h8 := hl.1
  intro n
  induction n with
  | zero =>
    intro v f x h hn hf a ep sc
    obtain ⟨f, rfl⟩ : ∃ g, f = g + 1 := ⟨f - 1, by omega⟩
    have : v = 5 := by omega
    subst this
    have a3 : qw_at (q_si h 68 k (nI (l 1 k))) l := by
      have := aw_a (b := 1) (k := k) (v := l 1 k) (by omega) a
      rwa [ql_ql2, ql_self] at this
    refine ⟨_, ?_, qy_tr sc (qy_si (h := h) (a := 68) (i := k) (x := nI (l 1 k)) (by omega)), a3⟩
    rw [b177_15, if_neg (by decide), q_ix_n (by omega) (by decide)]
  | succ n ih =>
    intro v f x h hn hf a ep sc
    obtain ⟨f, rfl⟩ : ∃ g, f = g + 1 := ⟨f - 1, by omega⟩
    have a1 : qw_at (q_si h 68 k (nI v)) (ql l 1 k v) := by
      have := aw_a (b := 1) (k := k) (v := v) (by omega) a
      rwa [ql_ql2] at this
    have e00 : ql l 1 k v 0 0 = l 0 0 := ql_ne (by omega)
    have ok := ok_kind hl (k := k) (v := v) (by omega)
    obtain ⟨h2, g1, g2⟩ := s175 d _ ok q m (by omega) hq1 hq r hr P (q_si h 68 k (nI v)) a1 ep
    rw [← hg] at g1
    have sc2 := qy_tr sc (qy_tr (qy_si (h := h) (a := 68) (i := k) (x := nI v) (by omega)) (qy_of g2))
    have ep2 : ∀ i, i < 40 → h2.2.1 87 (40 * r + i) = P i := fun i hi => (congrFun (g2.2.2 87 (by decide)) _).trans (ep i hi)
    have ih := ih (v + 1) f v h2 (by omega) (by omega) (qw_sc_at g2 a1) ep2 sc2
    rw [q_bi] at ih
    rw [b177_15, if_pos (by rw [show (5 : Int32) = nI 5 from rfl, nI_lt_iff (by omega) (by omega)]; omega), q_ix_n (by omega) (by decide), g1, q_c1_s, nI_p1, Int32.or_zero]
    by_cases w : g v = 0
    · rw [if_pos w] at ih
      rw [if_pos w]
      exact ih
    · rw [if_neg w] at ih
      rw [if_neg w]
      exact ih
def qg_m (l : qv_L) (x : Int32) : Prop := ¬ x < 0 ∧ ¬ nI (l 0 0) < x
def qg_2 (x : Int32) : Prop := ¬ x < 0 ∧ ¬ 2 < x
theorem c81 (x1 x2 x3 x4 x5 : Int32) : qs_st 81 176 [.int x1, .int x2, .int x3, .int x4, .int x5] := by
  intro s hs
  have h8 := hs.1.1
  by_cases ga : qg_r x1
  · by_cases gb : qg_m s.1 x2
    · by_cases gc : qg_q x3
      · by_cases gd : qg_d s.1 x4
        · by_cases ge : qg_2 x5
          · obtain ⟨r, hr, rfl⟩ := qg_rN ga
            obtain ⟨m, hm9, rfl⟩ := qg_nat gb.1
            have hm : m ≤ s.1 0 0 := by
              have b := gb.2
              rw [nI_lt_iff (by omega) hm9] at b
              omega
            obtain ⟨q, hq1, hq, rfl⟩ := qg_qN gc
            obtain ⟨k, hk, rfl⟩ := qg_dN h8 gd
            obtain ⟨n, hn, e2, e1⟩ := hs.2.2.2.2.2.1 r hr
            have CL : ∀ (d : Nat) (h : q_S), qs_C h s → ∀ res : Option (q_S × Option Value), q_go e_81 q_X0 (q_sem (d + 13)) 999 60 [(0, .ref 0), (1, .int (nI r)), (2, .int (nI m)), (3, .int (nI q)), (4, .int (nI k)), (5, .int x5)] [.ref (61 + r)] h = res → q_sem (d + 14) 81 h [.ref 0, .int (nI r), .int (nI m), .int (nI q), .int (nI k), .int x5] = res := by
              intro d h hc res e
              rw [m81, s109p _ _ ga, q_c1_s, if_neg (by decide), if_neg gb.1, hc.1.1, if_neg gb.2, s106p _ _ gc, q_c1_s, if_neg (by decide), s19p _ hc.1 gd, q_c1_s, if_neg (by decide), if_neg ge.1, if_neg ge.2, q_ix_n hr (by decide), rf60 hr]
              exact e
            have RF : ∀ (d : Nat) (h : q_S), qs_R h s → ∀ res : Option (q_S × Option Value), (if s.2.2.1 0 (4 + r) < 0 then some (h, some (.int (-11))) else if s.2.2.1 0 (7 + r) < nI m then some (h, some (.int (-13))) else if x5 = 2 then q_c1 ((q_sem (d + 13)) 177 h [.ref 67, .int (nI r), .int (nI m), .int (nI q), .int (nI k)]) (fun h13 v14 => some (h13, some (.int v14))) else q_c1 ((q_sem (d + 13)) 178 h [.ref 67, .int (nI r), .int (nI m), .int (nI q), .int (nI k), .int x5]) (fun h15 v16 => some (h15, some (.int v16)))) = res → q_sem (d + 14) 176 h [.ref 67, .int (nI r), .int (nI m), .int (nI q), .int (nI k), .int x5] = res := by
              intro d h hc res e
              have c6 := hc.2.2.2.2.2.1 r hr
              rw [m176, s168p _ _ ga, q_c1_s, if_neg (by decide), hc.1.1, s120p _ _ gb.1 gb.2, q_c1_s, if_neg (by decide), s123p _ _ gc, q_c1_s, if_neg (by decide), s121p _ hs.1 hc.1 gd, q_c1_s, if_neg (by decide), s120p _ _ ge.1 ge.2, q_c1_s, if_neg (by decide), q_ix_n hr (by decide), q_ix_n hr (by decide), c6.1, c6.2.1]
              exact e
            rcases e1 with ⟨e1, n0⟩ | ⟨kk, hkk, e1⟩
            · refine qs_no (.int (-11)) hs ?_ ?_
              · intro d h hc
                have c6 := hc.2.2.2.2.2.1 r hr
                refine CL d h hc _ ?_
                rw [gb81_60 hr, gm48 hr, c6.1, e1, if_pos rfl, q_c1_s, if_neg (by decide)]
              · intro d h hc
                refine RF d h hc _ ?_
                rw [e1, if_pos (by decide)]
            · by_cases w : n < m
              · refine qs_no (.int (-13)) hs ?_ ?_
                · intro d h hc
                  have c6 := hc.2.2.2.2.2.1 r hr
                  refine CL d h hc _ ?_
                  rw [gb81_60 hr, gm48 hr, c6.1, e1, if_neg (nI_nm1 hkk), q_c1_s, if_pos rfl, q_ix_n hr (by decide), rf60 hr, gb81_76 hr, c6.2.1, e2, if_pos (by rw [nI_lt_iff (by omega) (by omega)]; exact w)]
                · intro d h hc
                  refine RF d h hc _ ?_
                  rw [e1, if_neg (nI_lt0 (by omega)), e2, if_pos (by rw [nI_lt_iff (by omega) (by omega)]; exact w)]
              · have CM : ∀ (d : Nat) (h h2 : q_S), qs_C h s → q_sem (d + 13) 16 h [.ref 18, .ref 12] = some (h2, none) → ∀ res : Option (q_S × Option Value), (if x5 = 2 then q_c1 (q_sem (d + 13) 117 h2 [.ref 0, .ref (61 + r), .int (nI m), .int (nI q), .int (nI k)]) (fun h1 v2 => some (h1, some (.int v2))) else if x5 = 1 then q_c1 (q_sem (d + 13) 116 h2 [.ref 0, .ref (61 + r), .int (nI m), .int (nI q), .int (nI k), .int 1]) (fun h1 v2 => some (h1, some (.int v2))) else q_c1 (q_sem (d + 13) 116 h2 [.ref 0, .ref (61 + r), .int (nI m), .int (nI q), .int (nI k), .int 0]) (fun h1 v2 => some (h1, some (.int v2)))) = res → q_sem (d + 14) 81 h [.ref 0, .int (nI r), .int (nI m), .int (nI q), .int (nI k), .int x5] = res := by
                  intro d h h2 hc e3 res e
                  have c6 := hc.2.2.2.2.2.1 r hr
                  refine CL d h hc _ ?_
                  rw [gb81_60 hr, gm48 hr, c6.1, e1, if_neg (nI_nm1 hkk), q_c1_s, if_pos rfl, q_ix_n hr (by decide), rf60 hr, gb81_76 hr, c6.2.1, e2, if_neg (by rw [nI_lt_iff (by omega) (by omega)]; exact w), e3, q_c0_s, q_ix_n hr (by decide), q_ix_n hr (by decide), rf60 hr, gb81_109 hr, gb81_124 hr]
                  exact e
                have RM : ∀ (d : Nat) (h : q_S), qs_R h s → ∀ res : Option (q_S × Option Value), (if x5 = 2 then q_c1 ((q_sem (d + 13)) 177 h [.ref 67, .int (nI r), .int (nI m), .int (nI q), .int (nI k)]) (fun h13 v14 => some (h13, some (.int v14))) else q_c1 ((q_sem (d + 13)) 178 h [.ref 67, .int (nI r), .int (nI m), .int (nI q), .int (nI k), .int x5]) (fun h15 v16 => some (h15, some (.int v16)))) = res → q_sem (d + 14) 176 h [.ref 67, .int (nI r), .int (nI m), .int (nI q), .int (nI k), .int x5] = res := by
                  intro d h hc res e
                  refine RF d h hc _ ?_
                  rw [e1, if_neg (nI_lt0 (by omega)), e2, if_neg (by rw [nI_lt_iff (by omega) (by omega)]; exact w)]
                  exact e
                by_cases y2 : x5 = 2
                · refine qs_sy (.int (q_bi (fun v => q_so (ql s.1 1 k v) q (s.2.2.2 r) m 0) 5)) hs ?_ ?_
                  · intro d h hc
                    have c6 := hc.2.2.2.2.2.1 r hr
                    obtain ⟨h2, f1, f2, f3, f4⟩ := s16_18_12 (d + 12) hc.1
                    obtain ⟨h3, g1, g2, g3⟩ := l117 q_X0 rfl (d + 6) s.1 hs.1 q m k hm hk hq1 hq r hr (s.2.2.2 r) h _ (fun _ => rfl) 5 999 0 (s.1 1 k) h2 (by omega) (by omega) (by rw [ql_self]; exact f2) (fun i hi => by rw [f4]; exact c6.2.2 i hi) (qz_fr2 f4 hc.2.2.2.2.2.2.2) (qc_fr f3 f4)
                    refine ⟨h3, CM d h h2 hc f1 _ ?_, g2, g3⟩
                    rw [if_pos y2, gm117 hr]
                    exact (congrArg (fun a => q_c1 a _) g1).trans (q_c1_s ..)
                  · intro d h hc
                    have c6 := hc.2.2.2.2.2.1 r hr
                    obtain ⟨h3, g1, g2, g3⟩ := l177 q_X0 (d + 7) s.1 hs.1 q m k hm hk hq1 hq r hr (s.2.2.2 r) h _ (fun _ => rfl) 5 0 999 (s.1 1 k) h (by omega) (by omega) (by rw [ql_self]; exact hc.1) c6.2.2 (qy_rf h)
                    refine ⟨h3, RM d h hc _ ?_, g2, g3⟩
                    rw [if_pos y2, m177, q_ix_n (by omega) (by decide), show h.1 68 k = nI (s.1 1 k) from hc.1.2.2.2 1 k (by omega) (by omega) (by omega)]
                    exact (congrArg (fun a => q_c1 a _) g1).trans (q_c1_s ..)
                · refine qs_sy (.int (if x5 = 0 then nI (q_cd (fun v => q_so (ql s.1 2 k v) q (s.2.2.2 r) m 0) 99) else q_le (fun v => q_so (ql s.1 2 k v) q (s.2.2.2 r) m 0) 99 1)) hs ?_ ?_
                  · intro d h hc
                    have c6 := hc.2.2.2.2.2.1 r hr
                    obtain ⟨h2, f1, f2, f3, f4⟩ := s16_18_12 (d + 12) hc.1
                    have run : ∀ z : Int32, _ := fun z => l116 q_X0 (d + 6) s.1 hs.1 q m k hm hk hq1 hq r hr (s.2.2.2 r) z h _ (fun _ => rfl) 99 999 0 (s.1 2 k) h2 (by omega) (by omega) (fun _ => rfl) (by rw [ql_self]; exact f2) (fun i hi => by rw [f4]; exact c6.2.2 i hi) (qz_fr2 f4 hc.2.2.2.2.2.2.2) (qc_fr f3 f4)
                    by_cases y1 : x5 = 1
                    · obtain ⟨h3, g1, g2, g3⟩ := run 1
                      refine ⟨h3, CM d h h2 hc f1 _ ?_, g2, g3⟩
                      rw [if_neg y2, if_pos y1, gm116 hr, if_neg (by rw [y1]; decide)]
                      exact (congrArg (fun a => q_c1 a _) g1).trans (q_c1_s ..)
                    · have y0 : x5 = 0 := by
                        obtain ⟨b, hb, rfl⟩ := qg_nat ge.1
                        have c := ge.2
                        rw [show (2 : Int32) = nI 2 from rfl, nI_lt_iff (by decide) hb] at c
                        rw [show (2 : Int32) = nI 2 from rfl, nI_eq_iff hb (by decide)] at y2
                        rw [show (1 : Int32) = nI 1 from rfl, nI_eq_iff hb (by decide)] at y1
                        rw [show (0 : Int32) = nI 0 from rfl, nI_eq_iff hb (by decide)]
                        omega
                      obtain ⟨h3, g1, g2, g3⟩ := run 0
                      refine ⟨h3, CM d h h2 hc f1 _ ?_, g2, g3⟩
                      rw [if_neg y2, if_neg y1, gm116 hr, if_pos y0]
                      exact (congrArg (fun a => q_c1 a _) g1).trans (q_c1_s ..)
                  · intro d h hc
                    have c6 := hc.2.2.2.2.2.1 r hr
                    obtain ⟨h3, g1, g2, g3⟩ := l178 q_X0 (d + 7) s.1 hs.1 q m k hm hk hq1 hq r hr (s.2.2.2 r) x5 h (fun v => q_so (ql s.1 2 k v) q (s.2.2.2 r) m 0) (fun _ => rfl) 99 0 0 999 (s.1 2 k) h (by omega) (by omega) (by omega) (by rw [ql_self]; exact hc.1) c6.2.2 (qy_rf h)
                    refine ⟨h3, RM d h hc _ ?_, g2, g3⟩
                    rw [if_neg y2, m178, q_ix_n (by omega) (by decide), show h.1 69 k = nI (s.1 2 k) from hc.1.2.2.2 2 k (by omega) (by omega) (by omega)]
                    exact (congrArg (fun a => q_c1 a _) g1).trans (q_c1_s ..)
          · refine qs_no (.int (-1)) hs ?_ ?_
            · intro d h hc
              rw [m81, s109p _ _ ga, q_c1_s, if_neg (by decide), if_neg gb.1, hc.1.1, if_neg gb.2, s106p _ _ gc, q_c1_s, if_neg (by decide), s19p _ hc.1 gd, q_c1_s, if_neg (by decide)]
              by_cases a : x5 < 0
              · rw [if_pos a]
              · rw [if_neg a, if_pos (Classical.byContradiction fun b => ge ⟨a, b⟩)]
            · intro d h hc
              rw [m176, s168p _ _ ga, q_c1_s, if_neg (by decide), hc.1.1, s120p _ _ gb.1 gb.2, q_c1_s, if_neg (by decide), s123p _ _ gc, q_c1_s, if_neg (by decide), s121p _ hs.1 hc.1 gd, q_c1_s, if_neg (by decide), s120n _ _ ge, q_c1_s, if_pos rfl]
        · refine qs_no (.int (-1)) hs ?_ ?_
          · intro d h hc
            rw [m81, s109p _ _ ga, q_c1_s, if_neg (by decide), if_neg gb.1, hc.1.1, if_neg gb.2, s106p _ _ gc, q_c1_s, if_neg (by decide), s19n _ hc.1 gd, q_c1_s, if_pos rfl]
          · intro d h hc
            rw [m176, s168p _ _ ga, q_c1_s, if_neg (by decide), hc.1.1, s120p _ _ gb.1 gb.2, q_c1_s, if_neg (by decide), s123p _ _ gc, q_c1_s, if_neg (by decide), s121n _ hs.1 hc.1 gd, q_c1_s, if_pos rfl]
      · refine qs_no (.int (-1)) hs ?_ ?_
        · intro d h hc
          rw [m81, s109p _ _ ga, q_c1_s, if_neg (by decide), if_neg gb.1, hc.1.1, if_neg gb.2, s106n _ _ gc, q_c1_s, if_pos rfl]
        · intro d h hc
          rw [m176, s168p _ _ ga, q_c1_s, if_neg (by decide), hc.1.1, s120p _ _ gb.1 gb.2, q_c1_s, if_neg (by decide), s123n _ _ gc, q_c1_s, if_pos rfl]
    · refine qs_no (.int (-1)) hs ?_ ?_
      · intro d h hc
        rw [m81, s109p _ _ ga, q_c1_s, if_neg (by decide)]
        by_cases a : x2 < 0
        · rw [if_pos a]
        · rw [if_neg a, hc.1.1, if_pos (Classical.byContradiction fun b => gb ⟨a, b⟩)]
      · intro d h hc
        rw [m176, s168p _ _ ga, q_c1_s, if_neg (by decide), hc.1.1, s120n _ _ gb, q_c1_s, if_pos rfl]
  · refine qs_no (.int (-1)) hs ?_ ?_
    · intro d h hc
      rw [m81, s109n _ _ ga, q_c1_s, if_pos rfl]
    · intro d h hc
      rw [m176, s168n _ _ ga, q_c1_s, if_pos rfl]
