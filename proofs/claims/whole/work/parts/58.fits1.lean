/-! ===== fits: whether a tried line has the fences told ===== -/
theorem gm115 {r : Nat} (hr : r < 3) (d : Nat) (h : q_S) (x2 : Int32) (x3 : Int32) : q_sem (d + 1) 115 h [.ref 0, .ref (61 + r), .int x2, .int x3] =
  q_c0 ((q_sem d) 36 h [.ref 43, .ref 18]) (fun h1 =>
  q_go e_115 q_X0 (q_sem d) 999 14 [(0, .ref 0), (1, .ref (61 + r)), (2, .int x2), (3, .int x3), (4, .int 0)] [] h1) := by
  rcases q3 hr with rfl | rfl | rfl
  · exact m115 ..
  · exact m115_1 ..
  · exact m115_2 ..
theorem gb115_14 {r : Nat} (hr : r < 3) (X : q_X) (O : q_O) (n : Nat) (h : q_S) (x2 : Int32) (x3 : Int32) (x4 : Int32) : q_go e_115 X O (n + 1) 14 [(0, .ref 0), (1, .ref (61 + r)), (2, .int x2), (3, .int x3), (4, .int x4)] [] h =
  if x4 < x2 then
    q_ix x4 40 (fun j1 =>
    q_c1 (O 44 h [.ref 43, .int x4, .int x3, .long (h.2.1 (64 + r) j1)]) (fun h2 v3 =>
    if v3 = 0 then
      some (h2, some (.int 0))
    else
      q_go e_115 X O n 14 [(0, .ref 0), (1, .ref (61 + r)), (2, .int x2), (3, .int x3), (4, .int (x4 + 1))] [] h2))
  else
    some (h, some (.int 1)) := by
  rcases q3 hr with rfl | rfl | rfl
  · exact b115_14 ..
  · exact b115_14_1 ..
  · exact b115_14_2 ..
def q_so (l : qv_L) (q : Nat) (P : Nat → Int64) : Nat → Nat → Int32
  | 0, _ => 1
  | n + 1, k => if P k = iL (qv_f l k q) then q_so l q P n (k + 1) else 0
theorem l115 (X : q_X) (d : Nat) (l : qv_L) (hl : qv_ok l) (q m : Nat) (hm : m ≤ l 0 0) (hq1 : 1 ≤ q) (hq : q ≤ 16) (r : Nat) (hr : r < 3) (P : Nat → Int64) (h0 : q_S) : ∀ n f k h, k + n = m → n < f → (∀ i, i < 40 → h.2.1 (64 + r) i = P i) → qr_at h l → qr_z h → qr_sc h0 h → ∃ h2, q_go e_115 X (q_sem (d + 4)) f 14 [(0, .ref 0), (1, .ref (61 + r)), (2, .int (nI m)), (3, .int (nI q)), (4, .int (nI k))] [] h = some (h2, some (.int (q_so l q P n k))) ∧ qr_sc h0 h2 ∧ qr_z h2 := by
  have h8 := hl.1
  intro n
  induction n with
  | zero =>
    intro f k h hn hf ep e1 e2 e3
    obtain ⟨f, rfl⟩ : ∃ g, f = g + 1 := ⟨f - 1, by omega⟩
    exact ⟨h, by rw [gb115_14 hr, if_neg (by rw [nI_lt_iff (by omega) (by omega)]; omega)]; rfl, e3, e2⟩
  | succ n ih =>
    intro f k h hn hf ep e1 e2 e3
    obtain ⟨f, rfl⟩ : ∃ g, f = g + 1 := ⟨f - 1, by omega⟩
    obtain ⟨h2, g1, g2, g3⟩ := s44 d h l hl k q hq1 hq (by omega) (P k) e1 e2
    have sc := qr_fr_sc g2
    rw [gb115_14 hr, if_pos (by rw [nI_lt_iff (by omega) (by omega)]; omega), q_ix_n (by omega) (by decide), ep k (by omega), g1, q_c1_s, nI_p1, q_so]
    by_cases w : P k = iL (qv_f l k q)
    · rw [if_pos w, if_pos w, if_neg (by decide)]
      exact ih f (k + 1) h2 (by omega) (by omega) (fun i hi => (congrFun (sc.2.2 _ (by omega)) i).trans (ep i hi)) (qr_at_fr g2 e1) g3 (qr_sc_tr e3 sc)
    · rw [if_neg w, if_neg w, if_pos rfl]
      exact ⟨h2, rfl, qr_sc_tr e3 sc, g3⟩
theorem s115 (d : Nat) (l : qv_L) (hl : qv_ok l) (q m : Nat) (hm : m ≤ l 0 0) (hq1 : 1 ≤ q) (hq : q ≤ 16) (r : Nat) (hr : r < 3) (P : Nat → Int64) (h : q_S) (a : qv_at h 18 l) (ep : ∀ i, i < 40 → h.2.1 (64 + r) i = P i) (hz : qr_z h) : ∃ h2, q_sem (d + 6) 115 h [.ref 0, .ref (61 + r), .int (nI m), .int (nI q)] = some (h2, some (.int (q_so l q P m 0))) ∧ qr_sc h h2 ∧ qr_z h2 := by
  have h8 := hl.1
  obtain ⟨h2, i1, i2, i3, i4⟩ := s36z d h l hl (Or.inr rfl) a hz
  obtain ⟨h3, f1, f2⟩ := l115 q_X0 (d + 1) l hl q m hm hq1 hq r hr P h m 999 0 h2 (by omega) (by omega) (fun i hi => (congrFun (i3.2.2 _ (by omega)) i).trans (ep i hi)) i2 i4 i3
  refine ⟨h3, ?_, f2⟩
  rw [gm115 hr, i1, q_c0_s]
  exact f1
