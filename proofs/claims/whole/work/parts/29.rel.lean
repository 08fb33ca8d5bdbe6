/-! ===== what the class and the reference hold alike ===== -/
/-- the line, the image's line, whole numbers by table and place, the rows' places -/
abbrev qs : Type := qv_L × qv_L × (Nat → Nat → Int32) × (Nat → Nat → Int64)
def qs_c2 (h : q_S) (m : qv_L) (t : Nat → Nat → Int32) : Prop := h.1 0 5 = t 0 11 ∧ (t 0 11 = 1 → qv_at h 24 m ∧ h.1 34 3 = t 0 12 ∧ ∀ a i, a < 3 → i < 8 → h.1 (35 + a) i = t (10 + a) i)
def qs_c3 (h : q_S) (t : Nat → Nat → Int32) : Prop := h.1 30 3 = t 0 0 ∧ ∀ a i, a < 3 → i < 8 → h.1 (31 + a) i = t (1 + a) i
def qs_c4 (h : q_S) (t : Nat → Nat → Int32) : Prop := h.1 38 4 = t 0 1 ∧ h.1 38 5 = t 0 2 ∧ ∀ a i, a < 4 → i < 12 → h.1 (39 + a) i = t (4 + a) i
def qs_c5 (h : q_S) (t : Nat → Nat → Int32) : Prop := h.1 57 1 = t 0 3 ∧ ∀ i, i < 80 → h.1 58 i = t 8 i
def qs_c6 (h : q_S) (t : Nat → Nat → Int32) (P : Nat → Nat → Int64) : Prop := ∀ r, r < 3 → h.1 (61 + r) 1 = t 0 (4 + r) ∧ h.1 (61 + r) 2 = t 0 (7 + r) ∧ ∀ i, i < 40 → h.2.1 (64 + r) i = P r i
def qs_c7 (h : q_S) (t : Nat → Nat → Int32) : Prop := (h.2.2 = none ∧ t 0 10 = 0) ∨ ∃ k, k < 5 ∧ h.2.2 = some (2 + k) ∧ h.1 (2 + k) 1 = t 0 10 ∧ ∀ i, i < 24 → nI i < t 0 10 → h.1 (7 + k) i = t 9 i
def qs_C (h : q_S) (s : qs) : Prop := qv_at h 12 s.1 ∧ qs_c2 h s.2.1 s.2.2.1 ∧ qs_c3 h s.2.2.1 ∧ qs_c4 h s.2.2.1 ∧ qs_c5 h s.2.2.1 ∧ qs_c6 h s.2.2.1 s.2.2.2 ∧ qs_c7 h s.2.2.1 ∧ qr_z h
def qs_r2 (h : q_S) (m : qv_L) (t : Nat → Nat → Int32) : Prop := (t 0 11 = 0 → h.1 67 45 = -1) ∧ (t 0 11 = 1 → h.1 67 45 = nI (m 0 0) ∧ (h.1 98 70 = nI (m 0 0) ∧ h.1 98 71 = nI (m 0 1) ∧ h.1 98 72 = nI (m 0 2) ∧ h.1 98 73 = t 0 12 ∧ (∀ a i, 1 ≤ a → a ≤ 5 → i < 8 → h.1 98 (66 + 8 * a + i) = nI (m a i)) ∧ (∀ a i, a < 3 → i < 8 → h.1 98 (114 + 8 * a + i) = t (10 + a) i)) ∧ ∀ i, i < m 0 0 → h.1 99 i = nI (qv_I m i) ∧ h.1 100 i = nI (qv_G m i) ∧ h.1 101 i = nI (qw_K m i))
def qs_r3 (h : q_S) (t : Nat → Nat → Int32) : Prop := h.1 67 26 = t 0 0 ∧ ∀ a i, a < 3 → i < 8 → h.1 (89 + a) i = t (1 + a) i
def qs_r4 (h : q_S) (t : Nat → Nat → Int32) : Prop := h.1 67 20 = t 0 1 ∧ h.1 67 21 = t 0 2 ∧ ∀ a i, a < 4 → i < 12 → h.1 (81 + a) i = t (4 + a) i
def qs_r5 (h : q_S) (t : Nat → Nat → Int32) : Prop := h.1 67 35 = t 0 3 ∧ ∀ i, i < 80 → h.1 92 i = t 8 i
def qs_r6 (h : q_S) (t : Nat → Nat → Int32) (P : Nat → Nat → Int64) : Prop := ∀ r, r < 3 → h.1 85 r = t 0 (4 + r) ∧ h.1 86 r = t 0 (7 + r) ∧ ∀ i, i < 40 → h.2.1 87 (40 * r + i) = P r i
def qs_r7 (h : q_S) (t : Nat → Nat → Int32) : Prop := h.1 67 39 = t 0 10 ∧ ∀ i, i < 24 → nI i < t 0 10 → h.1 97 i = t 9 i
def qs_R (h : q_S) (s : qs) : Prop := qw_at h s.1 ∧ qs_r2 h s.2.1 s.2.2.1 ∧ qs_r3 h s.2.2.1 ∧ qs_r4 h s.2.2.1 ∧ qs_r5 h s.2.2.1 ∧ qs_r6 h s.2.2.1 s.2.2.2 ∧ qs_r7 h s.2.2.1
/-- one told number of a line is another one -/
def qv_put (l : qv_L) (w k v : Nat) : qv_L := fun a i => if w = 0 ∧ a = 2 ∧ i = k then v else if w = 1 ∧ a = 4 ∧ i = k then v else if w = 2 ∧ a = 3 ∧ i = k then v else if w = 3 ∧ a = 5 ∧ i = k then v else if w = 4 ∧ a = 0 ∧ i = 1 then v else if w = 5 ∧ a = 0 ∧ i = 2 then v else l a i
def qs_link (l l2 : qv_L) (w n a b : Int32) : Prop := qv_ok l ∧ qv_ok l2 ∧ ∃ w' k a' b' : Nat, w' ≤ 5 ∧ k < 8 ∧ a' ≤ 99 ∧ b' ≤ 99 ∧ w = nI w' ∧ (w' ≤ 3 → n = nI k) ∧ a = nI a' ∧ b = nI b' ∧ l2 = qv_put l w' k b' ∧ l = qv_put l2 w' k a'
def qs_ch (l : qv_L) (t : Nat → Nat → Int32) : Prop := ∃ (L : Nat → qv_L) (dn un : Nat), t 0 1 = nI dn ∧ t 0 2 = nI un ∧ dn + un ≤ 12 ∧ L dn = l ∧ ∀ i, i < dn + un → qs_link (L i) (L (i + 1)) (t 4 i) (t 5 i) (t 6 i) (t 7 i)
def qs_or (t : Nat → Nat → Int32) (z a : Nat) : Prop := ∃ w, w ≤ 8 ∧ t 0 z = nI w ∧ ∀ i, i < w → ∃ k, k ≤ 5 ∧ t a i = nI k
def qs_im (m : qv_L) (t : Nat → Nat → Int32) : Prop := t 0 11 = 0 ∨ (t 0 11 = 1 ∧ qv_ok m ∧ qs_or t 12 10)
def qs_tp (t : Nat → Nat → Int32) : Prop := ∃ n, n ≤ 80 ∧ t 0 3 = nI n ∧ ∀ i, i < n → ∃ c, 32 ≤ c ∧ c ≤ 126 ∧ t 8 i = nI c
def qs_rw (t : Nat → Nat → Int32) : Prop := ∀ r, r < 3 → ∃ n, n ≤ 40 ∧ t 0 (7 + r) = nI n ∧ ((t 0 (4 + r) = -1 ∧ n = 0) ∨ ∃ k, k ≤ 2 ∧ t 0 (4 + r) = nI k)
def qs_tc (t : Nat → Nat → Int32) : Prop := ∃ n, n ≤ 24 ∧ t 0 10 = nI n
def qs_ok (s : qs) : Prop := qv_ok s.1 ∧ qs_im s.2.1 s.2.2.1 ∧ qs_or s.2.2.1 0 1 ∧ qs_ch s.1 s.2.2.1 ∧ qs_tp s.2.2.1 ∧ qs_rw s.2.2.1 ∧ qs_tc s.2.2.1
/-- what a call of both comes to -/
def qs_st (y y' : Nat) (as : List Value) : Prop := ∀ s, qs_ok s → ∃ v s', qs_ok s' ∧ (∀ (d : Nat) (h : q_S), qs_C h s → ∃ h1, q_sem (d + 14) y h (.ref 0 :: as) = some (h1, some v) ∧ qs_C h1 s') ∧ (∀ (d : Nat) (h : q_S), qs_R h s → ∃ h1, q_sem (d + 14) y' h (.ref 67 :: as) = some (h1, some v) ∧ qs_R h1 s')
/-- the class's scratch -/
def qc_sc (h h2 : q_S) : Prop := (∀ a j, ¬ (18 ≤ a ∧ a ≤ 23) → ¬ (a = 43 ∧ j = 0) → h2.1 a j = h.1 a j) ∧ h2.2.2 = h.2.2 ∧ ∀ a, (a < 44 ∨ 56 < a) → h2.2.1 a = h.2.1 a
theorem qc_sc_rf (h : q_S) : qc_sc h h := ⟨fun _ _ _ _ => rfl, rfl, fun _ _ => rfl⟩
theorem qc_sc_tr {a b c : q_S} (h1 : qc_sc a b) (h2 : qc_sc b c) : qc_sc a c := ⟨fun x j hx hy => (h2.1 x j hx hy).trans (h1.1 x j hx hy), h2.2.1.trans h1.2.1, fun x hx => (h2.2.2 x hx).trans (h1.2.2 x hx)⟩
theorem qc_of {h h2 : q_S} (hs : qr_sc h h2) : qc_sc h h2 := ⟨fun a j _ hx => hs.1 a j hx, hs.2.1, hs.2.2⟩
theorem qs_C_sc {h h2 : q_S} {s : qs} (hs : qc_sc h h2) (hz : qr_z h2) (hc : qs_C h s) : qs_C h2 s := by
  obtain ⟨c1, c2, c3, c4, c5, c6, c7, -⟩ := hc
  have e : ∀ a j, a < 18 ∨ (24 ≤ a ∧ a ≠ 43) → h2.1 a j = h.1 a j := fun a j ha => hs.1 a j (by omega) (by omega)
  refine ⟨?_, ?_, ?_, ?_, ?_, ?_, ?_, hz⟩
  · refine ⟨(e _ _ (by omega)).trans c1.1, (e _ _ (by omega)).trans c1.2.1, (e _ _ (by omega)).trans c1.2.2.1, fun a i x y z => (e _ _ (by omega)).trans (c1.2.2.2 a i x y z)⟩
  · refine ⟨(e _ _ (by omega)).trans c2.1, fun q => ?_⟩
    obtain ⟨d1, d2, d3⟩ := c2.2 q
    exact ⟨⟨(e _ _ (by omega)).trans d1.1, (e _ _ (by omega)).trans d1.2.1, (e _ _ (by omega)).trans d1.2.2.1, fun a i x y z => (e _ _ (by omega)).trans (d1.2.2.2 a i x y z)⟩, (e _ _ (by omega)).trans d2, fun a i x y => (e _ _ (by omega)).trans (d3 a i x y)⟩
  · exact ⟨(e _ _ (by omega)).trans c3.1, fun a i x y => (e _ _ (by omega)).trans (c3.2 a i x y)⟩
  · exact ⟨(e _ _ (by omega)).trans c4.1, (e _ _ (by omega)).trans c4.2.1, fun a i x y => (e _ _ (by omega)).trans (c4.2.2 a i x y)⟩
  · exact ⟨(e _ _ (by omega)).trans c5.1, fun i x => (e _ _ (by omega)).trans (c5.2 i x)⟩
  · intro r hr
    obtain ⟨d1, d2, d3⟩ := c6 r hr
    exact ⟨(e _ _ (by omega)).trans d1, (e _ _ (by omega)).trans d2, fun i x => (congrFun (hs.2.2 _ (by omega)) i).trans (d3 i x)⟩
  · rcases c7 with ⟨d1, d2⟩ | ⟨k, hk, d1, d2, d3⟩
    · exact Or.inl ⟨hs.2.1.trans d1, d2⟩
    · exact Or.inr ⟨k, hk, hs.2.1.trans d1, (e _ _ (by omega)).trans d2, fun i x y => (e _ _ (by omega)).trans (d3 i x y)⟩
/-- the reference's scratch, by place -/
def qp_sc (h h2 : q_S) : Prop := (∀ a j, a ∉ qw_T → ¬ (a = 67 ∧ (j = 44 ∨ j = 46)) → ¬ (a = 98 ∧ j < 70) → h2.1 a j = h.1 a j) ∧ (∀ a j, a ≠ 78 → h2.2.1 a j = h.2.1 a j)
theorem qp_sc_rf (h : q_S) : qp_sc h h := ⟨fun _ _ _ _ _ => rfl, fun _ _ _ => rfl⟩
theorem qp_sc_tr {a b c : q_S} (h1 : qp_sc a b) (h2 : qp_sc b c) : qp_sc a c := ⟨fun x j hx hy hz => (h2.1 x j hx hy hz).trans (h1.1 x j hx hy hz), fun x j hx => (h2.2 x j hx).trans (h1.2 x j hx)⟩
theorem qp_of {h h2 : q_S} (hs : qw_sc h h2) : qp_sc h h2 := ⟨fun a j hx _ _ => congrFun (hs.1 a hx) j, fun a j hx => congrFun (hs.2.2 a hx) j⟩
theorem qs_R_sc {h h2 : q_S} {s : qs} (hs : qp_sc h h2) (hc : qs_R h s) : qs_R h2 s := by
  obtain ⟨c1, c2, c3, c4, c5, c6, c7⟩ := hc
  have hT : ∀ a, a ∉ qw_T ↔ ¬ (a = 73 ∨ a = 74 ∨ a = 75 ∨ a = 76 ∨ a = 77 ∨ a = 79 ∨ a = 80) := by
    intro a
    simp [qw_T]
  have e : ∀ a j, ((67 ≤ a ∧ a < 73) ∨ (80 < a ∧ a < 98) ∨ 98 < a ∨ (a = 98 ∧ 70 ≤ j)) → (a = 67 → j ≠ 44 ∧ j ≠ 46) → h2.1 a j = h.1 a j := fun a j ha hb => hs.1 a j ((hT a).mpr (by omega)) (by omega) (by omega)
  refine ⟨?_, ?_, ?_, ?_, ?_, ?_, ?_⟩
  · refine ⟨(e _ _ (by omega) (by omega)).trans c1.1, (e _ _ (by omega) (by omega)).trans c1.2.1, (e _ _ (by omega) (by omega)).trans c1.2.2.1, fun a i x y z => (e _ _ (by omega) (by omega)).trans (c1.2.2.2 a i x y z)⟩
  · refine ⟨fun q => (e _ _ (by omega) (by omega)).trans (c2.1 q), fun q => ?_⟩
    obtain ⟨d1, ⟨d2, d3, d4, d5, d6, d7⟩, d8⟩ := c2.2 q
    exact ⟨(e _ _ (by omega) (by omega)).trans d1, ⟨(e _ _ (by omega) (by omega)).trans d2, (e _ _ (by omega) (by omega)).trans d3, (e _ _ (by omega) (by omega)).trans d4, (e _ _ (by omega) (by omega)).trans d5, fun a i x y z => (e _ _ (by omega) (by omega)).trans (d6 a i x y z), fun a i x y => (e _ _ (by omega) (by omega)).trans (d7 a i x y)⟩, fun i x => ⟨(e _ _ (by omega) (by omega)).trans (d8 i x).1, (e _ _ (by omega) (by omega)).trans (d8 i x).2.1, (e _ _ (by omega) (by omega)).trans (d8 i x).2.2⟩⟩
  · exact ⟨(e _ _ (by omega) (by omega)).trans c3.1, fun a i x y => (e _ _ (by omega) (by omega)).trans (c3.2 a i x y)⟩
  · exact ⟨(e _ _ (by omega) (by omega)).trans c4.1, (e _ _ (by omega) (by omega)).trans c4.2.1, fun a i x y => (e _ _ (by omega) (by omega)).trans (c4.2.2 a i x y)⟩
  · exact ⟨(e _ _ (by omega) (by omega)).trans c5.1, fun i x => (e _ _ (by omega) (by omega)).trans (c5.2 i x)⟩
  · intro r hr
    obtain ⟨d1, d2, d3⟩ := c6 r hr
    exact ⟨(e _ _ (by omega) (by omega)).trans d1, (e _ _ (by omega) (by omega)).trans d2, fun i x => (hs.2 _ _ (by omega)).trans (d3 i x)⟩
  · exact ⟨(e _ _ (by omega) (by omega)).trans c7.1, fun i x y => (e _ _ (by omega) (by omega)).trans (c7.2 i x y)⟩
/-! guards -/
theorem qg_nat {x : Int32} (h : ¬ x < 0) : ∃ n, n < 2147483648 ∧ x = nI n := by
  have h0 : 0 ≤ x.toInt := by
    rw [Int32.lt_iff_toInt_lt] at h
    have e : (0 : Int32).toInt = 0 := rfl
    omega
  have h1 := Int32.toInt_lt x
  refine ⟨x.toInt.toNat, by omega, ?_⟩
  have e : nI x.toInt.toNat = iI x.toInt := by
    rw [show nI x.toInt.toNat = iI (x.toInt.toNat : Int) from rfl, Int.toNat_of_nonneg h0]
  rw [e]
  exact (Int32.ofInt_toInt x).symm
def qg_q (x : Int32) : Prop := ¬ x < 1 ∧ ¬ 16 < x
def qg_p (x : Int32) : Prop := ¬ x < 0 ∧ ¬ 9999 < x
def qg_d (l : qv_L) (x : Int32) : Prop := ¬ x < 0 ∧ x < nI (l 0 0)
def qg_s (l : qv_L) (x : Int32) : Prop := ¬ x < 0 ∧ x < nI (l 0 0) - 1
