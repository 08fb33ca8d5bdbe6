/-! ===== a line is taken over; critical, tune, gap ===== -/
theorem s16_12_24 (d : Nat) {h : q_S} {l : qv_L} (hL : qv_at h 24 l) : ∃ h2, q_sem (d + 1) 16 h [.ref 12, .ref 24] = some (h2, none) ∧ qv_at h2 12 l ∧ (∀ a j, ¬ (12 ≤ a ∧ a ≤ 17) → h2.1 a j = h.1 a j) ∧ h2.2 = h.2 := by
  refine ⟨q_cpi (q_cpi (q_cpi (q_cpi (q_cpi (q_si (q_si (q_si h 12 6 (h.1 24 6)) 12 7 (h.1 24 7)) 12 8 (h.1 24 8)) 25 0 13 0 8) 26 0 14 0 8) 27 0 15 0 8) 28 0 16 0 8) 29 0 17 0 8, ?_, ⟨?_, ?_, ?_, ?_⟩, ?_, rfl⟩
  · rw [m16, show (0 : Int32) = nI 0 from rfl, show (8 : Int32) = nI 8 from rfl, arc_i rfl rfl (by decide) (by decide) (by decide) (by decide), arc_i rfl rfl (by decide) (by decide) (by decide) (by decide), arc_i rfl rfl (by decide) (by decide) (by decide) (by decide), arc_i rfl rfl (by decide) (by decide) (by decide) (by decide), arc_i rfl rfl (by decide) (by decide) (by decide) (by decide)]
  · rw [cpi_ne (by omega), cpi_ne (by omega), cpi_ne (by omega), cpi_ne (by omega), cpi_ne (by omega), qw_si_ne (by omega), qw_si_ne (by omega), qw_si_eq]; exact hL.1
  · rw [cpi_ne (by omega), cpi_ne (by omega), cpi_ne (by omega), cpi_ne (by omega), cpi_ne (by omega), qw_si_ne (by omega), qw_si_eq]; exact hL.2.1
  · rw [cpi_ne (by omega), cpi_ne (by omega), cpi_ne (by omega), cpi_ne (by omega), cpi_ne (by omega), qw_si_eq]; exact hL.2.2.1
  · intro a i h1 h5 hi
    rcases (by omega : a = 1 ∨ a = 2 ∨ a = 3 ∨ a = 4 ∨ a = 5) with rfl | rfl | rfl | rfl | rfl
    · rw [show 12 + 1 = 13 from rfl, cpi_ne (by omega), cpi_ne (by omega), cpi_ne (by omega), cpi_ne (by omega), cpi_eq, if_pos (by omega), qw_si_ne (by omega), qw_si_ne (by omega), qw_si_ne (by omega), Nat.sub_zero, Nat.zero_add]; exact hL.2.2.2 1 i (by omega) (by omega) hi
    · rw [show 12 + 2 = 14 from rfl, cpi_ne (by omega), cpi_ne (by omega), cpi_ne (by omega), cpi_eq, if_pos (by omega), cpi_ne (by omega), qw_si_ne (by omega), qw_si_ne (by omega), qw_si_ne (by omega), Nat.sub_zero, Nat.zero_add]; exact hL.2.2.2 2 i (by omega) (by omega) hi
    · rw [show 12 + 3 = 15 from rfl, cpi_ne (by omega), cpi_ne (by omega), cpi_eq, if_pos (by omega), cpi_ne (by omega), cpi_ne (by omega), qw_si_ne (by omega), qw_si_ne (by omega), qw_si_ne (by omega), Nat.sub_zero, Nat.zero_add]; exact hL.2.2.2 3 i (by omega) (by omega) hi
    · rw [show 12 + 4 = 16 from rfl, cpi_ne (by omega), cpi_eq, if_pos (by omega), cpi_ne (by omega), cpi_ne (by omega), cpi_ne (by omega), qw_si_ne (by omega), qw_si_ne (by omega), qw_si_ne (by omega), Nat.sub_zero, Nat.zero_add]; exact hL.2.2.2 4 i (by omega) (by omega) hi
    · rw [show 12 + 5 = 17 from rfl, cpi_eq, if_pos (by omega), cpi_ne (by omega), cpi_ne (by omega), cpi_ne (by omega), cpi_ne (by omega), qw_si_ne (by omega), qw_si_ne (by omega), qw_si_ne (by omega), Nat.sub_zero, Nat.zero_add]; exact hL.2.2.2 5 i (by omega) (by omega) hi
  · intro a j q
    rw [cpi_ne (by omega), cpi_ne (by omega), cpi_ne (by omega), cpi_ne (by omega), cpi_ne (by omega), qw_si_ne (by omega), qw_si_ne (by omega), qw_si_ne (by omega)]
theorem s16_18_12 (d : Nat) {h : q_S} {l : qv_L} (hL : qv_at h 12 l) : ∃ h2, q_sem (d + 1) 16 h [.ref 18, .ref 12] = some (h2, none) ∧ qv_at h2 18 l ∧ (∀ a j, ¬ (18 ≤ a ∧ a ≤ 23) → h2.1 a j = h.1 a j) ∧ h2.2 = h.2 := by
  refine ⟨q_cpi (q_cpi (q_cpi (q_cpi (q_cpi (q_si (q_si (q_si h 18 6 (h.1 12 6)) 18 7 (h.1 12 7)) 18 8 (h.1 12 8)) 13 0 19 0 8) 14 0 20 0 8) 15 0 21 0 8) 16 0 22 0 8) 17 0 23 0 8, ?_, ⟨?_, ?_, ?_, ?_⟩, ?_, rfl⟩
  · rw [m16_1, show (0 : Int32) = nI 0 from rfl, show (8 : Int32) = nI 8 from rfl, arc_i rfl rfl (by decide) (by decide) (by decide) (by decide), arc_i rfl rfl (by decide) (by decide) (by decide) (by decide), arc_i rfl rfl (by decide) (by decide) (by decide) (by decide), arc_i rfl rfl (by decide) (by decide) (by decide) (by decide), arc_i rfl rfl (by decide) (by decide) (by decide) (by decide)]
  · rw [cpi_ne (by omega), cpi_ne (by omega), cpi_ne (by omega), cpi_ne (by omega), cpi_ne (by omega), qw_si_ne (by omega), qw_si_ne (by omega), qw_si_eq]; exact hL.1
  · rw [cpi_ne (by omega), cpi_ne (by omega), cpi_ne (by omega), cpi_ne (by omega), cpi_ne (by omega), qw_si_ne (by omega), qw_si_eq]; exact hL.2.1
  · rw [cpi_ne (by omega), cpi_ne (by omega), cpi_ne (by omega), cpi_ne (by omega), cpi_ne (by omega), qw_si_eq]; exact hL.2.2.1
  · intro a i h1 h5 hi
    rcases (by omega : a = 1 ∨ a = 2 ∨ a = 3 ∨ a = 4 ∨ a = 5) with rfl | rfl | rfl | rfl | rfl
    · rw [show 18 + 1 = 19 from rfl, cpi_ne (by omega), cpi_ne (by omega), cpi_ne (by omega), cpi_ne (by omega), cpi_eq, if_pos (by omega), qw_si_ne (by omega), qw_si_ne (by omega), qw_si_ne (by omega), Nat.sub_zero, Nat.zero_add]; exact hL.2.2.2 1 i (by omega) (by omega) hi
    · rw [show 18 + 2 = 20 from rfl, cpi_ne (by omega), cpi_ne (by omega), cpi_ne (by omega), cpi_eq, if_pos (by omega), cpi_ne (by omega), qw_si_ne (by omega), qw_si_ne (by omega), qw_si_ne (by omega), Nat.sub_zero, Nat.zero_add]; exact hL.2.2.2 2 i (by omega) (by omega) hi
    · rw [show 18 + 3 = 21 from rfl, cpi_ne (by omega), cpi_ne (by omega), cpi_eq, if_pos (by omega), cpi_ne (by omega), cpi_ne (by omega), qw_si_ne (by omega), qw_si_ne (by omega), qw_si_ne (by omega), Nat.sub_zero, Nat.zero_add]; exact hL.2.2.2 3 i (by omega) (by omega) hi
    · rw [show 18 + 4 = 22 from rfl, cpi_ne (by omega), cpi_eq, if_pos (by omega), cpi_ne (by omega), cpi_ne (by omega), cpi_ne (by omega), qw_si_ne (by omega), qw_si_ne (by omega), qw_si_ne (by omega), Nat.sub_zero, Nat.zero_add]; exact hL.2.2.2 4 i (by omega) (by omega) hi
    · rw [show 18 + 5 = 23 from rfl, cpi_eq, if_pos (by omega), cpi_ne (by omega), cpi_ne (by omega), cpi_ne (by omega), cpi_ne (by omega), qw_si_ne (by omega), qw_si_ne (by omega), qw_si_ne (by omega), Nat.sub_zero, Nat.zero_add]; exact hL.2.2.2 5 i (by omega) (by omega) hi
  · intro a j q
    rw [cpi_ne (by omega), cpi_ne (by omega), cpi_ne (by omega), cpi_ne (by omega), cpi_ne (by omega), qw_si_ne (by omega), qw_si_ne (by omega), qw_si_ne (by omega)]
theorem s16_24_12 (d : Nat) {h : q_S} {l : qv_L} (hL : qv_at h 12 l) : ∃ h2, q_sem (d + 1) 16 h [.ref 24, .ref 12] = some (h2, none) ∧ qv_at h2 24 l ∧ (∀ a j, ¬ (24 ≤ a ∧ a ≤ 29) → h2.1 a j = h.1 a j) ∧ h2.2 = h.2 := by
  refine ⟨q_cpi (q_cpi (q_cpi (q_cpi (q_cpi (q_si (q_si (q_si h 24 6 (h.1 12 6)) 24 7 (h.1 12 7)) 24 8 (h.1 12 8)) 13 0 25 0 8) 14 0 26 0 8) 15 0 27 0 8) 16 0 28 0 8) 17 0 29 0 8, ?_, ⟨?_, ?_, ?_, ?_⟩, ?_, rfl⟩
  · rw [m16_2, show (0 : Int32) = nI 0 from rfl, show (8 : Int32) = nI 8 from rfl, arc_i rfl rfl (by decide) (by decide) (by decide) (by decide), arc_i rfl rfl (by decide) (by decide) (by decide) (by decide), arc_i rfl rfl (by decide) (by decide) (by decide) (by decide), arc_i rfl rfl (by decide) (by decide) (by decide) (by decide), arc_i rfl rfl (by decide) (by decide) (by decide) (by decide)]
  · rw [cpi_ne (by omega), cpi_ne (by omega), cpi_ne (by omega), cpi_ne (by omega), cpi_ne (by omega), qw_si_ne (by omega), qw_si_ne (by omega), qw_si_eq]; exact hL.1
  · rw [cpi_ne (by omega), cpi_ne (by omega), cpi_ne (by omega), cpi_ne (by omega), cpi_ne (by omega), qw_si_ne (by omega), qw_si_eq]; exact hL.2.1
  · rw [cpi_ne (by omega), cpi_ne (by omega), cpi_ne (by omega), cpi_ne (by omega), cpi_ne (by omega), qw_si_eq]; exact hL.2.2.1
  · intro a i h1 h5 hi
    rcases (by omega : a = 1 ∨ a = 2 ∨ a = 3 ∨ a = 4 ∨ a = 5) with rfl | rfl | rfl | rfl | rfl
    · rw [show 24 + 1 = 25 from rfl, cpi_ne (by omega), cpi_ne (by omega), cpi_ne (by omega), cpi_ne (by omega), cpi_eq, if_pos (by omega), qw_si_ne (by omega), qw_si_ne (by omega), qw_si_ne (by omega), Nat.sub_zero, Nat.zero_add]; exact hL.2.2.2 1 i (by omega) (by omega) hi
    · rw [show 24 + 2 = 26 from rfl, cpi_ne (by omega), cpi_ne (by omega), cpi_ne (by omega), cpi_eq, if_pos (by omega), cpi_ne (by omega), qw_si_ne (by omega), qw_si_ne (by omega), qw_si_ne (by omega), Nat.sub_zero, Nat.zero_add]; exact hL.2.2.2 2 i (by omega) (by omega) hi
    · rw [show 24 + 3 = 27 from rfl, cpi_ne (by omega), cpi_ne (by omega), cpi_eq, if_pos (by omega), cpi_ne (by omega), cpi_ne (by omega), qw_si_ne (by omega), qw_si_ne (by omega), qw_si_ne (by omega), Nat.sub_zero, Nat.zero_add]; exact hL.2.2.2 3 i (by omega) (by omega) hi
    · rw [show 24 + 4 = 28 from rfl, cpi_ne (by omega), cpi_eq, if_pos (by omega), cpi_ne (by omega), cpi_ne (by omega), cpi_ne (by omega), qw_si_ne (by omega), qw_si_ne (by omega), qw_si_ne (by omega), Nat.sub_zero, Nat.zero_add]; exact hL.2.2.2 4 i (by omega) (by omega) hi
    · rw [show 24 + 5 = 29 from rfl, cpi_eq, if_pos (by omega), cpi_ne (by omega), cpi_ne (by omega), cpi_ne (by omega), cpi_ne (by omega), qw_si_ne (by omega), qw_si_ne (by omega), qw_si_ne (by omega), Nat.sub_zero, Nat.zero_add]; exact hL.2.2.2 5 i (by omega) (by omega) hi
  · intro a j q
    rw [cpi_ne (by omega), cpi_ne (by omega), cpi_ne (by omega), cpi_ne (by omega), cpi_ne (by omega), qw_si_ne (by omega), qw_si_ne (by omega), qw_si_ne (by omega)]
/-- the reference's scratch, and its line -/
def qy (h h2 : q_S) : Prop := (∀ a j, a ∉ qw_T → ¬ (a = 67 ∧ (j < 3 ∨ j = 44 ∨ j = 46)) → ¬ (68 ≤ a ∧ a ≤ 72) → ¬ (a = 98 ∧ j < 70) → h2.1 a j = h.1 a j) ∧ (∀ a j, a ≠ 78 → h2.2.1 a j = h.2.1 a j)
theorem qy_rf (h : q_S) : qy h h := ⟨fun _ _ _ _ _ _ => rfl, fun _ _ _ => rfl⟩
theorem qy_tr {a b c : q_S} (h1 : qy a b) (h2 : qy b c) : qy a c := ⟨fun x j p q r s => (h2.1 x j p q r s).trans (h1.1 x j p q r s), fun x j hx => (h2.2 x j hx).trans (h1.2 x j hx)⟩
theorem qy_of {h h2 : q_S} (hs : qw_sc h h2) : qy h h2 := ⟨fun a j hx _ _ _ => congrFun (hs.1 a hx) j, fun a j hx => congrFun (hs.2.2 a hx) j⟩
theorem qy_si {h : q_S} {a i : Nat} {x : Int32} (ha : (a = 67 ∧ i < 3) ∨ (68 ≤ a ∧ a ≤ 72)) : qy h (q_si h a i x) := ⟨fun b j _ p q _ => qw_si_ne (by omega), fun _ _ _ => rfl⟩
theorem qs_R_y {h h2 : q_S} {s : qs} (hs : qy h h2) (hL : qw_at h2 s.1) (hc : qs_R h s) : qs_R h2 s := by
  obtain ⟨c1, c2, c3, c4, c5, c6, c7⟩ := hc
  have hT : ∀ a, a ∉ qw_T ↔ ¬ (a = 73 ∨ a = 74 ∨ a = 75 ∨ a = 76 ∨ a = 77 ∨ a = 79 ∨ a = 80) := by
    intro a
    simp [qw_T]
  have e : ∀ a j, ((a = 67 ∧ 3 ≤ j) ∨ (80 < a ∧ a < 98) ∨ 98 < a ∨ (a = 98 ∧ 70 ≤ j)) → (a = 67 → j ≠ 44 ∧ j ≠ 46) → h2.1 a j = h.1 a j := fun a j ha hb => hs.1 a j ((hT a).mpr (by omega)) (by omega) (by omega) (by omega)
  exact ⟨hL, f_r2 (fun a j q => e a j (by omega) (by omega)) (fun _ _ _ => rfl) c2, f_r3 (fun a j q => e a j (by omega) (by omega)) (fun _ _ _ => rfl) c3, f_r4 (fun a j q => e a j (by omega) (by omega)) (fun _ _ _ => rfl) c4, f_r5 (fun a j q => e a j (by omega) (by omega)) (fun _ _ _ => rfl) c5, f_r6 (fun a j q => e a j (by omega) (by omega)) (fun a j q => hs.2 a j (by omega)) (fun _ _ _ => rfl) c6, f_r7 (fun a j q => e a j (by omega) (by omega)) (fun _ _ _ => rfl) c7⟩
theorem qs_sy {y y' : Nat} {as : List Value} {s : qs} (v : Value) (hs : qs_ok s) (a : ∀ (d : Nat) (h : q_S), qs_C h s → ∃ h1, q_sem (d + 14) y h (.ref 0 :: as) = some (h1, some v) ∧ qc_sc h h1 ∧ qr_z h1) (b : ∀ (d : Nat) (h : q_S), qs_R h s → ∃ h1, q_sem (d + 14) y' h (.ref 67 :: as) = some (h1, some v) ∧ qy h h1 ∧ qw_at h1 s.1) : ∃ v s', qs_ok s' ∧ (∀ (d : Nat) (h : q_S), qs_C h s → ∃ h1, q_sem (d + 14) y h (.ref 0 :: as) = some (h1, some v) ∧ qs_C h1 s') ∧ (∀ (d : Nat) (h : q_S), qs_R h s → ∃ h1, q_sem (d + 14) y' h (.ref 67 :: as) = some (h1, some v) ∧ qs_R h1 s') :=
  ⟨v, s, hs, fun d h hc => by
    obtain ⟨h1, e, f, z⟩ := a d h hc
    exact ⟨h1, e, qs_C_sc f z hc⟩, fun d h hr => by
    obtain ⟨h1, e, f, g⟩ := b d h hr
    exact ⟨h1, e, qs_R_y f g hr⟩⟩
theorem qc_fr {h h2 : q_S} (u : ∀ a j, ¬ (18 ≤ a ∧ a ≤ 23) → h2.1 a j = h.1 a j) (ul : h2.2 = h.2) : qc_sc h h2 := ⟨fun a j q _ => u a j q, by rw [ul], fun a _ => by rw [ul]⟩
theorem qc_si {h : q_S} {a i : Nat} {x : Int32} (ha : 18 ≤ a ∧ a ≤ 23) : qc_sc h (q_si h a i x) := ⟨fun b j q _ => qw_si_ne (by omega), rfl, fun _ _ => rfl⟩
theorem qz_fr2 {h h2 : q_S} (ul : h2.2 = h.2) (z : qr_z h) : qr_z h2 := f_z (fun a j _ => by rw [ul]) z
theorem ql_ql2 (l : qv_L) (a i v w : Nat) : ql (ql l a i v) a i w = ql l a i w := by
  funext b j
  simp only [ql]
  split <;> rfl
theorem ql_self (l : qv_L) (a i : Nat) : ql l a i (l a i) = l := by
  funext b j
  simp only [ql]
  split
  · rename_i q
    rw [q.1, q.2]
  · rfl
theorem ok_spin {l : qv_L} (h : qv_ok l) {v : Nat} (hv : v ≤ 9) : qv_ok (ql l 0 1 v) := by
  have := ok_put h (w := 4) (k := 0) (v := v) (by omega) (by omega) (fun q => by omega) (fun q => by omega) (Nat.zero_le _) hv (fun q => by omega)
  rwa [put_4] at this
theorem ok_mass {l : qv_L} (h : qv_ok l) {k v : Nat} (hk : k < l 0 0) (h1 : 1 ≤ v) (hv : v ≤ 99) : qv_ok (ql l 2 k v) := by
  have h8 := h.1
  have := ok_put h (w := 0) (k := k) (v := v) (by omega) (by omega) (fun q => hk) (fun q => by omega) h1 hv (fun q => by omega)
  rwa [put_0] at this
theorem ok_stiff {l : qv_L} (h : qv_ok l) {k v : Nat} (hk : k + 1 < l 0 0) (h1 : 1 ≤ v) (hv : v ≤ 99) : qv_ok (ql l 4 k v) := by
  have h8 := h.1
  have := ok_put h (w := 1) (k := k) (v := v) (by omega) (by omega) (fun q => by omega) (fun q => hk) h1 hv (fun q => by omega)
  rwa [put_1] at this
/-! critical -/
def q_crit (l : qv_L) (k : Nat) : Nat → Nat → Int32
  | 0, _ => -2
  | m + 1, s => if s * s < qv_f (ql l 0 1 s) k 1 then q_crit l k m (s + 1) else nI s
theorem l80 (X : q_X) (d : Nat) (l : qv_L) (hl : qv_ok l) (k : Nat) (hk : k < l 0 0) (h0 : q_S) : ∀ m f s x h, s + m = 10 → 1 ≤ s → m < f → qv_at h 18 (ql l 0 1 x) → qr_z h → qc_sc h0 h → ∃ h2, q_go e_80 X (q_sem (d + 6)) f 26 [(0, .ref 0), (1, .int (nI k)), (2, .int (nI s))] [] h = some (h2, some (.int (q_crit l k m s))) ∧ qc_sc h0 h2 ∧ qr_z h2 := by
  intro m
  induction m with
  | zero =>
    intro f s x h hm h1 hf e1 e2 e3
    obtain ⟨f, rfl⟩ : ∃ g, f = g + 1 := ⟨f - 1, by omega⟩
    have : s = 10 := by omega
    subst this
    exact ⟨h, by rw [b80_26, if_pos (by decide)]; rfl, e3, e2⟩
  | succ m ih =>
    intro f s x h hm h1 hf e1 e2 e3
    obtain ⟨f, rfl⟩ : ∃ g, f = g + 1 := ⟨f - 1, by omega⟩
    have a1 : qv_at (q_si h 18 7 (nI s)) 18 (ql l 0 1 s) := by
      have := at_1 (v := s) e1
      rwa [ql_ql2] at this
    have hL : (ql l 0 1 s) 0 0 = l 0 0 := ql_ne (by omega)
    obtain ⟨h2, g1, g2, g3⟩ := s112t d (q_si h 18 7 (nI s)) (ql l 0 1 s) (ok_spin hl (by omega)) k 1 (by omega) (by omega) (by rw [hL]; exact hk) a1 e2
    have hb := qv_f_bd (ok_spin hl (v := s) (by omega)) (q := 1) (by omega) k
    have hss : s * s ≤ 81 := Nat.mul_le_mul (by omega : s ≤ 9) (by omega : s ≤ 9)
    have sc := qc_sc_tr e3 (qc_sc_tr (qc_si (h := h) (a := 18) (i := 7) (x := nI s) (by omega)) (qc_of g2))
    rw [b80_26, if_neg (by rw [show (9 : Int32) = nI 9 from rfl, nI_lt_iff (by omega) (by omega)]; omega), show (1 : Int32) = nI 1 from rfl, g1, q_c1_s, pk_mul, nI_add, q_crit]
    by_cases z : s * s < qv_f (ql l 0 1 s) k 1
    · rw [if_pos (by rw [nI_lt_iff (by omega) (by omega)]; exact z), if_pos z]
      exact ih f (s + 1) s h2 (by omega) (by omega) (by omega) (qr_sc_at g2 (Or.inr (Or.inl rfl)) a1) g3 sc
    · rw [if_neg (by rw [nI_lt_iff (by omega) (by omega)]; exact z), if_neg z]
      exact ⟨h2, rfl, sc, g3⟩
theorem l167 (X : q_X) (d : Nat) (l : qv_L) (hl : qv_ok l) (k : Nat) (hk : k < l 0 0) (h0 : q_S) : ∀ m f s x h, s + m = 10 → 1 ≤ s → m + 1 < f → qw_at h (ql l 0 1 x) → qy h0 h → ∃ h2, q_go e_167 X (q_sem (d + 4)) f 21 [(0, .ref 67), (1, .int (nI k)), (2, .int (nI (l 0 1))), (3, .int (-2)), (4, .int (nI s))] [] h = some (h2, some (.int (q_crit l k m s))) ∧ qy h0 h2 ∧ qw_at h2 l := by
  have back : ∀ h x, qw_at h (ql l 0 1 x) → qw_at (q_si h 67 1 (nI (l 0 1))) l := by
    intro h x e
    have := aw_1 (v := l 0 1) e
    rwa [ql_ql2, ql_self] at this
  intro m
  induction m with
  | zero =>
    intro f s x h hm h1 hf e1 e3
    obtain ⟨f, rfl⟩ : ∃ g, f = g + 1 := ⟨f - 1, by omega⟩
    have : s = 10 := by omega
    subst this
    exact ⟨_, by rw [b167_21, if_pos (by decide)]; rfl, qy_tr e3 (qy_si (by omega)), back h x e1⟩
  | succ m ih =>
    intro f s x h hm h1 hf e1 e3
    obtain ⟨f, rfl⟩ : ∃ g, f = g + 1 + 1 := ⟨f - 2, by omega⟩
    have a1 : qw_at (q_si h 67 1 (nI s)) (ql l 0 1 s) := by
      have := aw_1 (v := s) e1
      rwa [ql_ql2] at this
    have hL : (ql l 0 1 s) 0 0 = l 0 0 := ql_ne (by omega)
    obtain ⟨h2, g1, g2⟩ := s133 d (q_si h 67 1 (nI s)) (ql l 0 1 s) (ok_spin hl (by omega)) k 1 (by omega) (by omega) (by rw [hL]; exact hk) a1
    have hb := qv_f_bd (ok_spin hl (v := s) (by omega)) (q := 1) (by omega) k
    have hss : s * s ≤ 81 := Nat.mul_le_mul (by omega : s ≤ 9) (by omega : s ≤ 9)
    have sc := qy_tr e3 (qy_tr (qy_si (h := h) (a := 67) (i := 1) (x := nI s) (by omega)) (qy_of g2))
    rw [b167_21, if_neg (by rw [show (9 : Int32) = nI 9 from rfl, nI_lt_iff (by omega) (by omega)]; omega), if_pos (by decide), show (1 : Int32) = nI 1 from rfl, g1, q_c1_s, pk_mul, nI_add, q_crit]
    by_cases z : s * s < qv_f (ql l 0 1 s) k 1
    · rw [if_pos (by rw [nI_lt_iff (by omega) (by omega)]; exact z), if_pos z]
      exact ih (f + 1) (s + 1) s h2 (by omega) (by omega) (by omega) (qw_sc_at g2 a1) sc
    · rw [if_neg (by rw [nI_lt_iff (by omega) (by omega)]; exact z), if_neg z, b167_21, if_neg (nI_lt0 (by omega))]
      refine ⟨q_si h2 67 1 (nI (l 0 1)), ?_, qy_tr sc (qy_si (by omega)), back h2 s (qw_sc_at g2 a1)⟩
      split <;> rfl
theorem c80 (x : Int32) : qs_st 80 167 [.int x] := by
  intro s hs
  by_cases g : qg_d s.1 x
  · obtain ⟨k, hk, rfl⟩ := qg_dN hs.1.1 g
    refine qs_sy (.int (q_crit s.1 k 9 1)) hs ?_ ?_
    · intro d h hc
      obtain ⟨h2, e1, e2, e3, e4⟩ := s16_18_12 (d + 12) hc.1
      obtain ⟨h3, f1, f2, f3⟩ := l80 q_X0 (d + 7) s.1 hs.1 k hk h 9 999 1 (s.1 0 1) h2 (by omega) (by omega) (by omega) (by rw [ql_self]; exact e2) (qz_fr2 e4 hc.2.2.2.2.2.2.2) (qc_fr e3 e4)
      refine ⟨h3, ?_, f2, f3⟩
      rw [m80, s19p _ hc.1 g, q_c1_s, if_neg (by decide), e1, q_c0_s]
      exact f1
    · intro d h hr
      obtain ⟨h3, f1, f2, f3⟩ := l167 q_X0 (d + 9) s.1 hs.1 k hk h 9 999 1 (s.1 0 1) h (by omega) (by omega) (by omega) (by rw [ql_self]; exact hr.1) (qy_rf h)
      refine ⟨h3, ?_, f2, f3⟩
      rw [m167, s121p _ hs.1 hr.1 g, q_c1_s, if_neg (by decide), hr.1.2.1]
      exact f1
  · refine qs_no (.int (-1)) hs ?_ ?_
    · intro d h hc
      rw [m80, s19n _ hc.1 g, q_c1_s, if_pos rfl]
    · intro d h hr
      rw [m167, s121n _ hs.1 hr.1 g, q_c1_s, if_pos rfl]
/-! tune -/
def q_band (l : qv_L) (a b q : Nat) : Nat := qB l b q 0 (l 0 0) - qB l a q 0 (l 0 0)
theorem q_band_bd {l : qv_L} (hl : qv_ok l) (a b q : Nat) : q_band l a b q ≤ 8 := by
  have := qB_le l b q 0 (l 0 0)
  have := hl.1
  unfold q_band
  omega
def q_tune (l : qv_L) (k a b q : Nat) : Nat → Nat → Int32
  | 0, _ => -2
  | m + 1, v => if q_band (ql l 4 k v) a b q = 0 then nI v else q_tune l k a b q m (v + 1)
theorem l77 (X : q_X) (d : Nat) (l : qv_L) (hl : qv_ok l) (k a b q : Nat) (hk : k + 1 < l 0 0) (hab : a ≤ b) (hb : b ≤ 10000) (hq1 : 1 ≤ q) (hq : q ≤ 16) (h0 : q_S) : ∀ m f v x h, v + m = 100 → 1 ≤ v → m < f → qv_at h 18 (ql l 4 k x) → qr_z h → qc_sc h0 h → ∃ h2, q_go e_77 X (q_sem (d + 6)) f 37 [(0, .ref 0), (1, .int (nI k)), (2, .int (nI a)), (3, .int (nI b)), (4, .int (nI q)), (5, .int (nI v))] [] h = some (h2, some (.int (q_tune l k a b q m v))) ∧ qc_sc h0 h2 ∧ qr_z h2 := by
  have h8 := hl.1
  intro m
  induction m with
  | zero =>
    intro f v x h hm h1 hf e1 e2 e3
    obtain ⟨f, rfl⟩ : ∃ g, f = g + 1 := ⟨f - 1, by omega⟩
    have : v = 100 := by omega
    subst this
    exact ⟨h, by rw [b77_37, if_pos (by decide)]; rfl, e3, e2⟩
  | succ m ih =>
    intro f v x h hm h1 hf e1 e2 e3
    obtain ⟨f, rfl⟩ : ∃ g, f = g + 1 := ⟨f - 1, by omega⟩
    have a1 : qv_at (q_si h 22 k (nI v)) 18 (ql l 4 k v) := by
      have := at_a (o := 18) (b := 4) (k := k) (v := v) (by omega) e1
      rwa [ql_ql2] at this
    have ok := ok_stiff hl hk h1 (show v ≤ 99 by omega)
    obtain ⟨h2, g1, g2, g3, g4⟩ := s36z (d + 1) (q_si h 22 k (nI v)) (ql l 4 k v) ok (Or.inr rfl) a1 e2
    obtain ⟨h3, j1, j2, j3⟩ := s45 (d + 2) h2 (ql l 4 k v) ok a b q hab hb hq1 hq g2 g4
    have hbd := q_band_bd ok a b q
    have sc := qc_sc_tr e3 (qc_sc_tr (qc_si (h := h) (a := 22) (i := k) (x := nI v) (by omega)) (qc_sc_tr (qc_of g3) (qc_of (qr_fr_sc j2))))
    have j1 : q_sem (d + 6) 45 h2 [.ref 43, .int (nI a), .int (nI b), .int (nI q)] = some (h3, some (.int (nI (q_band (ql l 4 k v) a b q)))) := j1
    rw [b77_37, if_neg (by rw [show (99 : Int32) = nI 99 from rfl, nI_lt_iff (by omega) (by omega)]; omega), q_ix_n (by omega) (by decide), g1, q_c0_s, j1, q_c1_s, nI_p1, q_tune]
    by_cases z : q_band (ql l 4 k v) a b q = 0
    · rw [if_pos (by rw [z]; rfl), if_pos z]
      exact ⟨h3, rfl, sc, j3⟩
    · rw [if_neg (nI_ne0 (by omega) (by omega)), if_neg z]
      exact ih f (v + 1) v h3 (by omega) (by omega) (by omega) (qr_sc_at (qr_sc_tr g3 (qr_fr_sc j2)) (Or.inr (Or.inl rfl)) a1) j3 sc
theorem l163 (X : q_X) (d : Nat) (l : qv_L) (hl : qv_ok l) (k a b q : Nat) (hk : k + 1 < l 0 0) (hab : a ≤ b) (hb : b ≤ 10000) (hq1 : 1 ≤ q) (hq : q ≤ 16) (h0 : q_S) : ∀ m f v x h, v + m = 100 → 1 ≤ v → m + 2 < f → qw_at h (ql l 4 k x) → qy h0 h → ∃ h2, q_go e_163 X (q_sem (d + 4)) f 34 [(0, .ref 67), (1, .int (nI k)), (2, .int (nI a)), (3, .int (nI b)), (4, .int (nI q)), (5, .int (nI (l 4 k))), (6, .int (nI v)), (7, .int 0)] [] h = some (h2, some (.int (q_tune l k a b q m v))) ∧ qy h0 h2 ∧ qw_at h2 l := by
  have h8 := hl.1
  have back : ∀ h x, qw_at h (ql l 4 k x) → qw_at (q_si h 71 k (nI (l 4 k))) l := by
    intro h x e
    have := aw_a (b := 4) (k := k) (v := l 4 k) (by omega) e
    rwa [ql_ql2, ql_self] at this
  intro m
  induction m with
  | zero =>
    intro f v x h hm h1 hf e1 e3
    obtain ⟨f, rfl⟩ : ∃ g, f = g + 1 + 1 := ⟨f - 2, by omega⟩
    have : v = 100 := by omega
    subst this
    exact ⟨_, by rw [b163_34, if_pos rfl, if_pos (by decide), b163_78, q_ix_n (by omega) (by decide), if_pos rfl]; rfl, qy_tr e3 (qy_si (by omega)), back h x e1⟩
  | succ m ih =>
    intro f v x h hm h1 hf e1 e3
    obtain ⟨f, rfl⟩ : ∃ g, f = g + 1 + 1 + 1 := ⟨f - 3, by omega⟩
    have a1 : qw_at (q_si h 71 k (nI v)) (ql l 4 k v) := by
      have := aw_a (b := 4) (k := k) (v := v) (by omega) e1
      rwa [ql_ql2] at this
    have ok := ok_stiff hl hk h1 (show v ≤ 99 by omega)
    obtain ⟨h2, g1, g2⟩ := s159 d (q_si h 71 k (nI v)) (ql l 4 k v) ok a b q hab hb hq1 hq a1
    have hbd := q_band_bd ok a b q
    have sc := qy_tr e3 (qy_tr (qy_si (h := h) (a := 71) (i := k) (x := nI v) (by omega)) (qy_of g2))
    have g1 : q_sem (d + 4) 159 (q_si h 71 k (nI v)) [.ref 67, .int (nI a), .int (nI b), .int (nI q)] = some (h2, some (.int (nI (q_band (ql l 4 k v) a b q)))) := g1
    rw [b163_34, if_pos rfl, if_neg (by rw [show (99 : Int32) = nI 99 from rfl, nI_lt_iff (by omega) (by omega)]; omega), q_ix_n (by omega) (by decide), g1, q_c1_s, nI_p1, q_tune]
    by_cases z : q_band (ql l 4 k v) a b q = 0
    · rw [if_pos (by rw [z]; rfl), if_pos z, b163_34, if_neg (by decide), b163_78, q_ix_n (by omega) (by decide), if_neg (by decide), nI_m1]
      exact ⟨_, rfl, qy_tr sc (qy_si (by omega)), back h2 v (qw_sc_at g2 a1)⟩
    · rw [if_neg (nI_ne0 (by omega) (by omega)), if_neg z]
      exact ih (f + 1 + 1) (v + 1) v h2 (by omega) (by omega) (by omega) (qw_sc_at g2 a1) sc
theorem c77 (w x y z : Int32) : qs_st 77 163 [.int w, .int x, .int y, .int z] := by
  intro s hs
  have h8 := hs.1.1
  by_cases g : qg_s s.1 w
  · by_cases g2 : qg_b x y z
    · obtain ⟨k, hk, rfl⟩ := qg_sN hs.1.1 g
      obtain ⟨a, b, q, hab, hb, hq1, hq, rfl, rfl, rfl⟩ := qg_bN g2
      refine qs_sy (.int (q_tune s.1 k a b q 99 1)) hs ?_ ?_
      · intro d h hc
        obtain ⟨h2, e1, e2, e3, e4⟩ := s16_18_12 (d + 12) hc.1
        obtain ⟨h3, f1, f2, f3⟩ := l77 q_X0 (d + 7) s.1 hs.1 k a b q hk hab (by omega) hq1 hq h 99 999 1 (s.1 4 k) h2 (by omega) (by omega) (by omega) (by rw [ql_self]; exact e2) (qz_fr2 e4 hc.2.2.2.2.2.2.2) (qc_fr e3 e4)
        refine ⟨h3, ?_, f2, f3⟩
        rw [m77, s20p _ hc.1 g, q_c1_s, if_neg (by decide), s108p _ _ g2, q_c1_s, if_neg (by decide), e1, q_c0_s]
        exact f1
      · intro d h hr
        obtain ⟨h3, f1, f2, f3⟩ := l163 q_X0 (d + 9) s.1 hs.1 k a b q hk hab (by omega) hq1 hq h 99 999 1 (s.1 4 k) h (by omega) (by omega) (by omega) (by rw [ql_self]; exact hr.1) (qy_rf h)
        refine ⟨h3, ?_, f2, f3⟩
        rw [m163, s122p _ hs.1 hr.1 g, q_c1_s, if_neg (by decide), s158p _ _ g2, q_c1_s, if_neg (by decide), q_ix_n (by omega) (by decide), show h.1 71 k = nI (s.1 4 k) from hr.1.2.2.2 4 k (by omega) (by omega) (by omega)]
        exact f1
    · refine qs_no (.int (-1)) hs ?_ ?_
      · intro d h hc
        rw [m77, s20p _ hc.1 g, q_c1_s, if_neg (by decide), s108n _ _ g2, q_c1_s, if_pos rfl]
      · intro d h hr
        rw [m163, s122p _ hs.1 hr.1 g, q_c1_s, if_neg (by decide), s158n _ _ g2, q_c1_s, if_pos rfl]
  · refine qs_no (.int (-1)) hs ?_ ?_
    · intro d h hc
      rw [m77, s20n _ hc.1 g, q_c1_s, if_pos rfl]
    · intro d h hr
      rw [m163, s122n _ hs.1 hr.1 g, q_c1_s, if_pos rfl]
