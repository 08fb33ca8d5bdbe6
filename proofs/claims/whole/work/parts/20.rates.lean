/-! ===== the class's rates: taking a line, adding a row ===== -/
def qr_at (h : q_S) (l : qv_L) : Prop := h.1 43 0 = nI (l 0 0) ∧ ∀ i, i < l 0 0 → h.2.1 44 i = iL (qv_I l i) ∧ h.2.1 45 i = iL (qv_H l i) ∧ (i + 1 < l 0 0 → h.2.1 46 i = iL (qv_K l i))
/-- h2 is h but for the longs of the cells of S -/
def qr_fr (S : List Nat) (h h2 : q_S) : Prop := h2.1 = h.1 ∧ h2.2.2 = h.2.2 ∧ ∀ a, a ∉ S → h2.2.1 a = h.2.1 a
theorem qr_fr_rf (S : List Nat) (h : q_S) : qr_fr S h h := ⟨rfl, rfl, fun _ _ => rfl⟩
theorem qr_fr_tr {S : List Nat} {a b c : q_S} (h1 : qr_fr S a b) (h2 : qr_fr S b c) : qr_fr S a c := ⟨h2.1.trans h1.1, h2.2.1.trans h1.2.1, fun x hx => (h2.2.2 x hx).trans (h1.2.2 x hx)⟩
theorem qr_fr_sl {S : List Nat} {h : q_S} {a i : Nat} {x : Int64} (ha : a ∈ S) : qr_fr S h (q_sl h a i x) := by
  refine ⟨rfl, rfl, fun b hb => ?_⟩
  funext j
  have : b ≠ a := fun e => hb (e ▸ ha)
  simp [q_sl, this]
theorem qr_fr_mono {S T : List Nat} {a b : q_S} (h : qr_fr S a b) (hs : ∀ x ∈ S, x ∈ T) : qr_fr T a b := ⟨h.1, h.2.1, fun x hx => h.2.2 x (fun q => hx (hs x q))⟩
theorem qr_sl_eq (h : q_S) (a i : Nat) (x : Int64) : (q_sl h a i x).2.1 a i = x := by simp [q_sl]
theorem qr_sl_ne {h : q_S} {a i b j : Nat} {x : Int64} (hn : ¬ (b = a ∧ j = i)) : (q_sl h a i x).2.1 b j = h.2.1 b j := by simp only [q_sl]; rw [if_neg hn]
theorem nI_L {n : Nat} (h : n < 2147483648) : (nI n).toInt64 = iL n := nI_l h
theorem nI_lt0 {n : Nat} (h : n < 2147483648) : ¬ nI n < 0 := nI_pos h
theorem l36 (X : q_X) (d : Nat) (l : qv_L) (hl : qv_ok l) (o : Nat) (ho : o = 12 ∨ o = 18) : ∀ m n i h, i + m = l 0 0 → m < n → qv_at h o l → h.1 43 0 = nI (l 0 0) → (∀ j, j < i → h.2.1 44 j = iL (qv_I l j) ∧ h.2.1 45 j = iL (qv_H l j) ∧ (j + 1 < l 0 0 → h.2.1 46 j = iL (qv_K l j))) → ∃ h2, q_go e_36 X (q_sem (d + 4)) n 10 [(0, .ref 43), (1, .ref o), (2, .int (nI i))] [] h = some (h2, none) ∧ qr_at h2 l ∧ qr_fr [44, 45, 46] h h2 := by
  have hn8 := hl.1
  intro m
  induction m with
  | zero =>
    intro n i h hi hn hL h43 hj
    obtain ⟨n, rfl⟩ : ∃ n2, n = n2 + 1 := ⟨n - 1, by omega⟩
    have e : i = l 0 0 := by omega
    refine ⟨h, ?_, ⟨h43, fun j hjn => hj j (by omega)⟩, qr_fr_rf _ _⟩
    rcases ho with rfl | rfl
    · rw [b36_10, h43, if_neg (nI_nlt (by omega) (by omega))]
    · rw [b36_10_1, h43, if_neg (nI_nlt (by omega) (by omega))]
  | succ m ih =>
    intro n i h hi hn hL h43 hj
    obtain ⟨n, rfl⟩ : ∃ n2, n = n2 + 1 := ⟨n - 1, by omega⟩
    have hil : i < l 0 0 := by omega
    have bI := qv_I_bd hl hil
    have bH := qv_H_bd hl hil
    have hlo : qv_ln o := ho.imp id Or.inl
    have f29 := s29 hlo d h l i hL hl hil
    have f32 : ∀ x, q_sem (d + 4) 32 (q_sl h 44 i x) [.ref o, .int (nI i)] = some (q_sl h 44 i x, some (.int (nI (qv_H l i)))) := fun x => s32 ho d _ l i hL hl hil
    have f31 : ∀ x y, q_sem (d + 4) 31 (q_sl (q_sl h 44 i x) 45 i y) [.ref o, .int (nI i)] = some (q_sl (q_sl h 44 i x) 45 i y, some (.int (nI (qv_K l i)))) := fun x y => s31 hlo (d + 1) _ l i hL (by omega)
    have e43 : ∀ x, (q_sl h 44 i x).1 43 0 = nI (l 0 0) := fun x => h43
    by_cases q : i + 1 < l 0 0
    · have bK := qv_K_bd hl q
      obtain ⟨h2, g1, g2, g3⟩ := ih n (i + 1) (q_sl (q_sl (q_sl h 44 i (iL (qv_I l i))) 45 i (iL (qv_H l i))) 46 i (iL (qv_K l i))) (by omega) (by omega) hL h43 (by
        intro j hjn
        rcases Nat.lt_or_ge j i with p | p
        · obtain ⟨a1, a2, a3⟩ := hj j p
          refine ⟨?_, ?_, fun z => ?_⟩
          · rw [qr_sl_ne (by omega), qr_sl_ne (by omega), qr_sl_ne (by omega)]; exact a1
          · rw [qr_sl_ne (by omega), qr_sl_ne (by omega), qr_sl_ne (by omega)]; exact a2
          · rw [qr_sl_ne (by omega), qr_sl_ne (by omega), qr_sl_ne (by omega)]; exact a3 z
        · have e : j = i := by omega
          subst e
          refine ⟨?_, ?_, fun z => ?_⟩
          · rw [qr_sl_ne (by omega), qr_sl_ne (by omega), qr_sl_eq]
          · rw [qr_sl_ne (by omega), qr_sl_eq]
          · rw [qr_sl_eq])
      refine ⟨h2, ?_, g2, qr_fr_tr (qr_fr_tr (qr_fr_tr (qr_fr_sl (by decide)) (qr_fr_sl (by decide))) (qr_fr_sl (by decide))) g3⟩
      rw [← g1]
      rcases ho with rfl | rfl
      · rw [b36_10, h43, if_pos (nI_lt hil (by omega)), f29, q_c1_s, q_ix_n (by omega) (by decide), f32, q_c1_s, q_ix_n (by omega) (by decide), e43, if_pos ((nI_ltm (by omega) (by omega)).mpr q), f31, q_c1_s, q_ix_n (by omega) (by decide), nI_p1, nI_L (by omega), nI_L (by omega), nI_L (by omega)]
      · rw [b36_10_1, h43, if_pos (nI_lt hil (by omega)), f29, q_c1_s, q_ix_n (by omega) (by decide), f32, q_c1_s, q_ix_n (by omega) (by decide), e43, if_pos ((nI_ltm (by omega) (by omega)).mpr q), f31, q_c1_s, q_ix_n (by omega) (by decide), nI_p1, nI_L (by omega), nI_L (by omega), nI_L (by omega)]
    · obtain ⟨h2, g1, g2, g3⟩ := ih n (i + 1) (q_sl (q_sl (q_sl h 44 i (iL (qv_I l i))) 45 i (iL (qv_H l i))) 46 i (Int64.ofNat 0)) (by omega) (by omega) hL h43 (by
        intro j hjn
        rcases Nat.lt_or_ge j i with p | p
        · obtain ⟨a1, a2, a3⟩ := hj j p
          refine ⟨?_, ?_, fun z => ?_⟩
          · rw [qr_sl_ne (by omega), qr_sl_ne (by omega), qr_sl_ne (by omega)]; exact a1
          · rw [qr_sl_ne (by omega), qr_sl_ne (by omega), qr_sl_ne (by omega)]; exact a2
          · rw [qr_sl_ne (by omega), qr_sl_ne (by omega), qr_sl_ne (by omega)]; exact a3 z
        · have e : j = i := by omega
          subst e
          refine ⟨?_, ?_, fun z => ?_⟩
          · rw [qr_sl_ne (by omega), qr_sl_ne (by omega), qr_sl_eq]
          · rw [qr_sl_ne (by omega), qr_sl_eq]
          · exact absurd z q)
      refine ⟨h2, ?_, g2, qr_fr_tr (qr_fr_tr (qr_fr_tr (qr_fr_sl (by decide)) (qr_fr_sl (by decide))) (qr_fr_sl (by decide))) g3⟩
      rw [← g1]
      rcases ho with rfl | rfl
      · rw [b36_10, h43, if_pos (nI_lt hil (by omega)), f29, q_c1_s, q_ix_n (by omega) (by decide), f32, q_c1_s, q_ix_n (by omega) (by decide), e43, if_neg (fun z => q ((nI_ltm (by omega) (by omega)).mp z)), q_ix_n (by omega) (by decide), nI_p1, nI_L (by omega), nI_L (by omega)]
      · rw [b36_10_1, h43, if_pos (nI_lt hil (by omega)), f29, q_c1_s, q_ix_n (by omega) (by decide), f32, q_c1_s, q_ix_n (by omega) (by decide), e43, if_neg (fun z => q ((nI_ltm (by omega) (by omega)).mp z)), q_ix_n (by omega) (by decide), nI_p1, nI_L (by omega), nI_L (by omega)]
/-- h2 is h but for cell 43's number and the longs of 44 .. 56 -/
def qr_sc (h h2 : q_S) : Prop := (∀ a j, ¬ (a = 43 ∧ j = 0) → h2.1 a j = h.1 a j) ∧ h2.2.2 = h.2.2 ∧ ∀ a, (a < 44 ∨ 56 < a) → h2.2.1 a = h.2.1 a
theorem qr_sc_rf (h : q_S) : qr_sc h h := ⟨fun _ _ _ => rfl, rfl, fun _ _ => rfl⟩
theorem qr_sc_tr {a b c : q_S} (h1 : qr_sc a b) (h2 : qr_sc b c) : qr_sc a c := ⟨fun x j hx => (h2.1 x j hx).trans (h1.1 x j hx), h2.2.1.trans h1.2.1, fun x hx => (h2.2.2 x hx).trans (h1.2.2 x hx)⟩
theorem qr_sc_at {h h2 : q_S} {o : Nat} {l : qv_L} (hs : qr_sc h h2) (ho : qv_ln o) (hL : qv_at h o l) : qv_at h2 o l := by
  obtain ⟨a1, a2, a3, a4⟩ := hL
  have e : ∀ a j, a ≠ 43 → h2.1 a j = h.1 a j := fun a j ha => hs.1 a j (fun q => ha q.1)
  rcases ho with rfl | rfl | rfl <;> refine ⟨?_, ?_, ?_, fun a i h1 h2 h3 => ?_⟩
  all_goals first | (rw [e _ _ (by decide)]; assumption) | (rw [e _ _ (by omega)]; exact a4 a i h1 h2 h3)
theorem s36 (d : Nat) (h : q_S) (l : qv_L) (hl : qv_ok l) {o : Nat} (ho : o = 12 ∨ o = 18) (hL : qv_at h o l) : ∃ h2, q_sem (d + 5) 36 h [.ref 43, .ref o] = some (h2, none) ∧ qr_at h2 l ∧ qr_sc h h2 ∧ (∀ a, 48 ≤ a → h2.2.1 a = h.2.1 a) := by
  have hn8 := hl.1
  have hlo : qv_ln o := ho.imp id Or.inl
  have hL2 : qv_at (q_si h 43 0 (nI (l 0 0))) o l := by
    refine qr_sc_at (h := h) ⟨fun a j hn => ?_, rfl, fun _ _ => rfl⟩ hlo hL
    simp only [q_si]
    rw [if_neg hn]
  obtain ⟨h2, g1, g2, g3⟩ := l36 q_X0 d l hl o ho (l 0 0) 999 0 (q_si h 43 0 (nI (l 0 0))) (by omega) (by omega) hL2 (by simp [q_si]) (fun j hj => absurd hj (by omega))
  have e0 := hL.1
  refine ⟨h2, ?_, g2, ⟨fun a j hn => ?_, g3.2.1, fun a ha => ?_⟩, fun a ha => ?_⟩
  · rcases ho with rfl | rfl
    · rw [m36, e0]; exact g1
    · rw [m36_1, e0]; exact g1
  · rw [g3.1]
    simp only [q_si]
    rw [if_neg hn]
  · rw [g3.2.2 a (by simp; omega)]; rfl
  · rw [g3.2.2 a (by simp; omega)]; rfl
-- rows
abbrev qw30 : Int := 1073741824
def qr_row (h : q_S) (r : Nat) (E : Int) : Prop := ∀ j, j < 9 → h.2.1 (48 + r) j = iL (qm_lim qw30 E (max r 1) j)
/-- what was never written is 0 -/
def qr_z (h : q_S) : Prop := ∀ r j, r < j → j < 9 → h.2.1 (48 + r) j = iL 0
theorem q_lb {j : Nat} (h : j < 9) : q_rf 47 j = 48 + j ∧ q_ty (48 + j) = 1 ∧ q_ln (48 + j) = 9 := by
  have : ∀ i, i < 9 → q_rf 47 i = 48 + i ∧ q_ty (48 + i) = 1 ∧ q_ln (48 + i) = 9 := by decide +kernel
  exact this j h
theorem qr_row0 {h : q_S} (hz : qr_z h) (h0 : h.2.1 48 0 = iL 1) : qr_row h 0 1 := by
  intro j hj
  rcases Nat.eq_zero_or_pos j with e | e
  · subst e
    rw [show (48 + 0 : Nat) = 48 from rfl, h0]
    rfl
  · rw [hz 0 j e hj]
    unfold qm_lim
    rw [if_neg (by omega)]
    split
    · rw [show (1 : Int) / qw30 ^ (max 0 1) = 0 by decide]
    · rfl
