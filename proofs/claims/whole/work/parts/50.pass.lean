/-! ===== the reference keeps and takes back: passesAll ===== -/
theorem gm201 {A : Nat} (hA : (68 ≤ A ∧ A ≤ 72) ∨ (89 ≤ A ∧ A ≤ 91)) (d : Nat) (h : q_S)  : q_sem (d + 1) 201 h [.ref 67, .ref A] =
  q_go e_201 q_X0 (q_sem d) 999 2 [(0, .ref 67), (1, .ref A), (2, .int 0)] [] h := by
  rcases (by omega : A = 68 ∨ A = 69 ∨ A = 70 ∨ A = 71 ∨ A = 72 ∨ A = 89 ∨ A = 90 ∨ A = 91) with rfl | rfl | rfl | rfl | rfl | rfl | rfl | rfl
  · exact m201 ..
  · exact m201_1 ..
  · exact m201_2 ..
  · exact m201_3 ..
  · exact m201_4 ..
  · exact m201_5 ..
  · exact m201_6 ..
  · exact m201_7 ..
theorem gb201_2 {A : Nat} (hA : (68 ≤ A ∧ A ≤ 72) ∨ (89 ≤ A ∧ A ≤ 91)) (X : q_X) (O : q_O) (n : Nat) (h : q_S) (x2 : Int32) : q_go e_201 X O (n + 1) 2 [(0, .ref 67), (1, .ref A), (2, .int x2)] [] h =
  if x2 < 8 then
    q_ix x2 8 (fun j1 =>
    q_c1 (O 200 h [.ref 67, .int (h.1 A j1)]) (fun h2 v3 =>
    q_ix x2 8 (fun j4 =>
    q_go e_201 X O n 2 [(0, .ref 67), (1, .ref A), (2, .int (x2 + 1))] [] (q_si h2 A j4 v3))))
  else
    some (h, none) := by
  rcases (by omega : A = 68 ∨ A = 69 ∨ A = 70 ∨ A = 71 ∨ A = 72 ∨ A = 89 ∨ A = 90 ∨ A = 91) with rfl | rfl | rfl | rfl | rfl | rfl | rfl | rfl
  · exact b201_2 ..
  · exact b201_2_1 ..
  · exact b201_2_2 ..
  · exact b201_2_3 ..
  · exact b201_2_4 ..
  · exact b201_2_5 ..
  · exact b201_2_6 ..
  · exact b201_2_7 ..
def qk_c (p : Nat) : Nat := if p < 4 then 67 else if p < 44 then 68 + (p - 4) / 8 else 89 + (p - 44) / 8
def qk_i (p : Nat) : Nat := if p < 3 then p else if p = 3 then 26 else (p - 4) % 8
theorem qk_inj : ∀ p, p < 68 → ∀ p', p' < 68 → qk_c p = qk_c p' ∧ qk_i p = qk_i p' → p = p' := by decide +kernel
theorem qk_rng : ∀ p, p < 68 → (qk_c p = 67 ∧ (qk_i p < 3 ∨ qk_i p = 26)) ∨ (68 ≤ qk_c p ∧ qk_c p ≤ 72 ∧ qk_i p < 8) ∨ (89 ≤ qk_c p ∧ qk_c p ≤ 91 ∧ qk_i p < 8) := by decide +kernel
/-- what place p comes to -/
def qk_V (h0 : q_S) (g c0 p : Nat) : Int32 := if g = 1 then h0.1 (qk_c p) (qk_i p) else h0.1 98 (c0 + p)
def qk_inv (h0 : q_S) (g c0 p : Nat) (h : q_S) : Prop := h.1 67 44 = nI (c0 + p) ∧ h.1 67 46 = nI g ∧ (∀ r, r < p → h.1 (qk_c r) (qk_i r) = qk_V h0 g c0 r ∧ h.1 98 (c0 + r) = qk_V h0 g c0 r) ∧ (∀ r, p ≤ r → r < 68 → h.1 (qk_c r) (qk_i r) = h0.1 (qk_c r) (qk_i r) ∧ h.1 98 (c0 + r) = h0.1 98 (c0 + r)) ∧ (∀ a j, ¬ (a = 67 ∧ (j < 3 ∨ j = 26 ∨ j = 44 ∨ j = 46)) → ¬ (68 ≤ a ∧ a ≤ 72) → ¬ (89 ≤ a ∧ a ≤ 91) → ¬ (a = 98 ∧ c0 ≤ j ∧ j < c0 + 68) → h.1 a j = h0.1 a j) ∧ h.2 = h0.2
theorem s200 (d : Nat) {h0 h : q_S} {g c0 p : Nat} (hg : g ≤ 1) (hc : c0 ≤ 70) (hp : p < 68) (iv : qk_inv h0 g c0 p h) : ∃ h2, q_sem (d + 1) 200 h [.ref 67, .int (h.1 (qk_c p) (qk_i p))] = some (h2, some (.int (qk_V h0 g c0 p))) ∧ qk_inv h0 g c0 (p + 1) (q_si h2 (qk_c p) (qk_i p) (qk_V h0 g c0 p)) := by
  obtain ⟨e1, e2, e3, e4, e5, e6⟩ := iv
  have rp := qk_rng p hp
  refine ⟨q_si (q_si h 98 (c0 + p) (qk_V h0 g c0 p)) 67 44 (nI (c0 + (p + 1))), ?_, ?_, ?_, ?_, ?_, ?_, e6⟩
  · rw [m200, e1, e2, q_ix_n (by omega) (by decide)]
    have ep := e4 p (by omega) hp
    rcases (by omega : g = 0 ∨ g = 1) with rfl | rfl
    · rw [if_pos (by decide), b200_20, e1, q_ix_n (by omega) (by decide), ep.2, nI_p1, Nat.add_assoc]
      rfl
    · rw [if_neg (by decide), b200_20, e1, q_ix_n (by omega) (by decide), ep.1, nI_p1, Nat.add_assoc]
      rfl
  · rw [qw_si_ne (by omega), qw_si_eq]
  · rw [qw_si_ne (by omega), qw_si_ne (by omega), qw_si_ne (by omega), e2]
  · intro r hr
    by_cases z : r = p
    · subst z
      refine ⟨qw_si_eq _ _ _ _, ?_⟩
      rw [qw_si_ne (by omega), qw_si_ne (by omega), qw_si_eq]
    · have rr := qk_rng r (by omega)
      have := e3 r (by omega)
      refine ⟨?_, ?_⟩
      · rw [qw_si_ne (fun q => z (qk_inj r (by omega) p hp q)), qw_si_ne (by omega), qw_si_ne (by omega)]
        exact this.1
      · rw [qw_si_ne (by omega), qw_si_ne (by omega), qw_si_ne (by omega)]
        exact this.2
  · intro r hr h68
    have rr := qk_rng r h68
    have := e4 r (by omega) h68
    refine ⟨?_, ?_⟩
    · rw [qw_si_ne (fun q => absurd (qk_inj r h68 p hp q) (by omega)), qw_si_ne (by omega), qw_si_ne (by omega)]
      exact this.1
    · rw [qw_si_ne (by omega), qw_si_ne (by omega), qw_si_ne (by omega)]
      exact this.2
  · intro a j q1 q2 q3 q4
    rw [qw_si_ne (by omega), qw_si_ne (by omega), qw_si_ne (by omega)]
    exact e5 a j q1 q2 q3 q4
theorem qk_arr : ∀ k, k < 8 → ∀ i, i < 8 → qk_c (4 + 8 * k + i) = (if k < 5 then 68 + k else 84 + k) ∧ qk_i (4 + 8 * k + i) = i := by decide +kernel
theorem l201 (X : q_X) (d : Nat) {h0 : q_S} {g c0 : Nat} (hg : g ≤ 1) (hc : c0 ≤ 70) (k : Nat) (hk : k < 8) (A : Nat) (hA : A = if k < 5 then 68 + k else 84 + k) : ∀ m f i h, i + m = 8 → m < f → qk_inv h0 g c0 (4 + 8 * k + i) h → ∃ h2, q_go e_201 X (q_sem (d + 1)) f 2 [(0, .ref 67), (1, .ref A), (2, .int (nI i))] [] h = some (h2, none) ∧ qk_inv h0 g c0 (4 + 8 * (k + 1)) h2 := by
  have hA2 : (68 ≤ A ∧ A ≤ 72) ∨ (89 ≤ A ∧ A ≤ 91) := by
    rw [hA]
    split <;> omega
  intro m
  induction m with
  | zero =>
    intro f i h hi hf iv
    obtain ⟨f, rfl⟩ : ∃ g, f = g + 1 := ⟨f - 1, by omega⟩
    have : i = 8 := by omega
    subst this
    exact ⟨h, by rw [gb201_2 hA2, if_neg (by decide)], iv⟩
  | succ m ih =>
    intro f i h hi hf iv
    obtain ⟨f, rfl⟩ : ∃ g, f = g + 1 := ⟨f - 1, by omega⟩
    obtain ⟨h2, a1, a2⟩ := s200 d hg hc (p := 4 + 8 * k + i) (by omega) iv
    obtain ⟨b1, b2⟩ := qk_arr k hk i (by omega)
    rw [b1, b2, ← hA] at a1 a2
    rw [gb201_2 hA2, if_pos (by rw [show (8 : Int32) = nI 8 from rfl, nI_lt_iff (by omega) (by omega)]; omega), q_ix_n (by omega) (by decide), a1, q_c1_s, q_ix_n (by omega) (by decide), nI_p1]
    exact ih f (i + 1) _ (by omega) (by omega) a2
theorem s201 (d : Nat) {h0 : q_S} {g c0 : Nat} (hg : g ≤ 1) (hc : c0 ≤ 70) (k : Nat) (hk : k < 8) (A : Nat) (hA : A = if k < 5 then 68 + k else 84 + k) {h : q_S} (iv : qk_inv h0 g c0 (4 + 8 * k) h) : ∃ h2, q_sem (d + 2) 201 h [.ref 67, .ref A] = some (h2, none) ∧ qk_inv h0 g c0 (4 + 8 * (k + 1)) h2 := by
  have hA2 : (68 ≤ A ∧ A ≤ 72) ∨ (89 ≤ A ∧ A ≤ 91) := by
    rw [hA]
    split <;> omega
  rw [gm201 hA2]
  exact l201 _ d hg hc k hk A hA 8 999 0 h (by omega) (by omega) iv
theorem s202 (d : Nat) (h : q_S) {g w : Nat} (hg : g ≤ 1) (hw : w ≤ 1) : ∃ h2, q_sem (d + 3) 202 h [.ref 67, .int (nI w), .int (nI g)] = some (h2, none) ∧ qk_inv h g (70 * w) 68 h2 := by
  have i0 : qk_inv h g (70 * w) 0 (q_si (q_si h 67 44 (nI (70 * w))) 67 46 (nI g)) := by
    refine ⟨by rw [qw_si_ne (by omega), qw_si_eq]; rfl, qw_si_eq _ _ _ _, fun r hr => absurd hr (by omega), fun r _ hr => ?_, fun a j q _ _ _ => by rw [qw_si_ne (by omega), qw_si_ne (by omega)], rfl⟩
    have := qk_rng r hr
    exact ⟨by rw [qw_si_ne (by omega), qw_si_ne (by omega)], by rw [qw_si_ne (by omega), qw_si_ne (by omega)]⟩
  have hc : 70 * w ≤ 70 := by omega
  obtain ⟨h1, a1, b1⟩ := s200 (d + 1) hg hc (p := 0) (by omega) i0
  obtain ⟨h2, a2, b2⟩ := s200 (d + 1) hg hc (p := 1) (by omega) b1
  obtain ⟨h3, a3, b3⟩ := s200 (d + 1) hg hc (p := 2) (by omega) b2
  obtain ⟨h4, a4, b4⟩ := s200 (d + 1) hg hc (p := 3) (by omega) b3
  obtain ⟨h5, a5, b5⟩ := s201 d hg hc 0 (by omega) 68 rfl b4
  obtain ⟨h6, a6, b6⟩ := s201 d hg hc 1 (by omega) 69 rfl b5
  obtain ⟨h7, a7, b7⟩ := s201 d hg hc 2 (by omega) 70 rfl b6
  obtain ⟨h8, a8, b8⟩ := s201 d hg hc 3 (by omega) 71 rfl b7
  obtain ⟨h9, a9, b9⟩ := s201 d hg hc 4 (by omega) 72 rfl b8
  obtain ⟨h10, a10, b10⟩ := s201 d hg hc 5 (by omega) 89 rfl b9
  obtain ⟨h11, a11, b11⟩ := s201 d hg hc 6 (by omega) 90 rfl b10
  obtain ⟨h12, a12, b12⟩ := s201 d hg hc 7 (by omega) 91 rfl b11
  refine ⟨h12, ?_, b12⟩
  have g01 : nI g = 0 ∨ nI g = 1 := by
    rcases (by omega : g = 0 ∨ g = 1) with rfl | rfl
    · exact Or.inl rfl
    · exact Or.inr rfl
  have k0 : qk_c 0 = 67 ∧ qk_i 0 = 0 ∧ qk_c 1 = 67 ∧ qk_i 1 = 1 ∧ qk_c 2 = 67 ∧ qk_i 2 = 2 ∧ qk_c 3 = 67 ∧ qk_i 3 = 26 := by decide
  obtain ⟨k1, k2, k3, k4, k5, k6, k7, k8⟩ := k0
  rw [k1, k2] at a1 a2 b1
  rw [k3, k4] at a2 a3
  rw [k5, k6] at a3 a4
  rw [k7, k8] at a4 a5
  have v0 : (q_si (q_si h 67 44 (nI (70 * w))) 67 46 (nI g)).1 67 0 = h.1 67 0 := by rw [qw_si_ne (by omega), qw_si_ne (by omega)]
  rw [v0] at a1
  rw [qw_si_ne (by omega)] at a2 a3 a4
  rw [m202, if_pos g01, show (70 : Int32) = nI 70 from rfl, pk_mul, a1, q_c1_s, a2, q_c1_s, a3, q_c1_s, a4, q_c1_s, a5, q_c0_s, a6, q_c0_s, a7, q_c0_s, a8, q_c0_s, a9, q_c0_s, a10, q_c0_s, a11, q_c0_s, a12, q_c0_s]
