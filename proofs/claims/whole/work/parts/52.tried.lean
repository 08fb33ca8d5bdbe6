/-! ===== tried ===== -/
def qa_c (l l' : qv_L) (x y z : Int32) : Prop := ∀ (d : Nat) (h : q_S), qv_at h 18 l → ∃ v, q_sem (d + 3) 22 h [.ref 18, .int x, .int y, .int z] = some (h, some (.int v)) ∧ ((v ≠ 0 ∧ l' = l) ∨ (v = 0 ∧ ∃ h2, q_sem (d + 3) 24 h [.ref 18, .int x, .int y, .int z] = some (h2, none) ∧ qv_at h2 18 l' ∧ (∀ a j, ¬ (18 ≤ a ∧ a ≤ 23) → h2.1 a j = h.1 a j) ∧ h2.2 = h.2))
def qa_r (l l' : qv_L) (x y z : Int32) : Prop := ∀ (d : Nat) (h : q_S), qw_at h l → ∃ v, q_sem (d + 4) 143 h [.ref 67, .int x, .int y, .int z] = some (h, some (.int v)) ∧ ((v ≠ 0 ∧ l' = l) ∨ (v = 0 ∧ ∃ h2, q_sem (d + 4) 139 h [.ref 67, .int x, .int y, .int z] = some (h2, none) ∧ qw_at h2 l' ∧ (∀ a j, ¬ ((a = 67 ∧ j < 3) ∨ (68 ≤ a ∧ a ≤ 72)) → h2.1 a j = h.1 a j) ∧ h2.2 = h.2))
theorem put_00 (l : qv_L) {w : Nat} (hw : w ≤ 5) (k v : Nat) : qv_put l w k v 0 0 = l 0 0 := by
  rcases q6 hw with rfl | rfl | rfl | rfl | rfl | rfl
  · rw [put_0, ql_ne (by omega)]
  · rw [put_1, ql_ne (by omega)]
  · rw [put_2, ql_ne (by omega)]
  · rw [put_3, ql_ne (by omega)]
  · rw [put_4, ql_ne (by omega)]
  · rw [put_5, ql_ne (by omega)]
theorem qa {l : qv_L} (hl : qv_ok l) (x y z : Int32) : ∃ l', qv_ok l' ∧ l' 0 0 = l 0 0 ∧ qa_c l l' x y z ∧ qa_r l l' x y z := by
  have h8 := hl.1
  by_cases hx : ∃ w, w ≤ 5 ∧ x = nI w
  · obtain ⟨w, hw, rfl⟩ := hx
    by_cases g : qg_pl l w y ∧ qg_v w z
    · obtain ⟨k, hk, hy, hd, hsf⟩ := qg_plN h8 g.1
      obtain ⟨v, hv1, hv2, rfl⟩ := qg_vN g.2
      by_cases r : w = 3 ∧ 6 < qv_but l k (l 0 0 - 1) * v
      · obtain ⟨rfl, r⟩ := r
        have hk1 := hsf (by omega)
        have e := hy (by omega)
        subst e
        have hv6 : v ≤ 6 := hv2
        exact ⟨l, hl, rfl, fun d h hc => ⟨-5, s22s_18 _ hl hc hk1 g.1 g.2 hv6 (but_6 hl hk1) r, Or.inl ⟨by decide, rfl⟩⟩, fun d h hc => ⟨-5, s143s _ hl hc hk1 g.1 g.2 hv6 r, Or.inl ⟨by decide, rfl⟩⟩⟩
      · have r3 : w = 3 → qv_but l k (l 0 0 - 1) * v ≤ 6 := fun q => by
          rcases Nat.lt_or_ge 6 (qv_but l k (l 0 0 - 1) * v) with p | p
          · exact absurd ⟨q, p⟩ r
          · exact p
        refine ⟨qv_put l w k v, ok_put hl hw hk hd hsf hv1 hv2 r3, put_00 l hw k v, fun d h hc => ⟨0, s22p_18 _ hl hc hw hy (fun q => hsf (by omega)) g.1 g.2 r3, Or.inr ⟨rfl, s24_18 (d + 2) hc hw hk hy v⟩⟩, fun d h hc => ⟨0, s143p _ hl hc hw hy (fun q => hsf (by omega)) g.1 g.2 r3, Or.inr ⟨rfl, s139 (d + 3) hc hw hk hy v⟩⟩⟩
    · exact ⟨l, hl, rfl, fun d h hc => ⟨-1, s22n_18 _ hc hw g, Or.inl ⟨by decide, rfl⟩⟩, fun d h hc => ⟨-1, s143n _ hl hc hw g, Or.inl ⟨by decide, rfl⟩⟩⟩
  · have hy : ∀ w, w ≤ 5 → x ≠ nI w := fun w a b => hx ⟨w, a, b⟩
    exact ⟨l, hl, rfl, fun d h hc => ⟨-1, s22o_18 _ _ hy _ _, Or.inl ⟨by decide, rfl⟩⟩, fun d h hc => ⟨-1, s143o _ _ hy _ _, Or.inl ⟨by decide, rfl⟩⟩⟩
theorem l84 (t : qT) (w : Nat) (hw : w ≤ 8) (et : t 0 0 = nI w) (k q : Int32) : ∀ m i (l : qv_L), i + m = w → qv_ok l → ∃ l', qv_ok l' ∧ l' 0 0 = l 0 0 ∧ (∀ (d f : Nat) (h0 h : q_S), qv_at h 18 l → qs_c3 h t → qc_sc h0 h → qr_z h → ∃ h2, q_go e_84 q_X0 (q_sem (d + 6)) (f + 1 + m) 33 [(0, .ref 0), (1, .int k), (2, .int q), (3, .int (nI i))] [] h = q_go e_84 q_X0 (q_sem (d + 6)) (f + 1) 33 [(0, .ref 0), (1, .int k), (2, .int q), (3, .int (nI w))] [] h2 ∧ qv_at h2 18 l' ∧ qs_c3 h2 t ∧ qc_sc h0 h2 ∧ qr_z h2) ∧ (∀ (d f : Nat) (h0 h : q_S), qw_at h l → qs_r3 h t → qy h0 h → ∃ h2, q_go e_181 q_X0 (q_sem (d + 6)) (f + 1 + m) 19 [(0, .ref 67), (1, .int k), (2, .int q), (3, .int (nI i))] [] h = q_go e_181 q_X0 (q_sem (d + 6)) (f + 1) 19 [(0, .ref 67), (1, .int k), (2, .int q), (3, .int (nI w))] [] h2 ∧ qw_at h2 l' ∧ qs_r3 h2 t ∧ qy h0 h2) := by
  intro m
  induction m with
  | zero =>
    intro i l hi hl
    have : i = w := by omega
    subst this
    exact ⟨l, hl, rfl, fun d f h0 h a b c e => ⟨h, rfl, a, b, c, e⟩, fun d f h0 h a b c => ⟨h, rfl, a, b, c⟩⟩
  | succ m ih =>
    intro i l hi hl
    obtain ⟨l1, k1, k2, kc, kr⟩ := qa hl (t 1 i) (t 2 i) (t 3 i)
    obtain ⟨l', j1, j2, jc, jr⟩ := ih (i + 1) l1 (by omega) k1
    refine ⟨l', j1, j2.trans k2, fun d f h0 h a b c e => ?_, fun d f h0 h a b c => ?_⟩
    · obtain ⟨v, v1, v2⟩ := kc (d + 3) h a
      rw [show f + 1 + (m + 1) = (f + 1 + m) + 1 by omega, b84_33, b.1, et, if_pos (by rw [nI_lt_iff (by omega) (by omega)]; omega), nI_p1]
      simp only [q_ix_n (show i < 8 by omega) (show 8 < 2147483648 by decide)]
      rw [show h.1 31 i = t 1 i from b.2 0 i (by omega) (by omega), show h.1 32 i = t 2 i from b.2 1 i (by omega) (by omega), show h.1 33 i = t 3 i from b.2 2 i (by omega) (by omega), v1, q_c1_s]
      rcases v2 with ⟨v0, rfl⟩ | ⟨v0, h2, g1, g2, g3, g4⟩
      · rw [if_neg v0]
        exact jc d f h0 h a b c e
      · rw [if_pos v0, show h.1 31 i = t 1 i from b.2 0 i (by omega) (by omega), show h.1 32 i = t 2 i from b.2 1 i (by omega) (by omega), show h.1 33 i = t 3 i from b.2 2 i (by omega) (by omega), g1, q_c0_s]
        exact jc d f h0 h2 g2 (f_c3 (fun a j q => g3 a j (by omega)) (fun _ _ _ => rfl) b) (qc_sc_tr c (qc_fr g3 g4)) (qz_fr2 g4 e)
    · obtain ⟨v, v1, v2⟩ := kr (d + 2) h a
      rw [show f + 1 + (m + 1) = (f + 1 + m) + 1 by omega, b181_19, b.1, et, if_pos (by rw [nI_lt_iff (by omega) (by omega)]; omega), nI_p1]
      simp only [q_ix_n (show i < 8 by omega) (show 8 < 2147483648 by decide)]
      rw [show h.1 89 i = t 1 i from b.2 0 i (by omega) (by omega), show h.1 90 i = t 2 i from b.2 1 i (by omega) (by omega), show h.1 91 i = t 3 i from b.2 2 i (by omega) (by omega), v1, q_c1_s]
      rcases v2 with ⟨v0, rfl⟩ | ⟨v0, h2, g1, g2, g3, g4⟩
      · rw [if_neg v0]
        exact jr d f h0 h a b c
      · rw [if_pos v0, show h.1 89 i = t 1 i from b.2 0 i (by omega) (by omega), show h.1 90 i = t 2 i from b.2 1 i (by omega) (by omega), show h.1 91 i = t 3 i from b.2 2 i (by omega) (by omega), g1, q_c0_s]
        exact jr d f h0 h2 g2 (f_r3 (fun a j q => g3 a j (by omega)) (fun _ _ _ => rfl) b) (qy_tr c ⟨fun a j _ p q _ => g3 a j (by omega), fun a j _ => by rw [g4]⟩)
