/-! ===== the reference: a line reduced ===== -/
def qw_at (h : q_S) (l : qv_L) : Prop := h.1 67 0 = nI (l 0 0) ∧ h.1 67 1 = nI (l 0 1) ∧ h.1 67 2 = nI (l 0 2) ∧ ∀ a i, 1 ≤ a → a ≤ 5 → i < 8 → h.1 (67 + a) i = nI (l a i)
def qw_T : List Nat := [73, 74, 75, 76, 77, 79, 80]
/-- h2 is h but for what the reference works with -/
def qw_sc (h h2 : q_S) : Prop := (∀ a, a ∉ qw_T → h2.1 a = h.1 a) ∧ h2.2.2 = h.2.2 ∧ ∀ a, a ≠ 78 → h2.2.1 a = h.2.1 a
theorem qw_sc_rf (h : q_S) : qw_sc h h := ⟨fun _ _ => rfl, rfl, fun _ _ => rfl⟩
theorem qw_sc_tr {a b c : q_S} (h1 : qw_sc a b) (h2 : qw_sc b c) : qw_sc a c := ⟨fun x hx => (h2.1 x hx).trans (h1.1 x hx), h2.2.1.trans h1.2.1, fun x hx => (h2.2.2 x hx).trans (h1.2.2 x hx)⟩
theorem qw_sc_si {h : q_S} {a i : Nat} {x : Int32} (ha : a ∈ qw_T) : qw_sc h (q_si h a i x) := by
  refine ⟨fun b hb => ?_, rfl, fun _ _ => rfl⟩
  funext j
  have : b ≠ a := fun e => hb (e ▸ ha)
  simp [q_si, this]
theorem qw_sc_sl {h : q_S} {i : Nat} {x : Int64} : qw_sc h (q_sl h 78 i x) := by
  refine ⟨fun _ _ => rfl, rfl, fun b hb => ?_⟩
  funext j
  simp [q_sl, hb]
theorem qw_sc_at {h h2 : q_S} {l : qv_L} (hs : qw_sc h h2) (hL : qw_at h l) : qw_at h2 l := by
  obtain ⟨a1, a2, a3, a4⟩ := hL
  have e67 := hs.1 67 (by decide)
  refine ⟨by rw [e67]; exact a1, by rw [e67]; exact a2, by rw [e67]; exact a3, fun a i h1 h5 h3 => ?_⟩
  have t : ∀ b, b ≤ 5 → 67 + b ∉ qw_T := by decide
  rw [hs.1 (67 + a) (t a h5)]
  exact a4 a i h1 h5 h3
theorem qw_si_eq (h : q_S) (a i : Nat) (x : Int32) : (q_si h a i x).1 a i = x := by simp [q_si]
theorem qw_si_ne {h : q_S} {a i b j : Nat} {x : Int32} (hn : ¬ (b = a ∧ j = i)) : (q_si h a i x).1 b j = h.1 b j := by simp only [q_si]; rw [if_neg hn]
theorem s125 (d : Nat) (h : q_S) (l : qv_L) (i : Nat) (hL : qw_at h l) (hl : qv_ok l) (hi : i < 8) : q_sem (d + 1) 125 h [.ref 67, .int (nI i)] = some (h, some (.int (nI (qv_w l i)))) := by
  have hk := hl.2.2.2.1 i hi
  have hsp := hl.2.1
  have e1 : h.1 68 i = nI (l 1 i) := hL.2.2.2 1 i (by decide) (by decide) hi
  have e2 : h.1 69 i = nI (l 2 i) := hL.2.2.2 2 i (by decide) (by decide) hi
  have e3 : h.1 67 1 = nI (l 0 1) := hL.2.1
  have eh : (nI (l 2 i) + 1) / 2 = nI ((l 2 i + 1) / 2) := by
    rw [nI_p1, show (2 : Int32) = nI 2 from rfl, pk_div (by omega) (by decide) (by decide)]
  have em : (2 : Int32) * nI (l 2 i) = nI (l 2 i * 2) := by
    rw [show (2 : Int32) = nI 2 from rfl, pk_mul, Nat.mul_comm]
  have es : nI (l 0 1) / 2 = nI (l 0 1 / 2) := by
    rw [show (2 : Int32) = nI 2 from rfl, pk_div (by omega) (by decide) (by decide)]
  rw [m125, q_ix_n hi (by decide), if_neg (by decide), q_ix_n hi (by decide), q_ix_n hi (by decide), q_ix_n hi (by decide), q_ix_n hi (by decide), e1, e2, e3, eh, em, es]
  unfold qv_w qv_wg
  rcases (show l 1 i = 0 ∨ l 1 i = 1 ∨ l 1 i = 2 ∨ l 1 i = 3 ∨ l 1 i = 4 by omega) with e | e | e | e | e <;> rw [e]
  · rfl
  · rfl
  · rfl
  · show some (h, some (Value.int (nI (l 2 i * 2) + 3))) = _
    rw [show (3 : Int32) = nI 3 from rfl, nI_add]
    rfl
  · show _ = some (h, some (Value.int (nI (max 1 ((l 2 i + 1) / 2 - l 0 1 / 2)))))
    rw [if_neg (show ¬ nI 4 = (1 : Int32) by decide), if_neg (show ¬ nI 4 = (2 : Int32) by decide), if_neg (show ¬ nI 4 = (3 : Int32) by decide), if_pos (show nI 4 = (4 : Int32) from rfl), if_neg (show ¬ (2 : Nat) = 0 by decide), if_neg (show ¬ (2 : Nat) = 0 by decide)]
    by_cases q : l 0 1 / 2 ≤ (l 2 i + 1) / 2
    · rw [pk_sub q]
      by_cases z : (l 2 i + 1) / 2 - l 0 1 / 2 < 1
      · rw [if_pos (show nI ((l 2 i + 1) / 2 - l 0 1 / 2) < (1 : Int32) from nI_lt (b := 1) z (by decide)), show max 1 ((l 2 i + 1) / 2 - l 0 1 / 2) = 1 by omega]
        rfl
      · rw [if_neg (show ¬ nI ((l 2 i + 1) / 2 - l 0 1 / 2) < (1 : Int32) from nI_nlt (b := 1) (by omega) (by omega)), show max 1 ((l 2 i + 1) / 2 - l 0 1 / 2) = (l 2 i + 1) / 2 - l 0 1 / 2 by omega]
    · have h2 := pk_sneg (a := (l 2 i + 1) / 2) (b := l 0 1 / 2) (by omega) (by omega)
      rw [if_pos (Int32.lt_trans h2 (by decide)), show max 1 ((l 2 i + 1) / 2 - l 0 1 / 2) = 1 by omega]
      rfl
def qw_K (l : qv_L) (i : Nat) : Nat := if i + 1 < l 0 0 then qv_K l i else 0
def qw_ri (h : q_S) (l : qv_L) (i : Nat) : Prop := h.1 73 i = nI (qv_fac l i) ∧ h.1 74 i = nI (qv_I l i) ∧ h.1 75 i = nI (qv_G l i) ∧ h.1 76 i = nI (qw_K l i) ∧ h.1 77 i = nI (qv_H l i)
def qw_rd (h : q_S) (l : qv_L) : Prop := ∀ i, i < l 0 0 → qw_ri h l i
theorem qw_rat_s {l : qv_L} {i : Nat} (hi : i + 1 < l 0 0) : nI (qv_rat l i) * nI (l 5 i) = nI (qv_rat l (i + 1)) := pk_mul _ _
theorem l126 (X : q_X) (d : Nat) (l : qv_L) (hl : qv_ok l) (h0 : q_S) : ∀ m f i h, i + m = l 0 0 → 4 * m < f → qw_at h l → qw_sc h0 h → (∀ j, j < i → qw_ri h l j) →
    ∃ h2, q_go e_126 X (q_sem (d + 1)) f 4 [(0, .ref 67), (1, .int (nI (if i < l 0 0 then qv_rat l i else qv_rat l (l 0 0 - 1)))), (2, .int (nI i))] [] h = some (h2, none) ∧ qw_rd h2 l ∧ qw_sc h0 h2 := by
  have h8 := hl.1
  intro m
  induction m with
  | zero =>
    intro f i h hi hf hL hs hj
    obtain ⟨f, rfl⟩ : ∃ f2, f = f2 + 1 := ⟨f - 1, by omega⟩
    have e : i = l 0 0 := by omega
    refine ⟨h, ?_, fun j hjn => hj j (by omega), hs⟩
    rw [b126_4, hL.1, if_neg (nI_nlt (by omega) (by omega))]
  | succ m ih =>
    intro f i h hi hf hL hs hj
    obtain ⟨f, rfl⟩ : ∃ f2, f = f2 + 4 := ⟨f - 4, by omega⟩
    have hil : i < l 0 0 := by omega
    have hk := hl.2.2.2.1 i (by omega)
    have hw := qv_wg_bd (kind := l 1 i) (spin := l 0 1) (hl.2.2.2.2.1 i hil) hk.2.1
    have hin := qv_in_bd (way := l 0 2) hl.2.1 hw.1 hw.2
    have hm : qv_w l i * l 0 1 ≤ 201 * 9 := Nat.mul_le_mul hw.2 hl.2.1
    have hm2 : qv_w l i * l 0 1 ≤ qv_w l i * 9 := Nat.mul_le_mul_left _ hl.2.1
    have bH := qv_H_bd hl hil
    rw [if_pos hil]
    -- the state behind this disc
    obtain ⟨hA, eA⟩ : ∃ x, x = q_si h 73 i (nI (qv_fac l i)) := ⟨_, rfl⟩
    obtain ⟨hB, eB⟩ : ∃ x, x = q_si (q_si hA 74 i (nI (qv_I l i))) 75 i (nI (qv_G l i)) := ⟨_, rfl⟩
    obtain ⟨hC, eC⟩ : ∃ x, x = q_si hB 76 i (nI (qw_K l i)) := ⟨_, rfl⟩
    obtain ⟨hD, eD⟩ : ∃ x, x = q_si hC 77 i (nI (qv_H l i)) := ⟨_, rfl⟩
    have sA : qw_sc h hA := by rw [eA]; exact qw_sc_si (by decide)
    have sB : qw_sc hA hB := by rw [eB]; exact qw_sc_tr (qw_sc_si (by decide)) (qw_sc_si (by decide))
    have sC : qw_sc hB hC := by rw [eC]; exact qw_sc_si (by decide)
    have sD : qw_sc hC hD := by rw [eD]; exact qw_sc_si (by decide)
    have LA := qw_sc_at sA hL
    have LB := qw_sc_at sB LA
    have LC := qw_sc_at sC LB
    have LD := qw_sc_at sD LC
    have row : ∀ j, j < i + 1 → qw_ri hD l j := by
      intro j hjn
      rw [eD, eC, eB, eA]
      rcases Nat.lt_or_ge j i with q | q
      · obtain ⟨r1, r2, r3, r4, r5⟩ := hj j q
        refine ⟨?_, ?_, ?_, ?_, ?_⟩
        all_goals (rw [qw_si_ne (by omega), qw_si_ne (by omega), qw_si_ne (by omega), qw_si_ne (by omega), qw_si_ne (by omega)]; assumption)
      · have : j = i := by omega
        subst this
        refine ⟨?_, ?_, ?_, ?_, ?_⟩
        · rw [qw_si_ne (by omega), qw_si_ne (by omega), qw_si_ne (by omega), qw_si_ne (by omega), qw_si_eq]
        · rw [qw_si_ne (by omega), qw_si_ne (by omega), qw_si_ne (by omega), qw_si_eq]
        · rw [qw_si_ne (by omega), qw_si_ne (by omega), qw_si_eq]
        · rw [qw_si_ne (by omega), qw_si_eq]
        · rw [qw_si_eq]
    obtain ⟨h2, g1, g2, g3⟩ := ih f (i + 1) hD (by omega) (by omega) LD (qw_sc_tr (qw_sc_tr (qw_sc_tr (qw_sc_tr hs sA) sB) sC) sD) row
    refine ⟨h2, ?_, g2, g3⟩
    -- from the last cut back to the first
    have k4 : ∀ s0 s1 : Nat, s1 + s0 = qv_H l i → q_go e_126 X (q_sem (d + 1)) (f + 1) 171 [(0, .ref 67), (1, .int (nI (qv_rat l i))), (2, .int (nI i))] [.int (nI s0), .int (nI s1), .int (nI i), .ref 77] hC = some (h2, none) := by
      intro s0 s1 hs01
      rw [b126_171, q_ix_n (by omega) (by decide), LC.1, nI_add, hs01, ← eD]
      by_cases q : i + 1 < l 0 0
      · have e5 : hC.1 72 i = nI (l 5 i) := LC.2.2.2 5 i (by decide) (by decide) (by omega)
        rw [if_pos ((nI_ltm (by omega) (by omega)).mpr q), q_ix_n (by omega) (by decide), e5, qw_rat_s q, nI_p1, ← g1, if_pos q]
      · rw [if_neg (fun z => q ((nI_ltm (by omega) (by omega)).mp z)), Int32.mul_one, nI_p1, ← g1, if_neg q, show l 0 0 - 1 = i by omega]
    have k3 : q_go e_126 X (q_sem (d + 1)) (f + 2) 136 [(0, .ref 67), (1, .int (nI (qv_rat l i))), (2, .int (nI i))] [.int (nI (qw_K l i)), .int (nI i), .ref 76] hB = some (h2, none) := by
      have e75 : hB.1 75 i = nI (qv_G l i) := by rw [eB, qw_si_eq]
      rw [b126_136, q_ix_n (by omega) (by decide), q_ix_n (by omega) (by decide), q_ix_n (by omega) (by decide), ← eC, e75]
      have e76 : hC.1 76 i = nI (qw_K l i) := by rw [eC, qw_si_eq]
      rw [e76, nI_add]
      by_cases q : 0 < i
      · obtain ⟨j, rfl⟩ : ∃ j, i = j + 1 := ⟨i - 1, by omega⟩
        have e0 : hC.1 76 j = nI (qw_K l j) := by
          rw [eC, qw_si_ne (by omega), eB, qw_si_ne (by omega), qw_si_ne (by omega), eA, qw_si_ne (by omega)]
          exact (hj j (by omega)).2.2.2.1
        rw [if_pos ((nI_pos_iff (by omega)).mpr q), nI_m1, q_ix_n (by omega) (by decide), e0]
        refine k4 _ _ ?_
        unfold qw_K qv_H
        rw [if_pos q, if_pos (show j + 1 < l 0 0 by omega), Nat.add_sub_cancel]
        omega
      · rw [if_neg (fun z => q ((nI_pos_iff (by omega)).mp z))]
        refine k4 0 _ ?_
        unfold qw_K qv_H
        rw [if_neg q]
        omega
    have k2 : ∀ v : Nat, v = qv_in (l 0 2) (l 0 1) (qv_w l i) → q_go e_126 X (q_sem (d + 1)) (f + 3) 83 [(0, .ref 67), (1, .int (nI (qv_rat l i))), (2, .int (nI i))] [.int (nI v), .int (nI (qv_fac l i)), .int (nI i), .ref 74] hA = some (h2, none) := by
      intro v hv
      have e73 : hA.1 73 i = nI (qv_fac l i) := by rw [eA, qw_si_eq]
      have e70 : hA.1 70 i = nI (l 3 i) := LA.2.2.2 3 i (by decide) (by decide) (by omega)
      have e71 : hA.1 71 i = nI (l 4 i) := LA.2.2.2 4 i (by decide) (by decide) (by omega)
      have eI : qv_fac l i * v = qv_I l i := by rw [hv, Nat.mul_comm]; rfl
      have eG : qv_fac l i * l 3 i = qv_G l i := Nat.mul_comm _ _
      have eK : qv_fac l i * l 4 i = qv_K l i := Nat.mul_comm _ _
      rw [b126_83, q_ix_n (by omega) (by decide), q_ix_n (by omega) (by decide), q_ix_n (by omega) (by decide), q_ix_n (by omega) (by decide), LA.1, pk_mul, eI, e73, e70, pk_mul, eG, ← eB]
      by_cases q : i + 1 < l 0 0
      · rw [if_pos ((nI_ltm (by omega) (by omega)).mpr q), q_ix_n (by omega) (by decide), q_ix_n (by omega) (by decide), e73, e71, pk_mul, eK]
        have := k3
        unfold qw_K at this
        rw [if_pos q] at this
        exact this
      · rw [if_neg (fun z => q ((nI_ltm (by omega) (by omega)).mp z))]
        have := k3
        unfold qw_K at this
        rw [if_neg q] at this
        exact this
    have e2 : h.1 67 2 = nI (l 0 2) := hL.2.2.1
    have e1 : h.1 67 1 = nI (l 0 1) := hL.2.1
    have ef : nI (qv_rat l i) * nI (qv_rat l i) = nI (qv_fac l i) := pk_mul _ _
    rw [b126_4, hL.1, if_pos (nI_lt hil (by omega)), s125 d h l i hL hl (by omega), q_c1_s, q_ix_n (by omega) (by decide), q_ix_n (by omega) (by decide), e2, e1, ef, ← eA]
    have e73 : hA.1 73 i = nI (qv_fac l i) := by rw [eA, qw_si_eq]
    rw [e73, pk_mul, show (20 : Int32) = nI 20 from rfl, pk_div (by omega) (by decide) (by decide), show (10 : Int32) = nI 10 from rfl, pk_div (by omega) (by decide) (by decide), pk_sub (by omega), nI_add]
    have hway := hl.2.2.1
    rcases (show l 0 2 = 0 ∨ l 0 2 = 1 ∨ l 0 2 = 2 by omega) with e | e | e
    · rw [e, if_neg (show ¬ nI 0 = (1 : Int32) by decide), if_neg (show ¬ nI 0 = (2 : Int32) by decide)]
      exact k2 _ (by unfold qv_in; rw [e]; rfl)
    · rw [e, if_pos (show nI 1 = (1 : Int32) from rfl), if_neg (show ¬ (20 : Nat) = 0 by decide)]
      exact k2 _ (by unfold qv_in; rw [e]; rfl)
    · rw [e, if_neg (show ¬ nI 2 = (1 : Int32) by decide), if_pos (show nI 2 = (2 : Int32) from rfl), if_neg (show ¬ (10 : Nat) = 0 by decide)]
      exact k2 _ (by unfold qv_in; rw [e]; rfl)
theorem s126 (d : Nat) (h : q_S) (l : qv_L) (hl : qv_ok l) (hL : qw_at h l) : ∃ h2, q_sem (d + 2) 126 h [.ref 67] = some (h2, none) ∧ qw_rd h2 l ∧ qw_sc h h2 := by
  have h8 := hl.1
  obtain ⟨h2, g1, g2⟩ := l126 q_X0 d l hl h (l 0 0) 999 0 h (by omega) (by omega) hL (qw_sc_rf h) (fun j hj => absurd hj (by omega))
  refine ⟨h2, ?_, g2⟩
  have e : (if 0 < l 0 0 then qv_rat l 0 else qv_rat l (l 0 0 - 1)) = 1 := by
    by_cases q : 0 < l 0 0
    · rw [if_pos q]; rfl
    · rw [if_neg q, show l 0 0 - 1 = 0 by omega]; rfl
  rw [e] at g1
  rw [m126]
  exact g1
theorem l127 (X : q_X) (O : q_O) (l : qv_L) (hl : qv_ok l) (h : q_S) (hL : qw_at h l) : ∀ m f i, i + m = l 0 0 - 1 → m < f → q_go e_127 X O f 4 [(0, .ref 67), (1, .int (nI (qv_rat l i))), (2, .int (nI i))] [] h = some (h, some (.int (nI (qv_rat l (l 0 0 - 1))))) := by
  have h8 := hl.1
  intro m
  induction m with
  | zero =>
    intro f i hi hf
    obtain ⟨f, rfl⟩ : ∃ f2, f = f2 + 1 := ⟨f - 1, by omega⟩
    rw [b127_4, hL.1, if_neg (fun z => by have := (nI_ltm (by omega) (by omega)).mp z; omega), show i = l 0 0 - 1 by omega]
  | succ m ih =>
    intro f i hi hf
    obtain ⟨f, rfl⟩ : ∃ f2, f = f2 + 1 := ⟨f - 1, by omega⟩
    have e5 : h.1 72 i = nI (l 5 i) := hL.2.2.2 5 i (by decide) (by decide) (by omega)
    rw [b127_4, hL.1, if_pos ((nI_ltm (by omega) (by omega)).mpr (by omega)), q_ix_n (by omega) (by decide), e5, qw_rat_s (by omega), nI_p1]
    exact ih f (i + 1) (by omega) (by omega)
theorem s127 (d : Nat) (h : q_S) (l : qv_L) (hl : qv_ok l) (hL : qw_at h l) : q_sem (d + 1) 127 h [.ref 67] = some (h, some (.int (nI (qv_rat l (l 0 0 - 1))))) := by
  have h8 := hl.1
  rw [m127]
  exact l127 q_X0 (q_sem d) l hl h hL (l 0 0 - 1) 999 0 (by omega) (by omega)
