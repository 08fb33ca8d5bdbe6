/-! ===== alike ===== -/
def q_same (l m : qv_L) (i : Nat) : Prop := qv_I l i = qv_I m i ∧ qv_G l i = qv_G m i ∧ qw_K l i = qw_K m i
def q_al (l m : qv_L) : Nat → Nat → Int32
  | 0, _ => 1
  | k + 1, i => if qv_I l i = qv_I m i ∧ qv_G l i = qv_G m i ∧ qw_K l i = qw_K m i then q_al l m k (i + 1) else 0
theorem qw_K_bd {l : qv_L} (hl : qv_ok l) (i : Nat) : qw_K l i ≤ 3564 := by
  unfold qw_K
  split
  · rename_i q
    exact (qv_K_bd hl q).2
  · omega
theorem l33 (X : q_X) (d : Nat) (l m : qv_L) (hl : qv_ok l) (hm : qv_ok m) (h : q_S) (e1 : qv_at h 12 l) (e2 : qv_at h 24 m) (hn : m 0 0 = l 0 0) : ∀ k f i, i + k = l 0 0 → k < f → q_go e_33 X (q_sem (d + 4)) f 15 [(0, .ref 12), (1, .ref 24), (2, .int (nI i))] [] h = some (h, some (.int (q_al l m k i))) := by
  have h8 := hl.1
  intro k
  induction k with
  | zero =>
    intro f i hi hf
    obtain ⟨f, rfl⟩ : ∃ g, f = g + 1 := ⟨f - 1, by omega⟩
    rw [b33_15, e1.1, if_neg (by rw [nI_lt_iff (by omega) (by omega)]; omega)]
    rfl
  | succ k ih =>
    intro f i hi hf
    obtain ⟨f, rfl⟩ : ∃ g, f = g + 1 := ⟨f - 1, by omega⟩
    have ih := ih f (i + 1) (by omega) (by omega)
    have I1 := qv_I_bd hl (show i < l 0 0 by omega)
    have I2 := qv_I_bd hm (show i < m 0 0 by omega)
    have G1 := qv_G_bd hl (show i < l 0 0 by omega)
    have G2 := qv_G_bd hm (show i < m 0 0 by omega)
    obtain ⟨n, hnn⟩ : ∃ n, l 0 0 = n + 1 := ⟨l 0 0 - 1, by omega⟩
    rw [b33_15, e1.1, if_pos (by rw [nI_lt_iff (by omega) (by omega)]; omega), s29_12 _ h l i e1 hl (by omega), q_c1_s, s29_24 _ h m i e2 hm (by omega), q_c1_s, s30_12 _ h l i e1 (by omega), q_c1_s, s30_24 _ h m i e2 (by omega), q_c1_s, e1.1, s31_12 _ h l i e1 (by omega), q_c1_s, s31_24 _ h m i e2 (by omega), q_c1_s, hnn, nI_m1, nI_p1, q_al]
    by_cases a : qv_I l i = qv_I m i
    · rw [if_pos (by rw [a])]
      by_cases b : qv_G l i = qv_G m i
      · rw [if_pos (by rw [b])]
        by_cases c : i < n
        · rw [if_pos (by rw [nI_lt_iff (by omega) (by omega)]; exact c)]
          have K1 := qv_K_bd hl (show i + 1 < l 0 0 by omega)
          have K2 := qv_K_bd hm (show i + 1 < m 0 0 by omega)
          have w1 : qw_K l i = qv_K l i := by unfold qw_K; rw [if_pos (by omega)]
          have w2 : qw_K m i = qv_K m i := by unfold qw_K; rw [if_pos (by omega)]
          rw [w1, w2]
          by_cases e : qv_K l i = qv_K m i
          · rw [if_pos (by rw [e]), if_pos ⟨a, b, e⟩]
            exact ih
          · rw [if_neg (by rw [nI_eq_iff (by omega) (by omega)]; exact e), if_neg (fun q => e q.2.2)]
        · have w1 : qw_K l i = 0 := by unfold qw_K; rw [if_neg (by omega)]
          have w2 : qw_K m i = 0 := by unfold qw_K; rw [if_neg (by omega)]
          rw [if_neg (by rw [nI_lt_iff (by omega) (by omega)]; exact c), if_pos ⟨a, b, by rw [w1, w2]⟩]
          exact ih
      · rw [if_neg (by rw [nI_eq_iff (by omega) (by omega)]; exact b), if_neg (fun q => b q.2.1)]
    · rw [if_neg (by rw [nI_eq_iff (by omega) (by omega)]; exact a), if_neg (fun q => a q.1)]
theorem l204z (X : q_X) (O : q_O) (h : q_S) (f : Nat) (x : Int32) : q_go e_204 X O (f + 1) 33 [(0, .ref 67), (1, .int 0), (2, .int x)] [] h = some (h, some (.int 0)) := by
  rw [b204_33]
  split
  · rw [if_pos rfl, if_pos rfl]
  · rw [if_pos rfl]
theorem l204 (X : q_X) (O : q_O) (l m : qv_L) (hl : qv_ok l) (hm : qv_ok m) (h : q_S) (e1 : qw_at h l) (e2 : qw_rd h l) (e3 : ∀ i, i < m 0 0 → h.1 99 i = nI (qv_I m i) ∧ h.1 100 i = nI (qv_G m i) ∧ h.1 101 i = nI (qw_K m i)) (hn : m 0 0 = l 0 0) : ∀ k f i, i + k = l 0 0 → k + 1 < f → q_go e_204 X O f 33 [(0, .ref 67), (1, .int 1), (2, .int (nI i))] [] h = some (h, some (.int (q_al l m k i))) := by
  have h8 := hl.1
  intro k
  induction k with
  | zero =>
    intro f i hi hf
    obtain ⟨f, rfl⟩ : ∃ g, f = g + 1 := ⟨f - 1, by omega⟩
    rw [b204_33, e1.1, if_neg (by rw [nI_lt_iff (by omega) (by omega)]; omega), if_neg (by decide)]
    rfl
  | succ k ih =>
    intro f i hi hf
    obtain ⟨f, rfl⟩ : ∃ g, f = g + 1 + 1 := ⟨f - 2, by omega⟩
    have ih := ih (f + 1) (i + 1) (by omega) (by omega)
    have I1 := qv_I_bd hl (show i < l 0 0 by omega)
    have I2 := qv_I_bd hm (show i < m 0 0 by omega)
    have G1 := qv_G_bd hl (show i < l 0 0 by omega)
    have G2 := qv_G_bd hm (show i < m 0 0 by omega)
    have K1 := qw_K_bd hl i
    have K2 := qw_K_bd hm i
    obtain ⟨a1, a2, a3⟩ := e3 i (by omega)
    obtain ⟨r1, r2, r3, r4, r5⟩ := e2 i (by omega)
    rw [b204_33, e1.1, if_pos (by rw [nI_lt_iff (by omega) (by omega)]; omega), if_neg (by decide), nI_p1]
    simp only [q_ix_n (show i < 8 by omega) (show 8 < 2147483648 by decide)]
    rw [a1, a2, a3, r2, r3, r4, q_al, l204z]
    by_cases a : qv_I l i = qv_I m i
    · rw [if_pos (by rw [a])]
      by_cases b : qv_G l i = qv_G m i
      · rw [if_pos (by rw [b])]
        by_cases e : qw_K l i = qw_K m i
        · rw [if_pos (by rw [e]), if_pos ⟨a, b, e⟩]
          exact ih
        · rw [if_neg (by rw [nI_eq_iff (by omega) (by omega)]; exact fun q => e q.symm), if_neg (fun q => e q.2.2)]
      · rw [if_neg (by rw [nI_eq_iff (by omega) (by omega)]; exact fun q => b q.symm), if_neg (fun q => b q.2.1)]
    · rw [if_neg (by rw [nI_eq_iff (by omega) (by omega)]; exact fun q => a q.symm), if_neg (fun q => a q.1)]
theorem q_al_01 (l m : qv_L) : ∀ k i, q_al l m k i = 0 ∨ q_al l m k i = 1
  | 0, _ => Or.inr rfl
  | k + 1, i => by
    rw [q_al]
    split
    · exact q_al_01 l m k (i + 1)
    · exact Or.inl rfl
theorem c101 : qs_st 101 204 [] := by
  intro s hs
  have h8 := hs.1.1
  rcases hs.2.1 with im | ⟨im, om, -⟩
  · refine qs_no (.int (-5)) hs ?_ ?_
    · intro d h hc
      rw [m101, hc.2.1.1, im, if_pos rfl]
    · intro d h hr
      rw [m204, hr.2.1.1 im, if_pos (by decide)]
  · have m8 := om.1
    refine qs_sc (.int (if s.1 0 0 = s.2.1 0 0 then q_al s.1 s.2.1 (s.1 0 0) 0 else 0)) hs ?_ ?_
    · intro d h hc
      obtain ⟨i1, i2, i3⟩ := hc.2.1.2 im
      refine ⟨h, ?_, qc_sc_rf h, hc.2.2.2.2.2.2.2⟩
      rw [m101, hc.2.1.1, im, if_neg (by decide), m33, hc.1.1, i1.1]
      by_cases z : s.1 0 0 = s.2.1 0 0
      · rw [if_pos (by rw [z]), if_pos z, show q_go e_33 q_X0 (q_sem (d + 12)) 999 15 [(0, .ref 12), (1, .ref 24), (2, .int 0)] [] h = _ from l33 q_X0 (d + 8) s.1 s.2.1 hs.1 om h hc.1 i1 z.symm (s.1 0 0) 999 0 (by omega) (by omega), q_c1_s]
        rcases q_al_01 s.1 s.2.1 (s.1 0 0) 0 with e | e
        · rw [e, if_pos rfl]
        · rw [e, if_neg (by decide)]
      · rw [if_neg (by rw [nI_eq_iff (by omega) (by omega)]; exact z), if_neg z, q_c1_s, if_pos rfl]
    · intro d h hr
      obtain ⟨i1, i2, i3⟩ := hr.2.1.2 im
      obtain ⟨h2, e1, e2, e3⟩ := s126 (d + 11) h s.1 hs.1 hr.1
      refine ⟨h2, ?_, qp_of e3⟩
      have a1 := qw_sc_at e3 hr.1
      have a67 : h2.1 67 45 = nI (s.2.1 0 0) := (congrFun (e3.1 67 (by decide)) 45).trans i1
      have a9 : ∀ i, i < s.2.1 0 0 → h2.1 99 i = nI (qv_I s.2.1 i) ∧ h2.1 100 i = nI (qv_G s.2.1 i) ∧ h2.1 101 i = nI (qw_K s.2.1 i) := fun i hi => ⟨(congrFun (e3.1 99 (by decide)) i).trans (i3 i hi).1, (congrFun (e3.1 100 (by decide)) i).trans (i3 i hi).2.1, (congrFun (e3.1 101 (by decide)) i).trans (i3 i hi).2.2⟩
      rw [m204, i1, if_neg (nI_lt0 (by omega)), e1, q_c0_s, a67, a1.1]
      by_cases z : s.1 0 0 = s.2.1 0 0
      · rw [if_pos (by rw [z]), if_pos z]
        exact l204 q_X0 _ s.1 s.2.1 hs.1 om h2 a1 e2 a9 z.symm (s.1 0 0) 999 0 (by omega) (by omega)
      · rw [if_neg (by rw [nI_eq_iff (by omega) (by omega)]; exact fun q => z q.symm), if_neg z]
        exact l204z _ _ _ 998 _
