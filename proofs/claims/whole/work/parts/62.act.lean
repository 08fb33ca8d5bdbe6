/-! ===== act ===== -/
abbrev qn : Type := Nat × (Nat → Int32)
def qn_a (p : qn) (x : Int32) : qn := (p.1 + 1, fun i => if i = p.1 then x else p.2 i)
def na_C (h0 : q_S) (k : Nat) (N M : Int32) (p : qn) (h : q_S) : Prop := h.1 (2 + k) 1 = nI p.1 ∧ (∀ i, i < p.1 → h.1 (7 + k) i = p.2 i) ∧ h.1 (2 + k) 2 = N ∧ h.1 (2 + k) 3 = M ∧ (∀ a j, ¬ (2 ≤ a ∧ a ≤ 11) → h.1 a j = h0.1 a j) ∧ h.2 = h0.2
def na_R (h0 : q_S) (p : qn) (h : q_S) : Prop := h.1 67 39 = nI p.1 ∧ (∀ i, i < p.1 → h.1 97 i = p.2 i) ∧ (∀ a j, ¬ (a = 67 ∧ j = 39) → a ≠ 97 → h.1 a j = h0.1 a j) ∧ h.2 = h0.2
def sp_v (k : Nat) (N x : Int32) : Int32 := match k with
  | 2 => -(x + N)
  | 4 => -(x + N)
  | 3 => (x + N) * 3
  | _ => x + N
def sp_p (k : Nat) (p : qn) : qn := match k with
  | 2 => qn_a (qn_a p 30) 10
  | 4 => qn_a (qn_a p 30) 10
  | 3 => qn_a (qn_a p 41) 10
  | _ => qn_a p 10
def sw_v (k : Nat) (N x : Int32) : Int32 := match k with
  | 1 => (sp_v 1 N x * 2) ^^^ 3
  | 3 => (sp_v 3 N x * 2) ^^^ 3
  | 4 => sp_v 4 N x * 2 + sp_v 4 N 2
  | k => sp_v k N x * 2
def sw_p (k : Nat) (p : qn) : qn := match k with
  | 1 => sp_p 1 (qn_a (qn_a p 20) 11)
  | 3 => sp_p 3 (qn_a (qn_a p 20) 11)
  | 4 => sp_p 4 (sp_p 4 (qn_a (qn_a p 50) 11))
  | k => sp_p k (qn_a p 11)
def te_v (k : Nat) (N M x : Int32) : Int32 := match k with
  | 3 => sw_v 3 N (x + 1) - M
  | k => sw_v k N x - M
def te_p (k : Nat) (p : qn) : qn := match k with
  | 3 => sw_p 3 (qn_a (qn_a p 40) 12)
  | k => sw_p k (qn_a p 12)
theorem n9_0 (d : Nat) {h0 : q_S} {N M : Int32} {p : qn} {h : q_S} (hp : p.1 < 24) (c : na_C h0 0 N M p h) (x : Int32) : ∃ h2, q_sem (d + 1) 9 h [.ref 2, .int x] = some (h2, none) ∧ na_C h0 0 N M (qn_a p x) h2 := by
  obtain ⟨c1, c2, c3, c4, c5, c6⟩ := c
  have c1 : h.1 2 1 = nI p.1 := c1
  refine ⟨q_si (q_si h 7 p.1 x) 2 1 (nI (p.1 + 1)), ?_, ?_, ?_, ?_, ?_, ?_, c6⟩
  · rw [m9, c1, if_pos (by rw [show (24 : Int32) = nI 24 from rfl, nI_lt_iff (by omega) (by omega)]; exact hp), q_ix_n hp (by decide), nI_p1]
  · exact qw_si_eq ..
  · intro i hi
    have hi : i < p.1 + 1 := hi
    rw [qw_si_ne (by omega)]
    by_cases w : i = p.1
    · subst w; rw [qw_si_eq]; exact (if_pos rfl).symm
    · rw [qw_si_ne (by omega)]; exact (c2 i (by omega)).trans (if_neg w).symm
  · rw [qw_si_ne (by omega), qw_si_ne (by omega)]; exact c3
  · rw [qw_si_ne (by omega), qw_si_ne (by omega)]; exact c4
  · intro a j ha
    rw [qw_si_ne (by omega), qw_si_ne (by omega)]; exact c5 a j ha
theorem n11_0 (d : Nat) {h0 : q_S} {N M : Int32} {p : qn} {h : q_S} (hp : p.1 < 24) (c : na_C h0 0 N M p h) (x : Int32) : ∃ h2, q_sem (d + 2) 11 h [.ref 2, .int x] = some (h2, some (.int (x + N))) ∧ na_C h0 0 N M (qn_a p 10) h2 := by
  obtain ⟨h2, e, c2⟩ := n9_0 d hp c 10
  exact ⟨h2, by rw [m11, e, q_c0_s, show h2.1 2 2 = N from c2.2.2.1], c2⟩
theorem nsp_0 (d : Nat) {h0 : q_S} {N M : Int32} {p : qn} {h : q_S} (hp : p.1 < 22) (c : na_C h0 0 N M p h) (x : Int32) : ∃ h2, q_sem (d + 3) 11 h [.ref 2, .int x] = some (h2, some (.int (sp_v 0 N x))) ∧ na_C h0 0 N M (sp_p 0 p) h2 := n11_0 (d + 1) (by omega) c x
theorem n12_0 (d : Nat) {h0 : q_S} {N M : Int32} {p : qn} {h : q_S} (hp : p.1 < 20) (c : na_C h0 0 N M p h) (x : Int32) : ∃ h2, q_sem (d + 4) 12 h [.ref 2, .int x] = some (h2, some (.int (sp_v 0 N x * 2))) ∧ na_C h0 0 N M (sp_p 0 (qn_a p 11)) h2 := by
  obtain ⟨h2, e, c2⟩ := n9_0 (d + 2) (by omega) c 11
  obtain ⟨h3, e3, c3⟩ := nsp_0 d (show p.1 + 1 < 22 by omega) c2 x
  exact ⟨h3, by rw [m12, e, q_c0_s, e3, q_c1_s], c3⟩
theorem nsw_0 (d : Nat) {h0 : q_S} {N M : Int32} {p : qn} {h : q_S} (hp : p.1 < 16) (c : na_C h0 0 N M p h) (x : Int32) : ∃ h2, q_sem (d + 5) 12 h [.ref 2, .int x] = some (h2, some (.int (sw_v 0 N x))) ∧ na_C h0 0 N M (sw_p 0 p) h2 := n12_0 (d + 1) (by omega) c x
theorem n13_0 (d : Nat) {h0 : q_S} {N M : Int32} {p : qn} {h : q_S} (hp : p.1 < 15) (c : na_C h0 0 N M p h) (x : Int32) : ∃ h2, q_sem (d + 6) 13 h [.ref 2, .int x] = some (h2, some (.int (sw_v 0 N x - M))) ∧ na_C h0 0 N M (sw_p 0 (qn_a p 12)) h2 := by
  obtain ⟨h2, e, c2⟩ := n9_0 (d + 4) (by omega) c 12
  obtain ⟨h3, e3, c3⟩ := nsw_0 d (show p.1 + 1 < 16 by omega) c2 x
  exact ⟨h3, by rw [m13, e, q_c0_s, e3, q_c1_s, show h3.1 2 3 = M from c3.2.2.2.1], c3⟩
theorem nte_0 (d : Nat) {h0 : q_S} {N M : Int32} {p : qn} {h : q_S} (hp : p.1 < 14) (c : na_C h0 0 N M p h) (x : Int32) : ∃ h2, q_sem (d + 7) 13 h [.ref 2, .int x] = some (h2, some (.int (te_v 0 N M x))) ∧ na_C h0 0 N M (te_p 0 p) h2 := n13_0 (d + 1) (by omega) c x
theorem n9_1 (d : Nat) {h0 : q_S} {N M : Int32} {p : qn} {h : q_S} (hp : p.1 < 24) (c : na_C h0 1 N M p h) (x : Int32) : ∃ h2, q_sem (d + 1) 9 h [.ref 3, .int x] = some (h2, none) ∧ na_C h0 1 N M (qn_a p x) h2 := by
  obtain ⟨c1, c2, c3, c4, c5, c6⟩ := c
  have c1 : h.1 3 1 = nI p.1 := c1
  refine ⟨q_si (q_si h 8 p.1 x) 3 1 (nI (p.1 + 1)), ?_, ?_, ?_, ?_, ?_, ?_, c6⟩
  · rw [m9_1, c1, if_pos (by rw [show (24 : Int32) = nI 24 from rfl, nI_lt_iff (by omega) (by omega)]; exact hp), q_ix_n hp (by decide), nI_p1]
  · exact qw_si_eq ..
  · intro i hi
    have hi : i < p.1 + 1 := hi
    rw [qw_si_ne (by omega)]
    by_cases w : i = p.1
    · subst w; rw [qw_si_eq]; exact (if_pos rfl).symm
    · rw [qw_si_ne (by omega)]; exact (c2 i (by omega)).trans (if_neg w).symm
  · rw [qw_si_ne (by omega), qw_si_ne (by omega)]; exact c3
  · rw [qw_si_ne (by omega), qw_si_ne (by omega)]; exact c4
  · intro a j ha
    rw [qw_si_ne (by omega), qw_si_ne (by omega)]; exact c5 a j ha
theorem n11_1 (d : Nat) {h0 : q_S} {N M : Int32} {p : qn} {h : q_S} (hp : p.1 < 24) (c : na_C h0 1 N M p h) (x : Int32) : ∃ h2, q_sem (d + 2) 11 h [.ref 3, .int x] = some (h2, some (.int (x + N))) ∧ na_C h0 1 N M (qn_a p 10) h2 := by
  obtain ⟨h2, e, c2⟩ := n9_1 d hp c 10
  exact ⟨h2, by rw [m11_1, e, q_c0_s, show h2.1 3 2 = N from c2.2.2.1], c2⟩
theorem nsp_1 (d : Nat) {h0 : q_S} {N M : Int32} {p : qn} {h : q_S} (hp : p.1 < 22) (c : na_C h0 1 N M p h) (x : Int32) : ∃ h2, q_sem (d + 3) 11 h [.ref 3, .int x] = some (h2, some (.int (sp_v 1 N x))) ∧ na_C h0 1 N M (sp_p 1 p) h2 := n11_1 (d + 1) (by omega) c x
theorem n12_1 (d : Nat) {h0 : q_S} {N M : Int32} {p : qn} {h : q_S} (hp : p.1 < 20) (c : na_C h0 1 N M p h) (x : Int32) : ∃ h2, q_sem (d + 4) 12 h [.ref 3, .int x] = some (h2, some (.int (sp_v 1 N x * 2))) ∧ na_C h0 1 N M (sp_p 1 (qn_a p 11)) h2 := by
  obtain ⟨h2, e, c2⟩ := n9_1 (d + 2) (by omega) c 11
  obtain ⟨h3, e3, c3⟩ := nsp_1 d (show p.1 + 1 < 22 by omega) c2 x
  exact ⟨h3, by rw [m12_1, e, q_c0_s, e3, q_c1_s], c3⟩
theorem nsw_1 (d : Nat) {h0 : q_S} {N M : Int32} {p : qn} {h : q_S} (hp : p.1 < 16) (c : na_C h0 1 N M p h) (x : Int32) : ∃ h2, q_sem (d + 5) 47 h [.ref 3, .int x] = some (h2, some (.int (sw_v 1 N x))) ∧ na_C h0 1 N M (sw_p 1 p) h2 := by
  obtain ⟨h2, e, c2⟩ := n9_1 (d + 3) (by omega) c 20
  obtain ⟨h3, e3, c3⟩ := n12_1 d (show p.1 + 1 < 20 by omega) c2 x
  exact ⟨h3, by rw [m47, e, q_c0_s, e3, q_c1_s]; rfl, c3⟩
theorem n13_1 (d : Nat) {h0 : q_S} {N M : Int32} {p : qn} {h : q_S} (hp : p.1 < 15) (c : na_C h0 1 N M p h) (x : Int32) : ∃ h2, q_sem (d + 6) 13 h [.ref 3, .int x] = some (h2, some (.int (sw_v 1 N x - M))) ∧ na_C h0 1 N M (sw_p 1 (qn_a p 12)) h2 := by
  obtain ⟨h2, e, c2⟩ := n9_1 (d + 4) (by omega) c 12
  obtain ⟨h3, e3, c3⟩ := nsw_1 d (show p.1 + 1 < 16 by omega) c2 x
  exact ⟨h3, by rw [m13_1, e, q_c0_s, e3, q_c1_s, show h3.1 3 3 = M from c3.2.2.2.1], c3⟩
theorem nte_1 (d : Nat) {h0 : q_S} {N M : Int32} {p : qn} {h : q_S} (hp : p.1 < 14) (c : na_C h0 1 N M p h) (x : Int32) : ∃ h2, q_sem (d + 7) 13 h [.ref 3, .int x] = some (h2, some (.int (te_v 1 N M x))) ∧ na_C h0 1 N M (te_p 1 p) h2 := n13_1 (d + 1) (by omega) c x
theorem n9_2 (d : Nat) {h0 : q_S} {N M : Int32} {p : qn} {h : q_S} (hp : p.1 < 24) (c : na_C h0 2 N M p h) (x : Int32) : ∃ h2, q_sem (d + 1) 9 h [.ref 4, .int x] = some (h2, none) ∧ na_C h0 2 N M (qn_a p x) h2 := by
  obtain ⟨c1, c2, c3, c4, c5, c6⟩ := c
  have c1 : h.1 4 1 = nI p.1 := c1
  refine ⟨q_si (q_si h 9 p.1 x) 4 1 (nI (p.1 + 1)), ?_, ?_, ?_, ?_, ?_, ?_, c6⟩
  · rw [m9_2, c1, if_pos (by rw [show (24 : Int32) = nI 24 from rfl, nI_lt_iff (by omega) (by omega)]; exact hp), q_ix_n hp (by decide), nI_p1]
  · exact qw_si_eq ..
  · intro i hi
    have hi : i < p.1 + 1 := hi
    rw [qw_si_ne (by omega)]
    by_cases w : i = p.1
    · subst w; rw [qw_si_eq]; exact (if_pos rfl).symm
    · rw [qw_si_ne (by omega)]; exact (c2 i (by omega)).trans (if_neg w).symm
  · rw [qw_si_ne (by omega), qw_si_ne (by omega)]; exact c3
  · rw [qw_si_ne (by omega), qw_si_ne (by omega)]; exact c4
  · intro a j ha
    rw [qw_si_ne (by omega), qw_si_ne (by omega)]; exact c5 a j ha
theorem n11_2 (d : Nat) {h0 : q_S} {N M : Int32} {p : qn} {h : q_S} (hp : p.1 < 24) (c : na_C h0 2 N M p h) (x : Int32) : ∃ h2, q_sem (d + 2) 11 h [.ref 4, .int x] = some (h2, some (.int (x + N))) ∧ na_C h0 2 N M (qn_a p 10) h2 := by
  obtain ⟨h2, e, c2⟩ := n9_2 d hp c 10
  exact ⟨h2, by rw [m11_2, e, q_c0_s, show h2.1 4 2 = N from c2.2.2.1], c2⟩
theorem nsp_2 (d : Nat) {h0 : q_S} {N M : Int32} {p : qn} {h : q_S} (hp : p.1 < 22) (c : na_C h0 2 N M p h) (x : Int32) : ∃ h2, q_sem (d + 3) 15 h [.ref 4, .int x] = some (h2, some (.int (sp_v 2 N x))) ∧ na_C h0 2 N M (sp_p 2 p) h2 := by
  obtain ⟨h2, e, c2⟩ := n9_2 (d + 1) (by omega) c 30
  obtain ⟨h3, e3, c3⟩ := n11_2 d (show p.1 + 1 < 24 by omega) c2 x
  exact ⟨h3, by rw [m15, e, q_c0_s, e3, q_c1_s]; rfl, c3⟩
theorem n12_2 (d : Nat) {h0 : q_S} {N M : Int32} {p : qn} {h : q_S} (hp : p.1 < 20) (c : na_C h0 2 N M p h) (x : Int32) : ∃ h2, q_sem (d + 4) 12 h [.ref 4, .int x] = some (h2, some (.int (sp_v 2 N x * 2))) ∧ na_C h0 2 N M (sp_p 2 (qn_a p 11)) h2 := by
  obtain ⟨h2, e, c2⟩ := n9_2 (d + 2) (by omega) c 11
  obtain ⟨h3, e3, c3⟩ := nsp_2 d (show p.1 + 1 < 22 by omega) c2 x
  exact ⟨h3, by rw [m12_2, e, q_c0_s, e3, q_c1_s], c3⟩
theorem nsw_2 (d : Nat) {h0 : q_S} {N M : Int32} {p : qn} {h : q_S} (hp : p.1 < 16) (c : na_C h0 2 N M p h) (x : Int32) : ∃ h2, q_sem (d + 5) 12 h [.ref 4, .int x] = some (h2, some (.int (sw_v 2 N x))) ∧ na_C h0 2 N M (sw_p 2 p) h2 := n12_2 (d + 1) (by omega) c x
theorem n13_2 (d : Nat) {h0 : q_S} {N M : Int32} {p : qn} {h : q_S} (hp : p.1 < 15) (c : na_C h0 2 N M p h) (x : Int32) : ∃ h2, q_sem (d + 6) 13 h [.ref 4, .int x] = some (h2, some (.int (sw_v 2 N x - M))) ∧ na_C h0 2 N M (sw_p 2 (qn_a p 12)) h2 := by
  obtain ⟨h2, e, c2⟩ := n9_2 (d + 4) (by omega) c 12
  obtain ⟨h3, e3, c3⟩ := nsw_2 d (show p.1 + 1 < 16 by omega) c2 x
  exact ⟨h3, by rw [m13_2, e, q_c0_s, e3, q_c1_s, show h3.1 4 3 = M from c3.2.2.2.1], c3⟩
theorem nte_2 (d : Nat) {h0 : q_S} {N M : Int32} {p : qn} {h : q_S} (hp : p.1 < 14) (c : na_C h0 2 N M p h) (x : Int32) : ∃ h2, q_sem (d + 7) 13 h [.ref 4, .int x] = some (h2, some (.int (te_v 2 N M x))) ∧ na_C h0 2 N M (te_p 2 p) h2 := n13_2 (d + 1) (by omega) c x
theorem n9_3 (d : Nat) {h0 : q_S} {N M : Int32} {p : qn} {h : q_S} (hp : p.1 < 24) (c : na_C h0 3 N M p h) (x : Int32) : ∃ h2, q_sem (d + 1) 9 h [.ref 5, .int x] = some (h2, none) ∧ na_C h0 3 N M (qn_a p x) h2 := by
  obtain ⟨c1, c2, c3, c4, c5, c6⟩ := c
  have c1 : h.1 5 1 = nI p.1 := c1
  refine ⟨q_si (q_si h 10 p.1 x) 5 1 (nI (p.1 + 1)), ?_, ?_, ?_, ?_, ?_, ?_, c6⟩
  · rw [m9_3, c1, if_pos (by rw [show (24 : Int32) = nI 24 from rfl, nI_lt_iff (by omega) (by omega)]; exact hp), q_ix_n hp (by decide), nI_p1]
  · exact qw_si_eq ..
  · intro i hi
    have hi : i < p.1 + 1 := hi
    rw [qw_si_ne (by omega)]
    by_cases w : i = p.1
    · subst w; rw [qw_si_eq]; exact (if_pos rfl).symm
    · rw [qw_si_ne (by omega)]; exact (c2 i (by omega)).trans (if_neg w).symm
  · rw [qw_si_ne (by omega), qw_si_ne (by omega)]; exact c3
  · rw [qw_si_ne (by omega), qw_si_ne (by omega)]; exact c4
  · intro a j ha
    rw [qw_si_ne (by omega), qw_si_ne (by omega)]; exact c5 a j ha
theorem n11_3 (d : Nat) {h0 : q_S} {N M : Int32} {p : qn} {h : q_S} (hp : p.1 < 24) (c : na_C h0 3 N M p h) (x : Int32) : ∃ h2, q_sem (d + 2) 11 h [.ref 5, .int x] = some (h2, some (.int (x + N))) ∧ na_C h0 3 N M (qn_a p 10) h2 := by
  obtain ⟨h2, e, c2⟩ := n9_3 d hp c 10
  exact ⟨h2, by rw [m11_3, e, q_c0_s, show h2.1 5 2 = N from c2.2.2.1], c2⟩
theorem nsp_3 (d : Nat) {h0 : q_S} {N M : Int32} {p : qn} {h : q_S} (hp : p.1 < 22) (c : na_C h0 3 N M p h) (x : Int32) : ∃ h2, q_sem (d + 3) 7 h [.ref 5, .int x] = some (h2, some (.int (sp_v 3 N x))) ∧ na_C h0 3 N M (sp_p 3 p) h2 := by
  obtain ⟨h2, e, c2⟩ := n9_3 (d + 1) (by omega) c 41
  obtain ⟨h3, e3, c3⟩ := n11_3 d (show p.1 + 1 < 24 by omega) c2 x
  exact ⟨h3, by rw [m7, e, q_c0_s, e3, q_c1_s]; rfl, c3⟩
theorem n12_3 (d : Nat) {h0 : q_S} {N M : Int32} {p : qn} {h : q_S} (hp : p.1 < 20) (c : na_C h0 3 N M p h) (x : Int32) : ∃ h2, q_sem (d + 4) 12 h [.ref 5, .int x] = some (h2, some (.int (sp_v 3 N x * 2))) ∧ na_C h0 3 N M (sp_p 3 (qn_a p 11)) h2 := by
  obtain ⟨h2, e, c2⟩ := n9_3 (d + 2) (by omega) c 11
  obtain ⟨h3, e3, c3⟩ := nsp_3 d (show p.1 + 1 < 22 by omega) c2 x
  exact ⟨h3, by rw [m12_3, e, q_c0_s, e3, q_c1_s], c3⟩
theorem nsw_3 (d : Nat) {h0 : q_S} {N M : Int32} {p : qn} {h : q_S} (hp : p.1 < 16) (c : na_C h0 3 N M p h) (x : Int32) : ∃ h2, q_sem (d + 5) 47 h [.ref 5, .int x] = some (h2, some (.int (sw_v 3 N x))) ∧ na_C h0 3 N M (sw_p 3 p) h2 := by
  obtain ⟨h2, e, c2⟩ := n9_3 (d + 3) (by omega) c 20
  obtain ⟨h3, e3, c3⟩ := n12_3 d (show p.1 + 1 < 20 by omega) c2 x
  exact ⟨h3, by rw [m47_1, e, q_c0_s, e3, q_c1_s]; rfl, c3⟩
theorem n13_3 (d : Nat) {h0 : q_S} {N M : Int32} {p : qn} {h : q_S} (hp : p.1 < 15) (c : na_C h0 3 N M p h) (x : Int32) : ∃ h2, q_sem (d + 6) 13 h [.ref 5, .int x] = some (h2, some (.int (sw_v 3 N x - M))) ∧ na_C h0 3 N M (sw_p 3 (qn_a p 12)) h2 := by
  obtain ⟨h2, e, c2⟩ := n9_3 (d + 4) (by omega) c 12
  obtain ⟨h3, e3, c3⟩ := nsw_3 d (show p.1 + 1 < 16 by omega) c2 x
  exact ⟨h3, by rw [m13_3, e, q_c0_s, e3, q_c1_s, show h3.1 5 3 = M from c3.2.2.2.1], c3⟩
theorem nte_3 (d : Nat) {h0 : q_S} {N M : Int32} {p : qn} {h : q_S} (hp : p.1 < 14) (c : na_C h0 3 N M p h) (x : Int32) : ∃ h2, q_sem (d + 7) 6 h [.ref 5, .int x] = some (h2, some (.int (te_v 3 N M x))) ∧ na_C h0 3 N M (te_p 3 p) h2 := by
  obtain ⟨h2, e, c2⟩ := n9_3 (d + 5) (by omega) c 40
  obtain ⟨h3, e3, c3⟩ := n13_3 d (show p.1 + 1 < 15 by omega) c2 (x + 1)
  exact ⟨h3, by rw [m6, e, q_c0_s, e3, q_c1_s]; rfl, c3⟩
theorem n9_4 (d : Nat) {h0 : q_S} {N M : Int32} {p : qn} {h : q_S} (hp : p.1 < 24) (c : na_C h0 4 N M p h) (x : Int32) : ∃ h2, q_sem (d + 1) 9 h [.ref 6, .int x] = some (h2, none) ∧ na_C h0 4 N M (qn_a p x) h2 := by
  obtain ⟨c1, c2, c3, c4, c5, c6⟩ := c
  have c1 : h.1 6 1 = nI p.1 := c1
  refine ⟨q_si (q_si h 11 p.1 x) 6 1 (nI (p.1 + 1)), ?_, ?_, ?_, ?_, ?_, ?_, c6⟩
  · rw [m9_4, c1, if_pos (by rw [show (24 : Int32) = nI 24 from rfl, nI_lt_iff (by omega) (by omega)]; exact hp), q_ix_n hp (by decide), nI_p1]
  · exact qw_si_eq ..
  · intro i hi
    have hi : i < p.1 + 1 := hi
    rw [qw_si_ne (by omega)]
    by_cases w : i = p.1
    · subst w; rw [qw_si_eq]; exact (if_pos rfl).symm
    · rw [qw_si_ne (by omega)]; exact (c2 i (by omega)).trans (if_neg w).symm
  · rw [qw_si_ne (by omega), qw_si_ne (by omega)]; exact c3
  · rw [qw_si_ne (by omega), qw_si_ne (by omega)]; exact c4
  · intro a j ha
    rw [qw_si_ne (by omega), qw_si_ne (by omega)]; exact c5 a j ha
theorem n11_4 (d : Nat) {h0 : q_S} {N M : Int32} {p : qn} {h : q_S} (hp : p.1 < 24) (c : na_C h0 4 N M p h) (x : Int32) : ∃ h2, q_sem (d + 2) 11 h [.ref 6, .int x] = some (h2, some (.int (x + N))) ∧ na_C h0 4 N M (qn_a p 10) h2 := by
  obtain ⟨h2, e, c2⟩ := n9_4 d hp c 10
  exact ⟨h2, by rw [m11_4, e, q_c0_s, show h2.1 6 2 = N from c2.2.2.1], c2⟩
theorem nsp_4 (d : Nat) {h0 : q_S} {N M : Int32} {p : qn} {h : q_S} (hp : p.1 < 22) (c : na_C h0 4 N M p h) (x : Int32) : ∃ h2, q_sem (d + 3) 15 h [.ref 6, .int x] = some (h2, some (.int (sp_v 4 N x))) ∧ na_C h0 4 N M (sp_p 4 p) h2 := by
  obtain ⟨h2, e, c2⟩ := n9_4 (d + 1) (by omega) c 30
  obtain ⟨h3, e3, c3⟩ := n11_4 d (show p.1 + 1 < 24 by omega) c2 x
  exact ⟨h3, by rw [m15_1, e, q_c0_s, e3, q_c1_s]; rfl, c3⟩
theorem n12_4 (d : Nat) {h0 : q_S} {N M : Int32} {p : qn} {h : q_S} (hp : p.1 < 20) (c : na_C h0 4 N M p h) (x : Int32) : ∃ h2, q_sem (d + 4) 12 h [.ref 6, .int x] = some (h2, some (.int (sp_v 4 N x * 2))) ∧ na_C h0 4 N M (sp_p 4 (qn_a p 11)) h2 := by
  obtain ⟨h2, e, c2⟩ := n9_4 (d + 2) (by omega) c 11
  obtain ⟨h3, e3, c3⟩ := nsp_4 d (show p.1 + 1 < 22 by omega) c2 x
  exact ⟨h3, by rw [m12_4, e, q_c0_s, e3, q_c1_s], c3⟩
theorem nsw_4 (d : Nat) {h0 : q_S} {N M : Int32} {p : qn} {h : q_S} (hp : p.1 < 16) (c : na_C h0 4 N M p h) (x : Int32) : ∃ h2, q_sem (d + 5) 54 h [.ref 6, .int x] = some (h2, some (.int (sw_v 4 N x))) ∧ na_C h0 4 N M (sw_p 4 p) h2 := by
  obtain ⟨h2, e, c2⟩ := n9_4 (d + 3) (by omega) c 50
  obtain ⟨h3, e3, c3⟩ := n12_4 d (show p.1 + 1 < 20 by omega) c2 x
  obtain ⟨h4, e4, c4⟩ := nsp_4 (d + 1) (show p.1 + 1 + 1 + 1 + 1 < 22 by omega) c3 2
  exact ⟨h4, by rw [m54, e, q_c0_s, e3, q_c1_s, e4, q_c1_s]; rfl, c4⟩
theorem n13_4 (d : Nat) {h0 : q_S} {N M : Int32} {p : qn} {h : q_S} (hp : p.1 < 15) (c : na_C h0 4 N M p h) (x : Int32) : ∃ h2, q_sem (d + 6) 13 h [.ref 6, .int x] = some (h2, some (.int (sw_v 4 N x - M))) ∧ na_C h0 4 N M (sw_p 4 (qn_a p 12)) h2 := by
  obtain ⟨h2, e, c2⟩ := n9_4 (d + 4) (by omega) c 12
  obtain ⟨h3, e3, c3⟩ := nsw_4 d (show p.1 + 1 < 16 by omega) c2 x
  exact ⟨h3, by rw [m13_4, e, q_c0_s, e3, q_c1_s, show h3.1 6 3 = M from c3.2.2.2.1], c3⟩
theorem nte_4 (d : Nat) {h0 : q_S} {N M : Int32} {p : qn} {h : q_S} (hp : p.1 < 14) (c : na_C h0 4 N M p h) (x : Int32) : ∃ h2, q_sem (d + 7) 13 h [.ref 6, .int x] = some (h2, some (.int (te_v 4 N M x))) ∧ na_C h0 4 N M (te_p 4 p) h2 := n13_4 (d + 1) (by omega) c x
theorem n193 (d : Nat) {h0 : q_S} {p : qn} {h : q_S} (hp : p.1 < 24) (c : na_R h0 p h) (x : Int32) : ∃ h2, q_sem (d + 1) 193 h [.ref 67, .int x] = some (h2, none) ∧ na_R h0 (qn_a p x) h2 := by
  obtain ⟨c1, c2, c5, c6⟩ := c
  refine ⟨q_si (q_si h 97 p.1 x) 67 39 (nI (p.1 + 1)), ?_, ?_, ?_, ?_, c6⟩
  · rw [m193, c1, if_pos (by rw [show (24 : Int32) = nI 24 from rfl, nI_lt_iff (by omega) (by omega)]; exact hp), q_ix_n hp (by decide), nI_p1]
  · exact qw_si_eq ..
  · intro i hi
    have hi : i < p.1 + 1 := hi
    rw [qw_si_ne (by omega)]
    by_cases w : i = p.1
    · subst w; rw [qw_si_eq]; exact (if_pos rfl).symm
    · rw [qw_si_ne (by omega)]; exact (c2 i (by omega)).trans (if_neg w).symm
  · intro a j ha hb
    rw [qw_si_ne (by omega), qw_si_ne (by omega)]; exact c5 a j ha hb
theorem n68 {h0 : q_S} {p : qn} {h : q_S} {i k : Nat} (c : na_R h0 p h) (e : h0.1 68 i = nI k) : h.1 68 i = nI k := (c.2.2.1 _ _ (by omega) (by omega)).trans e
theorem n69 {h0 : q_S} {p : qn} {h : q_S} {i k : Nat} (c : na_R h0 p h) (e : h0.1 69 i = nI k) : h.1 69 i = nI k := (c.2.2.1 _ _ (by omega) (by omega)).trans e
theorem rsp_0 (d : Nat) {h0 : q_S} {p : qn} {h : q_S} (i M : Nat) (hi : i < 8) (k0 : h0.1 68 i = nI 0) (m0 : h0.1 69 i = nI M) (hp : p.1 < 22) (c : na_R h0 p h) (x : Int32) : ∃ h2, q_sem (d + 3) 194 h [.ref 67, .int (nI i), .int x] = some (h2, some (.int (sp_v 0 (nI i) x))) ∧ na_R h0 (sp_p 0 p) h2 := by
  obtain ⟨h3, e3, c3⟩ := n193 (d + 1) (by omega) c 10
  exact ⟨h3, by rw [m194, q_ix_n hi (by decide), n68 c k0, if_neg (by decide), q_ix_n hi (by decide), n68 c k0, if_neg (by decide), b194_25, if_pos rfl, q_ix_n hi (by decide), n68 c k0, if_neg (by decide), b194_52, e3, q_c0_s, if_pos rfl, q_ix_n hi (by decide), n68 c3 k0, if_neg (by decide)]; rfl, c3⟩
theorem rsw_0 (d : Nat) {h0 : q_S} {p : qn} {h : q_S} (i M : Nat) (hi : i < 8) (k0 : h0.1 68 i = nI 0) (m0 : h0.1 69 i = nI M) (hp : p.1 < 16) (c : na_R h0 p h) (x : Int32) : ∃ h2, q_sem (d + 5) 195 h [.ref 67, .int (nI i), .int x] = some (h2, some (.int (sw_v 0 (nI i) x))) ∧ na_R h0 (sw_p 0 p) h2 := by
  obtain ⟨h3, e3, c3⟩ := n193 (d + 3) (by omega) c 11
  obtain ⟨h4, e4, c4⟩ := rsp_0 (d + 1) i M hi k0 m0 (show p.1 + 1 < 22 by omega) c3 x
  exact ⟨h4, by rw [m195, q_ix_n hi (by decide), n68 c k0, if_neg (by decide), q_ix_n hi (by decide), n68 c k0, if_neg (by decide), b195_25, if_pos rfl, q_ix_n hi (by decide), n68 c k0, if_neg (by decide), b195_52, e3, q_c0_s, e4, q_c1_s, if_pos rfl, q_ix_n hi (by decide), n68 c4 k0, if_neg (by decide)]; rfl, c4⟩
theorem rte_0 (d : Nat) {h0 : q_S} {p : qn} {h : q_S} (i M : Nat) (hi : i < 8) (k0 : h0.1 68 i = nI 0) (m0 : h0.1 69 i = nI M) (hp : p.1 < 14) (c : na_R h0 p h) (x : Int32) : ∃ h2, q_sem (d + 7) 196 h [.ref 67, .int (nI i), .int x] = some (h2, some (.int (te_v 0 (nI i) (nI M) x))) ∧ na_R h0 (te_p 0 p) h2 := by
  obtain ⟨h3, e3, c3⟩ := n193 (d + 5) (by omega) c 12
  obtain ⟨h4, e4, c4⟩ := rsw_0 (d + 1) i M hi k0 m0 (show p.1 + 1 < 16 by omega) c3 x
  exact ⟨h4, by rw [m196, q_ix_n hi (by decide), n68 c k0, if_neg (by decide), b196_16, e3, q_c0_s, q_ix_n hi (by decide), n68 c3 k0, if_neg (by decide), e4, q_c1_s, q_ix_n hi (by decide), n69 c4 m0]; rfl, c4⟩
theorem rsp_1 (d : Nat) {h0 : q_S} {p : qn} {h : q_S} (i M : Nat) (hi : i < 8) (k0 : h0.1 68 i = nI 1) (m0 : h0.1 69 i = nI M) (hp : p.1 < 22) (c : na_R h0 p h) (x : Int32) : ∃ h2, q_sem (d + 3) 194 h [.ref 67, .int (nI i), .int x] = some (h2, some (.int (sp_v 1 (nI i) x))) ∧ na_R h0 (sp_p 1 p) h2 := by
  obtain ⟨h3, e3, c3⟩ := n193 (d + 1) (by omega) c 10
  exact ⟨h3, by rw [m194, q_ix_n hi (by decide), n68 c k0, if_neg (by decide), q_ix_n hi (by decide), n68 c k0, if_neg (by decide), b194_25, if_pos rfl, q_ix_n hi (by decide), n68 c k0, if_neg (by decide), b194_52, e3, q_c0_s, if_pos rfl, q_ix_n hi (by decide), n68 c3 k0, if_neg (by decide)]; rfl, c3⟩
theorem rsw_1 (d : Nat) {h0 : q_S} {p : qn} {h : q_S} (i M : Nat) (hi : i < 8) (k0 : h0.1 68 i = nI 1) (m0 : h0.1 69 i = nI M) (hp : p.1 < 16) (c : na_R h0 p h) (x : Int32) : ∃ h2, q_sem (d + 5) 195 h [.ref 67, .int (nI i), .int x] = some (h2, some (.int (sw_v 1 (nI i) x))) ∧ na_R h0 (sw_p 1 p) h2 := by
  obtain ⟨h2, e2, c2⟩ := n193 (d + 3) (by omega) c 20
  obtain ⟨h3, e3, c3⟩ := n193 (d + 3) (show p.1 + 1 < 24 by omega) c2 11
  obtain ⟨h4, e4, c4⟩ := rsp_1 (d + 1) i M hi k0 m0 (show p.1 + 1 + 1 < 22 by omega) c3 x
  exact ⟨h4, by rw [m195, q_ix_n hi (by decide), n68 c k0, if_pos (by decide), b195_25, if_neg (by decide), e2, q_c0_s, q_ix_n hi (by decide), n68 c2 k0, if_neg (by decide), b195_52, e3, q_c0_s, e4, q_c1_s, if_neg (by decide)]; rfl, c4⟩
theorem rte_1 (d : Nat) {h0 : q_S} {p : qn} {h : q_S} (i M : Nat) (hi : i < 8) (k0 : h0.1 68 i = nI 1) (m0 : h0.1 69 i = nI M) (hp : p.1 < 14) (c : na_R h0 p h) (x : Int32) : ∃ h2, q_sem (d + 7) 196 h [.ref 67, .int (nI i), .int x] = some (h2, some (.int (te_v 1 (nI i) (nI M) x))) ∧ na_R h0 (te_p 1 p) h2 := by
  obtain ⟨h3, e3, c3⟩ := n193 (d + 5) (by omega) c 12
  obtain ⟨h4, e4, c4⟩ := rsw_1 (d + 1) i M hi k0 m0 (show p.1 + 1 < 16 by omega) c3 x
  exact ⟨h4, by rw [m196, q_ix_n hi (by decide), n68 c k0, if_neg (by decide), b196_16, e3, q_c0_s, q_ix_n hi (by decide), n68 c3 k0, if_neg (by decide), e4, q_c1_s, q_ix_n hi (by decide), n69 c4 m0]; rfl, c4⟩
theorem rsp_2 (d : Nat) {h0 : q_S} {p : qn} {h : q_S} (i M : Nat) (hi : i < 8) (k0 : h0.1 68 i = nI 2) (m0 : h0.1 69 i = nI M) (hp : p.1 < 22) (c : na_R h0 p h) (x : Int32) : ∃ h2, q_sem (d + 3) 194 h [.ref 67, .int (nI i), .int x] = some (h2, some (.int (sp_v 2 (nI i) x))) ∧ na_R h0 (sp_p 2 p) h2 := by
  obtain ⟨h2, e2, c2⟩ := n193 (d + 1) (by omega) c 30
  obtain ⟨h3, e3, c3⟩ := n193 (d + 1) (show p.1 + 1 < 24 by omega) c2 10
  exact ⟨h3, by rw [m194, q_ix_n hi (by decide), n68 c k0, if_pos (by decide), b194_25, if_neg (by decide), e2, q_c0_s, q_ix_n hi (by decide), n68 c2 k0, if_neg (by decide), b194_52, e3, q_c0_s, if_neg (by decide)]; rfl, c3⟩
theorem rsw_2 (d : Nat) {h0 : q_S} {p : qn} {h : q_S} (i M : Nat) (hi : i < 8) (k0 : h0.1 68 i = nI 2) (m0 : h0.1 69 i = nI M) (hp : p.1 < 16) (c : na_R h0 p h) (x : Int32) : ∃ h2, q_sem (d + 5) 195 h [.ref 67, .int (nI i), .int x] = some (h2, some (.int (sw_v 2 (nI i) x))) ∧ na_R h0 (sw_p 2 p) h2 := by
  obtain ⟨h3, e3, c3⟩ := n193 (d + 3) (by omega) c 11
  obtain ⟨h4, e4, c4⟩ := rsp_2 (d + 1) i M hi k0 m0 (show p.1 + 1 < 22 by omega) c3 x
  exact ⟨h4, by rw [m195, q_ix_n hi (by decide), n68 c k0, if_neg (by decide), q_ix_n hi (by decide), n68 c k0, if_neg (by decide), b195_25, if_pos rfl, q_ix_n hi (by decide), n68 c k0, if_neg (by decide), b195_52, e3, q_c0_s, e4, q_c1_s, if_pos rfl, q_ix_n hi (by decide), n68 c4 k0, if_neg (by decide)]; rfl, c4⟩
theorem rte_2 (d : Nat) {h0 : q_S} {p : qn} {h : q_S} (i M : Nat) (hi : i < 8) (k0 : h0.1 68 i = nI 2) (m0 : h0.1 69 i = nI M) (hp : p.1 < 14) (c : na_R h0 p h) (x : Int32) : ∃ h2, q_sem (d + 7) 196 h [.ref 67, .int (nI i), .int x] = some (h2, some (.int (te_v 2 (nI i) (nI M) x))) ∧ na_R h0 (te_p 2 p) h2 := by
  obtain ⟨h3, e3, c3⟩ := n193 (d + 5) (by omega) c 12
  obtain ⟨h4, e4, c4⟩ := rsw_2 (d + 1) i M hi k0 m0 (show p.1 + 1 < 16 by omega) c3 x
  exact ⟨h4, by rw [m196, q_ix_n hi (by decide), n68 c k0, if_neg (by decide), b196_16, e3, q_c0_s, q_ix_n hi (by decide), n68 c3 k0, if_neg (by decide), e4, q_c1_s, q_ix_n hi (by decide), n69 c4 m0]; rfl, c4⟩
theorem rsp_3 (d : Nat) {h0 : q_S} {p : qn} {h : q_S} (i M : Nat) (hi : i < 8) (k0 : h0.1 68 i = nI 3) (m0 : h0.1 69 i = nI M) (hp : p.1 < 22) (c : na_R h0 p h) (x : Int32) : ∃ h2, q_sem (d + 3) 194 h [.ref 67, .int (nI i), .int x] = some (h2, some (.int (sp_v 3 (nI i) x))) ∧ na_R h0 (sp_p 3 p) h2 := by
  obtain ⟨h2, e2, c2⟩ := n193 (d + 1) (by omega) c 41
  obtain ⟨h3, e3, c3⟩ := n193 (d + 1) (show p.1 + 1 < 24 by omega) c2 10
  exact ⟨h3, by rw [m194, q_ix_n hi (by decide), n68 c k0, if_neg (by decide), q_ix_n hi (by decide), n68 c k0, if_neg (by decide), b194_25, if_pos rfl, q_ix_n hi (by decide), n68 c k0, if_pos (by decide), e2, q_c0_s, b194_52, e3, q_c0_s, if_pos rfl, q_ix_n hi (by decide), n68 c3 k0, if_pos (by decide)]; rfl, c3⟩
theorem rsw_3 (d : Nat) {h0 : q_S} {p : qn} {h : q_S} (i M : Nat) (hi : i < 8) (k0 : h0.1 68 i = nI 3) (m0 : h0.1 69 i = nI M) (hp : p.1 < 16) (c : na_R h0 p h) (x : Int32) : ∃ h2, q_sem (d + 5) 195 h [.ref 67, .int (nI i), .int x] = some (h2, some (.int (sw_v 3 (nI i) x))) ∧ na_R h0 (sw_p 3 p) h2 := by
  obtain ⟨h2, e2, c2⟩ := n193 (d + 3) (by omega) c 20
  obtain ⟨h3, e3, c3⟩ := n193 (d + 3) (show p.1 + 1 < 24 by omega) c2 11
  obtain ⟨h4, e4, c4⟩ := rsp_3 (d + 1) i M hi k0 m0 (show p.1 + 1 + 1 < 22 by omega) c3 x
  exact ⟨h4, by rw [m195, q_ix_n hi (by decide), n68 c k0, if_neg (by decide), q_ix_n hi (by decide), n68 c k0, if_pos (by decide), b195_25, if_neg (by decide), e2, q_c0_s, q_ix_n hi (by decide), n68 c2 k0, if_neg (by decide), b195_52, e3, q_c0_s, e4, q_c1_s, if_neg (by decide)]; rfl, c4⟩
theorem rte_3 (d : Nat) {h0 : q_S} {p : qn} {h : q_S} (i M : Nat) (hi : i < 8) (k0 : h0.1 68 i = nI 3) (m0 : h0.1 69 i = nI M) (hp : p.1 < 14) (c : na_R h0 p h) (x : Int32) : ∃ h2, q_sem (d + 7) 196 h [.ref 67, .int (nI i), .int x] = some (h2, some (.int (te_v 3 (nI i) (nI M) x))) ∧ na_R h0 (te_p 3 p) h2 := by
  obtain ⟨h2, e2, c2⟩ := n193 (d + 5) (by omega) c 40
  obtain ⟨h3, e3, c3⟩ := n193 (d + 5) (show p.1 + 1 < 24 by omega) c2 12
  obtain ⟨h4, e4, c4⟩ := rsw_3 (d + 1) i M hi k0 m0 (show p.1 + 1 + 1 < 16 by omega) c3 (x + 1)
  exact ⟨h4, by rw [m196, q_ix_n hi (by decide), n68 c k0, if_pos (by decide), e2, q_c0_s, b196_16, e3, q_c0_s, q_ix_n hi (by decide), n68 c3 k0, if_pos (by decide), e4, q_c1_s, q_ix_n hi (by decide), n69 c4 m0]; rfl, c4⟩
theorem rsp_4 (d : Nat) {h0 : q_S} {p : qn} {h : q_S} (i M : Nat) (hi : i < 8) (k0 : h0.1 68 i = nI 4) (m0 : h0.1 69 i = nI M) (hp : p.1 < 22) (c : na_R h0 p h) (x : Int32) : ∃ h2, q_sem (d + 3) 194 h [.ref 67, .int (nI i), .int x] = some (h2, some (.int (sp_v 4 (nI i) x))) ∧ na_R h0 (sp_p 4 p) h2 := by
  obtain ⟨h2, e2, c2⟩ := n193 (d + 1) (by omega) c 30
  obtain ⟨h3, e3, c3⟩ := n193 (d + 1) (show p.1 + 1 < 24 by omega) c2 10
  exact ⟨h3, by rw [m194, q_ix_n hi (by decide), n68 c k0, if_neg (by decide), q_ix_n hi (by decide), n68 c k0, if_pos (by decide), b194_25, if_neg (by decide), e2, q_c0_s, q_ix_n hi (by decide), n68 c2 k0, if_neg (by decide), b194_52, e3, q_c0_s, if_neg (by decide)]; rfl, c3⟩
theorem rsw_4 (d : Nat) {h0 : q_S} {p : qn} {h : q_S} (i M : Nat) (hi : i < 8) (k0 : h0.1 68 i = nI 4) (m0 : h0.1 69 i = nI M) (hp : p.1 < 16) (c : na_R h0 p h) (x : Int32) : ∃ h2, q_sem (d + 5) 195 h [.ref 67, .int (nI i), .int x] = some (h2, some (.int (sw_v 4 (nI i) x))) ∧ na_R h0 (sw_p 4 p) h2 := by
  obtain ⟨h2, e2, c2⟩ := n193 (d + 3) (by omega) c 50
  obtain ⟨h3, e3, c3⟩ := n193 (d + 3) (show p.1 + 1 < 24 by omega) c2 11
  obtain ⟨h4, e4, c4⟩ := rsp_4 (d + 1) i M hi k0 m0 (show p.1 + 1 + 1 < 22 by omega) c3 x
  obtain ⟨h5, e5, c5⟩ := rsp_4 (d + 1) i M hi k0 m0 (show p.1 + 1 + 1 + 1 + 1 < 22 by omega) c4 2
  exact ⟨h5, by rw [m195, q_ix_n hi (by decide), n68 c k0, if_neg (by decide), q_ix_n hi (by decide), n68 c k0, if_neg (by decide), b195_25, if_pos rfl, q_ix_n hi (by decide), n68 c k0, if_pos (by decide), e2, q_c0_s, b195_52, e3, q_c0_s, e4, q_c1_s, if_pos rfl, q_ix_n hi (by decide), n68 c4 k0, if_pos (by decide), e5, q_c1_s]; rfl, c5⟩
theorem rte_4 (d : Nat) {h0 : q_S} {p : qn} {h : q_S} (i M : Nat) (hi : i < 8) (k0 : h0.1 68 i = nI 4) (m0 : h0.1 69 i = nI M) (hp : p.1 < 14) (c : na_R h0 p h) (x : Int32) : ∃ h2, q_sem (d + 7) 196 h [.ref 67, .int (nI i), .int x] = some (h2, some (.int (te_v 4 (nI i) (nI M) x))) ∧ na_R h0 (te_p 4 p) h2 := by
  obtain ⟨h3, e3, c3⟩ := n193 (d + 5) (by omega) c 12
  obtain ⟨h4, e4, c4⟩ := rsw_4 (d + 1) i M hi k0 m0 (show p.1 + 1 < 16 by omega) c3 x
  exact ⟨h4, by rw [m196, q_ix_n hi (by decide), n68 c k0, if_neg (by decide), b196_16, e3, q_c0_s, q_ix_n hi (by decide), n68 c3 k0, if_neg (by decide), e4, q_c1_s, q_ix_n hi (by decide), n69 c4 m0]; rfl, c4⟩
def q_av (k w : Nat) (N M x : Int32) : Int32 := match w with
  | 0 => sp_v k N x
  | 1 => sw_v k N x
  | _ => te_v k N M x
def q_ap (k w : Nat) (p : qn) : qn := match w with
  | 0 => sp_p k p
  | 1 => sw_p k p
  | _ => te_p k p
def p00 : qn := (0, fun _ => 0)
theorem ap_bd {k w : Nat} (hk : k ≤ 4) (hw : w ≤ 2) : (q_ap k w p00).1 ≤ 24 := by
  rcases (by omega : k = 0 ∨ k = 1 ∨ k = 2 ∨ k = 3 ∨ k = 4) with rfl | rfl | rfl | rfl | rfl <;> rcases (by omega : w = 0 ∨ w = 1 ∨ w = 2) with rfl | rfl | rfl <;> decide
theorem rf1 {k : Nat} (h : k ≤ 4) : q_rf 1 k = 2 + k := by
  rcases (by omega : k = 0 ∨ k = 1 ∨ k = 2 ∨ k = 3 ∨ k = 4) with rfl | rfl | rfl | rfl | rfl <;> rfl
theorem a97 (d : Nat) {h : q_S} {i k w : Nat} (hi : i < 8) (hk : k ≤ 4) (hw : w ≤ 2) (x : Int32) : ∃ h2, q_go e_97 q_X0 (q_sem (d + 13)) 999 37 [(0, .ref 0), (1, .int (nI i)), (2, .int (nI w)), (3, .int x)] [.ref (2 + k), .ref 0] h = some (h2, some (.int (q_av k w (nI i) (h.1 14 i) x))) ∧ na_C (h.1, h.2.1, some (2 + k)) k (nI i) (h.1 14 i) (q_ap k w p00) h2 := by
  rcases (by omega : k = 0 ∨ k = 1 ∨ k = 2 ∨ k = 3 ∨ k = 4) with rfl | rfl | rfl | rfl | rfl
  · have c0 : na_C (h.1, h.2.1, some 2) 0 (nI i) (h.1 14 i) p00 (q_si (q_si (q_si (h.1, h.2.1, some 2) 2 1 0) 2 2 (nI i)) 2 3 (h.1 14 i)) := ⟨by rw [qw_si_ne (by omega), qw_si_ne (by omega), qw_si_eq]; rfl, fun _ q => absurd q (Nat.not_lt_zero _), by rw [qw_si_ne (by omega), qw_si_eq], qw_si_eq .., fun a j ha => by rw [qw_si_ne (by omega), qw_si_ne (by omega), qw_si_ne (by omega)], rfl⟩
    rcases (by omega : w = 0 ∨ w = 1 ∨ w = 2) with rfl | rfl | rfl
    · obtain ⟨h3, e3, c3⟩ := nsp_0 (d + 10) (p := p00) (by decide) c0 x
      refine ⟨h3, ?_, c3⟩
      rw [b97_37, b97_44, q_ix_n hi (by decide), m8, q_c0_s, if_pos (by decide)]
      show q_go e_97 q_X0 (q_sem (d + 13)) 997 88 [(3, .int x)] [.ref 2] _ = _
      rw [b97_88, show (h.1, h.2.1, some 2) = (h.1, h.2.1, some 2) from rfl]
      exact (congrArg (fun a => q_c1 a _) e3).trans (q_c1_s ..)
    · obtain ⟨h3, e3, c3⟩ := nsw_0 (d + 8) (p := p00) (by decide) c0 x
      refine ⟨h3, ?_, c3⟩
      rw [b97_37, b97_44, q_ix_n hi (by decide), m8, q_c0_s, if_neg (by decide), if_pos (by decide)]
      show q_go e_97 q_X0 (q_sem (d + 13)) 997 97 [(3, .int x)] [.ref 2] _ = _
      rw [b97_97, show (h.1, h.2.1, some 2) = (h.1, h.2.1, some 2) from rfl]
      exact (congrArg (fun a => q_c1 a _) e3).trans (q_c1_s ..)
    · obtain ⟨h3, e3, c3⟩ := nte_0 (d + 6) (p := p00) (by decide) c0 x
      refine ⟨h3, ?_, c3⟩
      rw [b97_37, b97_44, q_ix_n hi (by decide), m8, q_c0_s, if_neg (by decide), if_neg (by decide)]
      show q_go e_97 q_X0 (q_sem (d + 13)) 997 106 [(3, .int x)] [.ref 2] _ = _
      rw [b97_106, show (h.1, h.2.1, some 2) = (h.1, h.2.1, some 2) from rfl]
      exact (congrArg (fun a => q_c1 a _) e3).trans (q_c1_s ..)
  · have c0 : na_C (h.1, h.2.1, some 3) 1 (nI i) (h.1 14 i) p00 (q_si (q_si (q_si (h.1, h.2.1, some 3) 3 1 0) 3 2 (nI i)) 3 3 (h.1 14 i)) := ⟨by rw [qw_si_ne (by omega), qw_si_ne (by omega), qw_si_eq]; rfl, fun _ q => absurd q (Nat.not_lt_zero _), by rw [qw_si_ne (by omega), qw_si_eq], qw_si_eq .., fun a j ha => by rw [qw_si_ne (by omega), qw_si_ne (by omega), qw_si_ne (by omega)], rfl⟩
    rcases (by omega : w = 0 ∨ w = 1 ∨ w = 2) with rfl | rfl | rfl
    · obtain ⟨h3, e3, c3⟩ := nsp_1 (d + 10) (p := p00) (by decide) c0 x
      refine ⟨h3, ?_, c3⟩
      rw [b97_37_1, b97_44_1, q_ix_n hi (by decide), m8_1, q_c0_s, if_pos (by decide)]
      show q_go e_97 q_X0 (q_sem (d + 13)) 997 88 [(3, .int x)] [.ref 3] _ = _
      rw [b97_88_1, show (h.1, h.2.1, some 3) = (h.1, h.2.1, some 3) from rfl]
      exact (congrArg (fun a => q_c1 a _) e3).trans (q_c1_s ..)
    · obtain ⟨h3, e3, c3⟩ := nsw_1 (d + 8) (p := p00) (by decide) c0 x
      refine ⟨h3, ?_, c3⟩
      rw [b97_37_1, b97_44_1, q_ix_n hi (by decide), m8_1, q_c0_s, if_neg (by decide), if_pos (by decide)]
      show q_go e_97 q_X0 (q_sem (d + 13)) 997 97 [(3, .int x)] [.ref 3] _ = _
      rw [b97_97_1, show (h.1, h.2.1, some 3) = (h.1, h.2.1, some 3) from rfl]
      exact (congrArg (fun a => q_c1 a _) e3).trans (q_c1_s ..)
    · obtain ⟨h3, e3, c3⟩ := nte_1 (d + 6) (p := p00) (by decide) c0 x
      refine ⟨h3, ?_, c3⟩
      rw [b97_37_1, b97_44_1, q_ix_n hi (by decide), m8_1, q_c0_s, if_neg (by decide), if_neg (by decide)]
      show q_go e_97 q_X0 (q_sem (d + 13)) 997 106 [(3, .int x)] [.ref 3] _ = _
      rw [b97_106_1, show (h.1, h.2.1, some 3) = (h.1, h.2.1, some 3) from rfl]
      exact (congrArg (fun a => q_c1 a _) e3).trans (q_c1_s ..)
  · have c0 : na_C (h.1, h.2.1, some 4) 2 (nI i) (h.1 14 i) p00 (q_si (q_si (q_si (h.1, h.2.1, some 4) 4 1 0) 4 2 (nI i)) 4 3 (h.1 14 i)) := ⟨by rw [qw_si_ne (by omega), qw_si_ne (by omega), qw_si_eq]; rfl, fun _ q => absurd q (Nat.not_lt_zero _), by rw [qw_si_ne (by omega), qw_si_eq], qw_si_eq .., fun a j ha => by rw [qw_si_ne (by omega), qw_si_ne (by omega), qw_si_ne (by omega)], rfl⟩
    rcases (by omega : w = 0 ∨ w = 1 ∨ w = 2) with rfl | rfl | rfl
    · obtain ⟨h3, e3, c3⟩ := nsp_2 (d + 10) (p := p00) (by decide) c0 x
      refine ⟨h3, ?_, c3⟩
      rw [b97_37_2, b97_44_2, q_ix_n hi (by decide), m8_2, q_c0_s, if_pos (by decide)]
      show q_go e_97 q_X0 (q_sem (d + 13)) 997 88 [(3, .int x)] [.ref 4] _ = _
      rw [b97_88_2, show (h.1, h.2.1, some 4) = (h.1, h.2.1, some 4) from rfl]
      exact (congrArg (fun a => q_c1 a _) e3).trans (q_c1_s ..)
    · obtain ⟨h3, e3, c3⟩ := nsw_2 (d + 8) (p := p00) (by decide) c0 x
      refine ⟨h3, ?_, c3⟩
      rw [b97_37_2, b97_44_2, q_ix_n hi (by decide), m8_2, q_c0_s, if_neg (by decide), if_pos (by decide)]
      show q_go e_97 q_X0 (q_sem (d + 13)) 997 97 [(3, .int x)] [.ref 4] _ = _
      rw [b97_97_2, show (h.1, h.2.1, some 4) = (h.1, h.2.1, some 4) from rfl]
      exact (congrArg (fun a => q_c1 a _) e3).trans (q_c1_s ..)
    · obtain ⟨h3, e3, c3⟩ := nte_2 (d + 6) (p := p00) (by decide) c0 x
      refine ⟨h3, ?_, c3⟩
      rw [b97_37_2, b97_44_2, q_ix_n hi (by decide), m8_2, q_c0_s, if_neg (by decide), if_neg (by decide)]
      show q_go e_97 q_X0 (q_sem (d + 13)) 997 106 [(3, .int x)] [.ref 4] _ = _
      rw [b97_106_2, show (h.1, h.2.1, some 4) = (h.1, h.2.1, some 4) from rfl]
      exact (congrArg (fun a => q_c1 a _) e3).trans (q_c1_s ..)
  · have c0 : na_C (h.1, h.2.1, some 5) 3 (nI i) (h.1 14 i) p00 (q_si (q_si (q_si (h.1, h.2.1, some 5) 5 1 0) 5 2 (nI i)) 5 3 (h.1 14 i)) := ⟨by rw [qw_si_ne (by omega), qw_si_ne (by omega), qw_si_eq]; rfl, fun _ q => absurd q (Nat.not_lt_zero _), by rw [qw_si_ne (by omega), qw_si_eq], qw_si_eq .., fun a j ha => by rw [qw_si_ne (by omega), qw_si_ne (by omega), qw_si_ne (by omega)], rfl⟩
    rcases (by omega : w = 0 ∨ w = 1 ∨ w = 2) with rfl | rfl | rfl
    · obtain ⟨h3, e3, c3⟩ := nsp_3 (d + 10) (p := p00) (by decide) c0 x
      refine ⟨h3, ?_, c3⟩
      rw [b97_37_3, b97_44_3, q_ix_n hi (by decide), m8_3, q_c0_s, if_pos (by decide)]
      show q_go e_97 q_X0 (q_sem (d + 13)) 997 88 [(3, .int x)] [.ref 5] _ = _
      rw [b97_88_3, show (h.1, h.2.1, some 5) = (h.1, h.2.1, some 5) from rfl]
      exact (congrArg (fun a => q_c1 a _) e3).trans (q_c1_s ..)
    · obtain ⟨h3, e3, c3⟩ := nsw_3 (d + 8) (p := p00) (by decide) c0 x
      refine ⟨h3, ?_, c3⟩
      rw [b97_37_3, b97_44_3, q_ix_n hi (by decide), m8_3, q_c0_s, if_neg (by decide), if_pos (by decide)]
      show q_go e_97 q_X0 (q_sem (d + 13)) 997 97 [(3, .int x)] [.ref 5] _ = _
      rw [b97_97_3, show (h.1, h.2.1, some 5) = (h.1, h.2.1, some 5) from rfl]
      exact (congrArg (fun a => q_c1 a _) e3).trans (q_c1_s ..)
    · obtain ⟨h3, e3, c3⟩ := nte_3 (d + 6) (p := p00) (by decide) c0 x
      refine ⟨h3, ?_, c3⟩
      rw [b97_37_3, b97_44_3, q_ix_n hi (by decide), m8_3, q_c0_s, if_neg (by decide), if_neg (by decide)]
      show q_go e_97 q_X0 (q_sem (d + 13)) 997 106 [(3, .int x)] [.ref 5] _ = _
      rw [b97_106_3, show (h.1, h.2.1, some 5) = (h.1, h.2.1, some 5) from rfl]
      exact (congrArg (fun a => q_c1 a _) e3).trans (q_c1_s ..)
  · have c0 : na_C (h.1, h.2.1, some 6) 4 (nI i) (h.1 14 i) p00 (q_si (q_si (q_si (h.1, h.2.1, some 6) 6 1 0) 6 2 (nI i)) 6 3 (h.1 14 i)) := ⟨by rw [qw_si_ne (by omega), qw_si_ne (by omega), qw_si_eq]; rfl, fun _ q => absurd q (Nat.not_lt_zero _), by rw [qw_si_ne (by omega), qw_si_eq], qw_si_eq .., fun a j ha => by rw [qw_si_ne (by omega), qw_si_ne (by omega), qw_si_ne (by omega)], rfl⟩
    rcases (by omega : w = 0 ∨ w = 1 ∨ w = 2) with rfl | rfl | rfl
    · obtain ⟨h3, e3, c3⟩ := nsp_4 (d + 10) (p := p00) (by decide) c0 x
      refine ⟨h3, ?_, c3⟩
      rw [b97_37_4, b97_44_4, q_ix_n hi (by decide), m8_4, q_c0_s, if_pos (by decide)]
      show q_go e_97 q_X0 (q_sem (d + 13)) 997 88 [(3, .int x)] [.ref 6] _ = _
      rw [b97_88_4, show (h.1, h.2.1, some 6) = (h.1, h.2.1, some 6) from rfl]
      exact (congrArg (fun a => q_c1 a _) e3).trans (q_c1_s ..)
    · obtain ⟨h3, e3, c3⟩ := nsw_4 (d + 8) (p := p00) (by decide) c0 x
      refine ⟨h3, ?_, c3⟩
      rw [b97_37_4, b97_44_4, q_ix_n hi (by decide), m8_4, q_c0_s, if_neg (by decide), if_pos (by decide)]
      show q_go e_97 q_X0 (q_sem (d + 13)) 997 97 [(3, .int x)] [.ref 6] _ = _
      rw [b97_97_4, show (h.1, h.2.1, some 6) = (h.1, h.2.1, some 6) from rfl]
      exact (congrArg (fun a => q_c1 a _) e3).trans (q_c1_s ..)
    · obtain ⟨h3, e3, c3⟩ := nte_4 (d + 6) (p := p00) (by decide) c0 x
      refine ⟨h3, ?_, c3⟩
      rw [b97_37_4, b97_44_4, q_ix_n hi (by decide), m8_4, q_c0_s, if_neg (by decide), if_neg (by decide)]
      show q_go e_97 q_X0 (q_sem (d + 13)) 997 106 [(3, .int x)] [.ref 6] _ = _
      rw [b97_106_4, show (h.1, h.2.1, some 6) = (h.1, h.2.1, some 6) from rfl]
      exact (congrArg (fun a => q_c1 a _) e3).trans (q_c1_s ..)
theorem a197 (d : Nat) {h : q_S} {i k w M : Nat} (hi : i < 8) (hk : k ≤ 4) (hw : w ≤ 2) (k0 : h.1 68 i = nI k) (m0 : h.1 69 i = nI M) (x : Int32) : ∃ h2, (if nI w = 0 then q_c1 (q_sem (d + 13) 194 (q_si h 67 39 0) [.ref 67, .int (nI i), .int x]) (fun h5 v6 => some (h5, some (.int v6))) else if nI w = 1 then q_c1 (q_sem (d + 13) 195 (q_si h 67 39 0) [.ref 67, .int (nI i), .int x]) (fun h5 v6 => some (h5, some (.int v6))) else q_c1 (q_sem (d + 13) 196 (q_si h 67 39 0) [.ref 67, .int (nI i), .int x]) (fun h5 v6 => some (h5, some (.int v6)))) = some (h2, some (.int (q_av k w (nI i) (nI M) x))) ∧ na_R h (q_ap k w p00) h2 := by
  have c0 : na_R h p00 (q_si h 67 39 0) := ⟨qw_si_eq .., fun _ q => absurd q (Nat.not_lt_zero _), fun a j ha hb => qw_si_ne (by omega), rfl⟩
  rcases (by omega : k = 0 ∨ k = 1 ∨ k = 2 ∨ k = 3 ∨ k = 4) with rfl | rfl | rfl | rfl | rfl
  · rcases (by omega : w = 0 ∨ w = 1 ∨ w = 2) with rfl | rfl | rfl
    · obtain ⟨h3, e3, c3⟩ := rsp_0 (d + 10) i M hi k0 m0 (p := p00) (by decide) c0 x
      exact ⟨h3, by rw [if_pos (by decide), e3, q_c1_s]; rfl, c3⟩
    · obtain ⟨h3, e3, c3⟩ := rsw_0 (d + 8) i M hi k0 m0 (p := p00) (by decide) c0 x
      exact ⟨h3, by rw [if_neg (by decide), if_pos (by decide), e3, q_c1_s]; rfl, c3⟩
    · obtain ⟨h3, e3, c3⟩ := rte_0 (d + 6) i M hi k0 m0 (p := p00) (by decide) c0 x
      exact ⟨h3, by rw [if_neg (by decide), if_neg (by decide), e3, q_c1_s]; rfl, c3⟩
  · rcases (by omega : w = 0 ∨ w = 1 ∨ w = 2) with rfl | rfl | rfl
    · obtain ⟨h3, e3, c3⟩ := rsp_1 (d + 10) i M hi k0 m0 (p := p00) (by decide) c0 x
      exact ⟨h3, by rw [if_pos (by decide), e3, q_c1_s]; rfl, c3⟩
    · obtain ⟨h3, e3, c3⟩ := rsw_1 (d + 8) i M hi k0 m0 (p := p00) (by decide) c0 x
      exact ⟨h3, by rw [if_neg (by decide), if_pos (by decide), e3, q_c1_s]; rfl, c3⟩
    · obtain ⟨h3, e3, c3⟩ := rte_1 (d + 6) i M hi k0 m0 (p := p00) (by decide) c0 x
      exact ⟨h3, by rw [if_neg (by decide), if_neg (by decide), e3, q_c1_s]; rfl, c3⟩
  · rcases (by omega : w = 0 ∨ w = 1 ∨ w = 2) with rfl | rfl | rfl
    · obtain ⟨h3, e3, c3⟩ := rsp_2 (d + 10) i M hi k0 m0 (p := p00) (by decide) c0 x
      exact ⟨h3, by rw [if_pos (by decide), e3, q_c1_s]; rfl, c3⟩
    · obtain ⟨h3, e3, c3⟩ := rsw_2 (d + 8) i M hi k0 m0 (p := p00) (by decide) c0 x
      exact ⟨h3, by rw [if_neg (by decide), if_pos (by decide), e3, q_c1_s]; rfl, c3⟩
    · obtain ⟨h3, e3, c3⟩ := rte_2 (d + 6) i M hi k0 m0 (p := p00) (by decide) c0 x
      exact ⟨h3, by rw [if_neg (by decide), if_neg (by decide), e3, q_c1_s]; rfl, c3⟩
  · rcases (by omega : w = 0 ∨ w = 1 ∨ w = 2) with rfl | rfl | rfl
    · obtain ⟨h3, e3, c3⟩ := rsp_3 (d + 10) i M hi k0 m0 (p := p00) (by decide) c0 x
      exact ⟨h3, by rw [if_pos (by decide), e3, q_c1_s]; rfl, c3⟩
    · obtain ⟨h3, e3, c3⟩ := rsw_3 (d + 8) i M hi k0 m0 (p := p00) (by decide) c0 x
      exact ⟨h3, by rw [if_neg (by decide), if_pos (by decide), e3, q_c1_s]; rfl, c3⟩
    · obtain ⟨h3, e3, c3⟩ := rte_3 (d + 6) i M hi k0 m0 (p := p00) (by decide) c0 x
      exact ⟨h3, by rw [if_neg (by decide), if_neg (by decide), e3, q_c1_s]; rfl, c3⟩
  · rcases (by omega : w = 0 ∨ w = 1 ∨ w = 2) with rfl | rfl | rfl
    · obtain ⟨h3, e3, c3⟩ := rsp_4 (d + 10) i M hi k0 m0 (p := p00) (by decide) c0 x
      exact ⟨h3, by rw [if_pos (by decide), e3, q_c1_s]; rfl, c3⟩
    · obtain ⟨h3, e3, c3⟩ := rsw_4 (d + 8) i M hi k0 m0 (p := p00) (by decide) c0 x
      exact ⟨h3, by rw [if_neg (by decide), if_pos (by decide), e3, q_c1_s]; rfl, c3⟩
    · obtain ⟨h3, e3, c3⟩ := rte_4 (d + 6) i M hi k0 m0 (p := p00) (by decide) c0 x
      exact ⟨h3, by rw [if_neg (by decide), if_neg (by decide), e3, q_c1_s]; rfl, c3⟩
def qt_n (t : qT) (p : qn) : qT := fun a j => if a = 0 ∧ j = 10 then nI p.1 else if a = 9 then p.2 j else t a j
theorem tn_ne {t : qT} {p : qn} {a j : Nat} (h : ¬ ((a = 0 ∧ j = 10) ∨ a = 9)) : qt_n t p a j = t a j := by unfold qt_n; rw [if_neg (by omega), if_neg (by omega)]
theorem tn_10 {t : qT} {p : qn} : qt_n t p 0 10 = nI p.1 := if_pos ⟨rfl, rfl⟩
theorem tn_9 {t : qT} {p : qn} {j : Nat} : qt_n t p 9 j = p.2 j := by unfold qt_n; rw [if_neg (by omega), if_pos rfl]
theorem c97 (x1 x2 x3 : Int32) : qs_st 97 197 [.int x1, .int x2, .int x3] := by
  intro s hs
  have h8 := hs.1.1
  by_cases ga : qg_d s.1 x1
  · by_cases gb : qg_2 x2
    · obtain ⟨i, hi, rfl⟩ := qg_dN h8 ga
      obtain ⟨w, hw, rfl⟩ := qg_rN gb
      have hk := (hs.1.2.2.2.1 i (by omega)).1
      obtain ⟨l, m, t, P⟩ := s
      have hk : l 1 i ≤ 4 := hk
      have hb := ap_bd hk (show w ≤ 2 by omega)
      refine ⟨.int (q_av (l 1 i) w (nI i) (nI (l 2 i)) x3), (l, m, qt_n t (q_ap (l 1 i) w p00), P), ?_, fun d h hc => ?_, fun d h hc => ?_⟩
      · obtain ⟨a, b, c, d, e, f, g⟩ := hs
        exact mk_ok a (f_im (fun _ _ _ => tn_ne (by omega)) b) (f_or (fun _ _ _ => tn_ne (by omega)) c) (f_ch (fun _ _ _ => tn_ne (by omega)) d) (f_tp (fun _ _ _ => tn_ne (by omega)) e) (f_rw (fun _ _ _ => tn_ne (by omega)) f) ⟨_, hb, tn_10⟩
      · obtain ⟨h2, e2, c1, c2, c3, c4, c5, c6⟩ := a97 d (h := h) (i := i) (k := l 1 i) (w := w) (by omega) hk (by omega) x3
        have e14 : h.1 14 i = nI (l 2 i) := hc.1.2.2.2 2 i (by omega) (by omega) (by omega)
        have e13 : h.1 13 i = nI (l 1 i) := hc.1.2.2.2 1 i (by omega) (by omega) (by omega)
        rw [e14] at e2
        refine ⟨h2, ?_, ?_⟩
        · rw [m97, s19p _ hc.1 ga, q_c1_s, if_neg (by decide), if_neg gb.1, if_neg gb.2, q_ix_n (by omega) (by decide), e13, q_ix_n (by omega) (by decide), rf1 hk]
          exact e2
        · obtain ⟨a1, a2, a3, a4, a5, a6, a7, a8⟩ := hc
          have fl : h2.2.1 = h.2.1 := by rw [c6]
          have fr : ∀ a j, ¬ (2 ≤ a ∧ a ≤ 11) → h2.1 a j = h.1 a j := c5
          exact mk_C (f_c1 (fun a j q => fr a j (by omega)) a1) (f_c2 (fun a j q => fr a j (by omega)) (fun _ _ _ => tn_ne (by omega)) a2) (f_c3 (fun a j q => fr a j (by omega)) (fun _ _ _ => tn_ne (by omega)) a3) (f_c4 (fun a j q => fr a j (by omega)) (fun _ _ _ => tn_ne (by omega)) a4) (f_c5 (fun a j q => fr a j (by omega)) (fun _ _ _ => tn_ne (by omega)) a5) (f_c6 (fun a j q => fr a j (by omega)) (fun _ _ _ => by rw [fl]) (fun _ _ _ => tn_ne (by omega)) a6) (Or.inr ⟨l 1 i, by omega, by rw [c6], c1.trans tn_10.symm, fun j hj e => (c2 j (by
              rw [tn_10, nI_lt_iff (by omega) (by omega)] at e
              exact e)).trans tn_9.symm⟩) (f_z (fun _ _ _ => by rw [fl]) a8)
      · obtain ⟨h2, e2, c1, c2, c5, c6⟩ := a197 d (h := h) (i := i) (k := l 1 i) (w := w) (M := l 2 i) (by omega) hk (by omega) (hc.1.2.2.2 1 i (by omega) (by omega) (by omega)) (hc.1.2.2.2 2 i (by omega) (by omega) (by omega)) x3
        refine ⟨h2, ?_, ?_⟩
        · rw [m197, s121p _ hs.1 hc.1 ga, q_c1_s, if_neg (by decide), s120p _ _ gb.1 gb.2, q_c1_s, if_neg (by decide)]
          exact e2
        · obtain ⟨a1, a2, a3, a4, a5, a6, a7⟩ := hc
          exact mk_R (f_r1 (fun a j q => c5 a j (by omega) (by omega)) a1) (f_r2 (fun a j q => c5 a j (by omega) (by omega)) (fun _ _ _ => tn_ne (by omega)) a2) (f_r3 (fun a j q => c5 a j (by omega) (by omega)) (fun _ _ _ => tn_ne (by omega)) a3) (f_r4 (fun a j q => c5 a j (by omega) (by omega)) (fun _ _ _ => tn_ne (by omega)) a4) (f_r5 (fun a j q => c5 a j (by omega) (by omega)) (fun _ _ _ => tn_ne (by omega)) a5) (f_r6 (fun a j q => c5 a j (by omega) (by omega)) (fun _ _ _ => by rw [c6]) (fun _ _ _ => tn_ne (by omega)) a6) ⟨c1.trans tn_10.symm, fun j hj e => (c2 j (by
              rw [tn_10, nI_lt_iff (by omega) (by omega)] at e
              exact e)).trans tn_9.symm⟩
    · refine qs_no (.int 0) hs ?_ ?_
      · intro d h hc
        rw [m97, s19p _ hc.1 ga, q_c1_s, if_neg (by decide)]
        by_cases a : x2 < 0
        · rw [if_pos a]
        · rw [if_neg a, if_pos (Classical.byContradiction fun b => gb ⟨a, b⟩)]
      · intro d h hc
        rw [m197, s121p _ hs.1 hc.1 ga, q_c1_s, if_neg (by decide), s120n _ _ gb, q_c1_s, if_pos rfl]
  · refine qs_no (.int 0) hs ?_ ?_
    · intro d h hc
      rw [m97, s19n _ hc.1 ga, q_c1_s, if_pos rfl]
    · intro d h hc
      rw [m197, s121n _ hs.1 hc.1 ga, q_c1_s, if_pos rfl]
