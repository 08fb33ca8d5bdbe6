/-! ===== read: the text, and where its fault is ===== -/
abbrev qg_f (x : Int32) : Prop := ¬ x < 48 ∧ ¬ 57 < x
def qd_nk (x : Int32) : Nat := if x = 98 then 2 else if x = 100 then 3 else if x = 103 then 2 else if x = 105 then 2 else if x = 107 then 2 else if x = 110 then 1 else if x = 119 then 1 else if x = 120 then 0 else 9
def qd_nb (x : Int32) : Int32 := if qd_nk x = 9 then -1 else nI (qd_nk x)
theorem nk_le (x : Int32) : qd_nk x = 9 ∨ qd_nk x ≤ 3 := by
  unfold qd_nk
  repeat' split
  all_goals omega
theorem nk_in {x : Int32} (h : qd_nk x ≠ 9) : x = 98 ∨ x = 100 ∨ x = 103 ∨ x = 105 ∨ x = 107 ∨ x = 110 ∨ x = 119 ∨ x = 120 := by
  by_cases a : x = 98
  · exact Or.inl a
  by_cases b : x = 100
  · exact Or.inr (Or.inl b)
  by_cases c : x = 103
  · exact Or.inr (Or.inr (Or.inl c))
  by_cases d : x = 105
  · exact Or.inr (Or.inr (Or.inr (Or.inl d)))
  by_cases e : x = 107
  · exact Or.inr (Or.inr (Or.inr (Or.inr (Or.inl e))))
  by_cases f : x = 110
  · exact Or.inr (Or.inr (Or.inr (Or.inr (Or.inr (Or.inl f)))))
  by_cases g : x = 119
  · exact Or.inr (Or.inr (Or.inr (Or.inr (Or.inr (Or.inr (Or.inl g))))))
  by_cases i : x = 120
  · exact Or.inr (Or.inr (Or.inr (Or.inr (Or.inr (Or.inr (Or.inr i))))))
  exact absurd (by unfold qd_nk; rw [if_neg a, if_neg b, if_neg c, if_neg d, if_neg e, if_neg f, if_neg g, if_neg i]) h
theorem s56 (d : Nat) (h : q_S) (x : Int32) : q_sem (d + 1) 56 h [.int x] = some (h, some (.int (qd_nb x))) := by
  rw [m56]
  by_cases e98 : x = 98
  · subst e98; rfl
  by_cases e99 : x = 99
  · subst e99; rfl
  by_cases e100 : x = 100
  · subst e100; rfl
  by_cases e101 : x = 101
  · subst e101; rfl
  by_cases e102 : x = 102
  · subst e102; rfl
  by_cases e103 : x = 103
  · subst e103; rfl
  by_cases e104 : x = 104
  · subst e104; rfl
  by_cases e105 : x = 105
  · subst e105; rfl
  by_cases e106 : x = 106
  · subst e106; rfl
  by_cases e107 : x = 107
  · subst e107; rfl
  by_cases e108 : x = 108
  · subst e108; rfl
  by_cases e109 : x = 109
  · subst e109; rfl
  by_cases e110 : x = 110
  · subst e110; rfl
  by_cases e111 : x = 111
  · subst e111; rfl
  by_cases e112 : x = 112
  · subst e112; rfl
  by_cases e113 : x = 113
  · subst e113; rfl
  by_cases e114 : x = 114
  · subst e114; rfl
  by_cases e115 : x = 115
  · subst e115; rfl
  by_cases e116 : x = 116
  · subst e116; rfl
  by_cases e117 : x = 117
  · subst e117; rfl
  by_cases e118 : x = 118
  · subst e118; rfl
  by_cases e119 : x = 119
  · subst e119; rfl
  by_cases e120 : x = 120
  · subst e120; rfl
  rw [if_neg e98, if_neg e99, if_neg e100, if_neg e101, if_neg e102, if_neg e103, if_neg e104, if_neg e105, if_neg e106, if_neg e107, if_neg e108, if_neg e109, if_neg e110, if_neg e111, if_neg e112, if_neg e113, if_neg e114, if_neg e115, if_neg e116, if_neg e117, if_neg e118, if_neg e119, if_neg e120]
  rw [qd_nb, if_pos (show qd_nk x = 9 by unfold qd_nk; rw [if_neg e98, if_neg e100, if_neg e103, if_neg e105, if_neg e107, if_neg e110, if_neg e119, if_neg e120])]
theorem s187 (d : Nat) (h : q_S) (x : Int32) : q_sem (d + 1) 187 h [.int x] = some (h, some (.int (qd_nb x))) := by
  rw [m187]
  by_cases e98 : x = 98
  · subst e98; rfl
  by_cases e99 : x = 99
  · subst e99; rfl
  by_cases e100 : x = 100
  · subst e100; rfl
  by_cases e101 : x = 101
  · subst e101; rfl
  by_cases e102 : x = 102
  · subst e102; rfl
  by_cases e103 : x = 103
  · subst e103; rfl
  by_cases e104 : x = 104
  · subst e104; rfl
  by_cases e105 : x = 105
  · subst e105; rfl
  by_cases e106 : x = 106
  · subst e106; rfl
  by_cases e107 : x = 107
  · subst e107; rfl
  by_cases e108 : x = 108
  · subst e108; rfl
  by_cases e109 : x = 109
  · subst e109; rfl
  by_cases e110 : x = 110
  · subst e110; rfl
  by_cases e111 : x = 111
  · subst e111; rfl
  by_cases e112 : x = 112
  · subst e112; rfl
  by_cases e113 : x = 113
  · subst e113; rfl
  by_cases e114 : x = 114
  · subst e114; rfl
  by_cases e115 : x = 115
  · subst e115; rfl
  by_cases e116 : x = 116
  · subst e116; rfl
  by_cases e117 : x = 117
  · subst e117; rfl
  by_cases e118 : x = 118
  · subst e118; rfl
  by_cases e119 : x = 119
  · subst e119; rfl
  by_cases e120 : x = 120
  · subst e120; rfl
  rw [if_neg e98, if_neg e99, if_neg e100, if_neg e101, if_neg e102, if_neg e103, if_neg e104, if_neg e105, if_neg e106, if_neg e107, if_neg e108, if_neg e109, if_neg e110, if_neg e111, if_neg e112, if_neg e113, if_neg e114, if_neg e115, if_neg e116, if_neg e117, if_neg e118, if_neg e119, if_neg e120]
  rw [qd_nb, if_pos (show qd_nk x = 9 by unfold qd_nk; rw [if_neg e98, if_neg e100, if_neg e103, if_neg e105, if_neg e107, if_neg e110, if_neg e119, if_neg e120])]
theorem s57p (d : Nat) (h : q_S) {x : Int32} (g : qg_f x) : q_sem (d + 1) 57 h [.int x] = some (h, some (.int 1)) := by
  rw [m57, if_neg g.1, if_neg g.2]
theorem s57n (d : Nat) (h : q_S) {x : Int32} (g : ¬ qg_f x) : q_sem (d + 1) 57 h [.int x] = some (h, some (.int 0)) := by
  rw [m57]
  by_cases a : x < 48
  · rw [if_pos a]
  · rw [if_neg a, if_pos (Classical.byContradiction fun b => g ⟨a, b⟩)]
def qd_ne (X : Nat → Int32) (i : Nat) : Nat := if qg_f (X (i + 1)) then i + 2 else i + 1
def qd_nv (X : Nat → Int32) (i : Nat) : Int32 := if qg_f (X (i + 1)) then 10 * (X i - 48) + X (i + 1) - 48 else X i - 48
/-- so many numbers from here: where it fails, or where it ends -/
def qd_ns (X : Nat → Int32) : Nat → Nat → Nat ⊕ Nat
  | 0, i => .inr i
  | k + 1, i => if qg_f (X i) then (if k = 0 then .inr (qd_ne X i) else if X (qd_ne X i) = 44 then qd_ns X k (qd_ne X i + 1) else .inl (qd_ne X i)) else .inl i
def qd_ac (X : Nat → Int32) (i : Nat) : Nat ⊕ Nat := if qd_nk (X i) = 9 then .inl i else qd_ns X (qd_nk (X i)) (i + 1)
/-- where the fault is -/
def qd_fl (X : Nat → Int32) (n : Nat) : Nat → Nat → Option Nat
  | 0, i => some i
  | g + 1, i => match qd_ac X i with
    | .inl p => some p
    | .inr e => if X e = 59 then qd_fl X n g (e + 1) else if e = n then none else some e
def qd_fr : Option Nat → Int32
  | none => -1
  | some p => nI p
theorem nf_m1 : ¬ qg_f (-1) := fun g => g.1 (by decide)
theorem nf_44 : ¬ qg_f 44 := fun g => g.1 (by decide)
theorem nf_59 : ¬ qg_f 59 := fun g => g.2 (by decide)
theorem ne_p {X : Nat → Int32} {i : Nat} (g : qg_f (X (i + 1))) : qd_ne X i = i + 2 := if_pos g
theorem ne_n {X : Nat → Int32} {i : Nat} (g : ¬ qg_f (X (i + 1))) : qd_ne X i = i + 1 := if_neg g
theorem ne_lt {X : Nat → Int32} {i : Nat} : i < qd_ne X i := by
  by_cases g : qg_f (X (i + 1))
  · rw [ne_p g]; omega
  · rw [ne_n g]; omega
theorem X_lt {X : Nat → Int32} {n : Nat} (hX : ∀ i, n ≤ i → X i = -1) {i : Nat} (h : X i ≠ -1) : i < n := Classical.byContradiction fun q => h (hX i (by omega))
theorem f_lt {X : Nat → Int32} {n : Nat} (hX : ∀ i, n ≤ i → X i = -1) {i : Nat} (g : qg_f (X i)) : i < n := X_lt hX fun e => nf_m1 (e ▸ g)
theorem ne_le {X : Nat → Int32} {n : Nat} (hX : ∀ i, n ≤ i → X i = -1) {i : Nat} (g : qg_f (X i)) : qd_ne X i ≤ n := by
  by_cases g2 : qg_f (X (i + 1))
  · have := f_lt hX g2
    rw [ne_p g2]; omega
  · have := f_lt hX g
    rw [ne_n g2]; omega
theorem ns_bd {X : Nat → Int32} {n : Nat} (hX : ∀ i, n ≤ i → X i = -1) : ∀ k i e, qd_ns X k i = .inr e → i ≤ e ∧ (1 ≤ k → i < e ∧ e ≤ n) := by
  intro k
  induction k with
  | zero =>
    intro i e h
    rw [qd_ns] at h
    injection h with h
    exact ⟨by omega, fun q => by omega⟩
  | succ k ih =>
    intro i e h
    rw [qd_ns] at h
    by_cases g : qg_f (X i)
    · have l1 := ne_lt (X := X) (i := i)
      have l2 := ne_le hX g
      rw [if_pos g] at h
      by_cases z : k = 0
      · rw [if_pos z] at h
        injection h with h
        exact ⟨by omega, fun q => by omega⟩
      · rw [if_neg z] at h
        by_cases w : X (qd_ne X i) = 44
        · rw [if_pos w] at h
          have := ih _ _ h
          have := this.2 (by omega)
          exact ⟨by omega, fun q => by omega⟩
        · rw [if_neg w] at h
          cases h
    · rw [if_neg g] at h
      cases h
theorem ac_bd {X : Nat → Int32} {n : Nat} (hX : ∀ i, n ≤ i → X i = -1) {i e : Nat} (h : qd_ac X i = .inr e) : qd_nk (X i) ≠ 9 ∧ i < n ∧ i < e ∧ e ≤ n := by
  unfold qd_ac at h
  by_cases z : qd_nk (X i) = 9
  · rw [if_pos z] at h
    cases h
  · have l := X_lt hX (i := i) (fun q => z (by rw [q]; decide))
    rw [if_neg z] at h
    have b := ns_bd hX _ _ _ h
    rcases Nat.eq_zero_or_pos (qd_nk (X i)) with w | w
    · rw [w, qd_ns] at h
      injection h with h
      exact ⟨z, by omega, by omega, by omega⟩
    · have := b.2 w
      exact ⟨z, by omega, by omega, by omega⟩
theorem w58 {X : Nat → Int32} {n : Nat} (hn : n ≤ 80) (hX : ∀ i, n ≤ i → X i = -1) {h : q_S} (e1 : h.1 57 1 = nI n) (e2 : ∀ i, i < n → h.1 58 i = X i) (d f : Nat) {w x2 : Int32} {e : Nat} (hw : (w = 2 ∧ ¬ qg_f (X e)) ∨ w = 3) (he : e < n) : q_go e_58 q_X0 (q_sem (d + 1)) (f + 1) 6 [(0, .ref 57), (1, .int w), (2, .int x2), (3, .int (nI e))] [] h = q_go e_58 q_X0 (q_sem (d + 1)) f 92 [(0, .ref 57), (2, .int x2), (3, .int (nI e)), (4, .int (X e))] [] h := by
  rw [b58_6, e1, if_pos (by rw [nI_lt_iff (by omega) (by omega)]; exact he), q_ix_n (by omega) (by decide), e2 e he]
  rcases hw with ⟨rfl, g⟩ | rfl
  · rw [if_neg (by decide), if_neg (by decide), if_pos rfl, s57n _ _ g, q_c1_s, if_pos rfl]
  · rw [if_neg (by decide), if_neg (by decide), if_neg (by decide)]
theorem l58n {X : Nat → Int32} {n : Nat} (hn : n ≤ 80) (hX : ∀ i, n ≤ i → X i = -1) {h : q_S} (e1 : h.1 57 1 = nI n) (e2 : ∀ i, i < n → h.1 58 i = X i) (d : Nat) : ∀ k i f, k ≤ 2 → i ≤ n → 2 * (n - i) + 1 < f → (match qd_ns X (k + 1) i with
    | .inl p => q_go e_58 q_X0 (q_sem (d + 1)) f 6 [(0, .ref 57), (1, .int 1), (2, .int (nI (k + 1))), (3, .int (nI i))] [] h = some (h, some (.int (nI p)))
    | .inr e => ∃ f' w, 2 * (n - e) + 1 < f' ∧ ((w = 2 ∧ ¬ qg_f (X e)) ∨ w = 3) ∧ q_go e_58 q_X0 (q_sem (d + 1)) f 6 [(0, .ref 57), (1, .int 1), (2, .int (nI (k + 1))), (3, .int (nI i))] [] h = q_go e_58 q_X0 (q_sem (d + 1)) f' 6 [(0, .ref 57), (1, .int w), (2, .int 0), (3, .int (nI e))] [] h) := by
  intro k
  induction k with
  | zero =>
    intro i f _ hi hf
    obtain ⟨f, rfl⟩ : ∃ g, f = g + 1 := ⟨f - 1, by omega⟩
    rw [qd_ns]
    by_cases g : qg_f (X i)
    · have il := f_lt hX g
      obtain ⟨f, rfl⟩ : ∃ g, f = g + 1 := ⟨f - 1, by omega⟩
      rw [if_pos g, if_pos rfl]
      by_cases g2 : qg_f (X (i + 1))
      · have il2 := f_lt hX g2
        rw [ne_p g2]
        refine ⟨f, 3, by omega, Or.inr rfl, ?_⟩
        rw [b58_6, e1, if_pos (by rw [nI_lt_iff (by omega) (by omega)]; exact il), q_ix_n (by omega) (by decide), e2 i il, if_neg (by decide), if_pos rfl, s57p _ _ g, q_c1_s, if_neg (by decide), nI_p1, b58_6, e1, if_pos (by rw [nI_lt_iff (by omega) (by omega)]; exact il2), q_ix_n (by omega) (by decide), e2 _ il2, if_neg (by decide), if_neg (by decide), if_pos rfl, s57p _ _ g2, q_c1_s, if_neg (by decide), nI_p1]
        rfl
      · rw [ne_n g2]
        refine ⟨f + 1, 2, by omega, Or.inl ⟨rfl, g2⟩, ?_⟩
        rw [b58_6, e1, if_pos (by rw [nI_lt_iff (by omega) (by omega)]; exact il), q_ix_n (by omega) (by decide), e2 i il, if_neg (by decide), if_pos rfl, s57p _ _ g, q_c1_s, if_neg (by decide), nI_p1]
        rfl
    · rw [if_neg g]
      show q_go _ _ _ _ _ _ _ _ = _
      rw [b58_6, e1]
      by_cases il : i < n
      · rw [if_pos (by rw [nI_lt_iff (by omega) (by omega)]; exact il), q_ix_n (by omega) (by decide), e2 i il, if_neg (by decide), if_pos rfl, s57n _ _ g, q_c1_s, if_pos rfl]
      · rw [if_neg (by rw [nI_lt_iff (by omega) (by omega)]; exact il), if_pos (by decide), if_pos rfl, show i = n by omega]
  | succ k ih =>
    intro i f hk hi hf
    obtain ⟨f, rfl⟩ : ∃ g, f = g + 1 := ⟨f - 1, by omega⟩
    rw [qd_ns]
    by_cases g : qg_f (X i)
    · have il := f_lt hX g
      have nl := ne_le hX g
      obtain ⟨f, rfl⟩ : ∃ g, f = g + 1 := ⟨f - 1, by omega⟩
      have st : ∃ f' w, 2 * (n - qd_ne X i) + 1 < f' ∧ ((w = 2 ∧ ¬ qg_f (X (qd_ne X i))) ∨ w = 3) ∧ q_go e_58 q_X0 (q_sem (d + 1)) (f + 1 + 1) 6 [(0, .ref 57), (1, .int 1), (2, .int (nI (k + 1 + 1))), (3, .int (nI i))] [] h = q_go e_58 q_X0 (q_sem (d + 1)) f' 6 [(0, .ref 57), (1, .int w), (2, .int (nI (k + 1))), (3, .int (nI (qd_ne X i)))] [] h := by
        have km : nI (k + 1 + 1) + (-1) = nI (k + 1) := by rw [← Int32.sub_eq_add_neg, nI_m1]
        by_cases g2 : qg_f (X (i + 1))
        · have il2 := f_lt hX g2
          rw [ne_p g2]
          refine ⟨f, 3, by omega, Or.inr rfl, ?_⟩
          rw [b58_6, e1, if_pos (by rw [nI_lt_iff (by omega) (by omega)]; exact il), q_ix_n (by omega) (by decide), e2 i il, if_neg (by decide), if_pos rfl, s57p _ _ g, q_c1_s, if_neg (by decide), nI_p1, b58_6, e1, if_pos (by rw [nI_lt_iff (by omega) (by omega)]; exact il2), q_ix_n (by omega) (by decide), e2 _ il2, if_neg (by decide), if_neg (by decide), if_pos rfl, s57p _ _ g2, q_c1_s, if_neg (by decide), nI_p1, km]
        · rw [ne_n g2]
          refine ⟨f + 1, 2, by omega, Or.inl ⟨rfl, g2⟩, ?_⟩
          rw [b58_6, e1, if_pos (by rw [nI_lt_iff (by omega) (by omega)]; exact il), q_ix_n (by omega) (by decide), e2 i il, if_neg (by decide), if_pos rfl, s57p _ _ g, q_c1_s, if_neg (by decide), nI_p1, km]
      obtain ⟨f', w, hf', hw, st⟩ := st
      have nlt := ne_lt (X := X) (i := i)
      rw [if_pos g, if_neg (by omega), st]
      have kp : (0 : Int32) < nI (k + 1) := by rw [nI_pos_iff (by omega)]; omega
      by_cases q : X (qd_ne X i) = 44
      · have el : qd_ne X i < n := X_lt hX (by rw [q]; decide)
        obtain ⟨f', rfl⟩ : ∃ g, f' = g + 1 + 1 := ⟨f' - 2, by omega⟩
        have ih := ih (qd_ne X i + 1) f' (by omega) (by omega) (by omega)
        rw [if_pos q, w58 hn hX e1 e2 d _ hw el, b58_92, if_pos kp, if_pos q, if_pos kp, nI_p1]
        exact ih
      · rw [if_neg q]
        show q_go _ _ _ _ _ _ _ _ = _
        by_cases el : qd_ne X i < n
        · obtain ⟨f', rfl⟩ : ∃ g, f' = g + 1 + 1 := ⟨f' - 2, by omega⟩
          rw [w58 hn hX e1 e2 d _ hw el, b58_92, if_pos kp, if_neg q]
        · obtain ⟨f', rfl⟩ : ∃ g, f' = g + 1 := ⟨f' - 1, by omega⟩
          have w2 : ¬ w < 2 := by
            rcases hw with ⟨rfl, -⟩ | rfl <;> decide
          rw [b58_6, e1, if_neg (by rw [nI_lt_iff (by omega) (by omega)]; exact el), if_neg w2, if_neg (by rw [show (0 : Int32) = nI 0 from rfl, nI_eq_iff (by omega) (by omega)]; omega), if_pos rfl, show qd_ne X i = n by omega]
    · rw [if_neg g]
      show q_go _ _ _ _ _ _ _ _ = _
      rw [b58_6, e1]
      by_cases il : i < n
      · rw [if_pos (by rw [nI_lt_iff (by omega) (by omega)]; exact il), q_ix_n (by omega) (by decide), e2 i il, if_neg (by decide), if_pos rfl, s57n _ _ g, q_c1_s, if_pos rfl]
      · rw [if_neg (by rw [nI_lt_iff (by omega) (by omega)]; exact il), if_pos (by decide), if_pos rfl, show i = n by omega]
theorem l58 {X : Nat → Int32} {n : Nat} (hn : n ≤ 80) (hX : ∀ i, n ≤ i → X i = -1) {h : q_S} (e1 : h.1 57 1 = nI n) (e2 : ∀ i, i < n → h.1 58 i = X i) (d : Nat) : ∀ g i f x2, n - i < g → i ≤ n → 2 * (n - i) + 1 < f → q_go e_58 q_X0 (q_sem (d + 1)) f 6 [(0, .ref 57), (1, .int 0), (2, .int x2), (3, .int (nI i))] [] h = some (h, some (.int (qd_fr (qd_fl X n g i)))) := by
  intro g
  induction g with
  | zero => intro i f x2 hg; omega
  | succ g ih =>
    intro i f x2 hg hi hf
    obtain ⟨f, rfl⟩ : ∃ g, f = g + 1 := ⟨f - 1, by omega⟩
    have tail : ∀ (e f' : Nat) (w : Int32), i < e → e ≤ n → 2 * (n - e) + 1 < f' → ((w = 2 ∧ ¬ qg_f (X e)) ∨ w = 3) → q_go e_58 q_X0 (q_sem (d + 1)) f' 6 [(0, .ref 57), (1, .int w), (2, .int 0), (3, .int (nI e))] [] h = some (h, some (.int (qd_fr (if X e = 59 then qd_fl X n g (e + 1) else if e = n then none else some e)))) := by
      intro e f' w hie he hf' hw
      by_cases el : e < n
      · obtain ⟨f', rfl⟩ : ∃ g, f' = g + 1 + 1 := ⟨f' - 2, by omega⟩
        rw [w58 hn hX e1 e2 d _ hw el, b58_92, if_neg (by decide)]
        by_cases q : X e = 59
        · rw [if_pos q, if_neg (by decide), if_pos q, nI_p1]
          exact ih (e + 1) f' 0 (by omega) (by omega) (by omega)
        · rw [if_neg q, if_neg q, if_neg (by omega)]
          rfl
      · obtain ⟨f', rfl⟩ : ∃ g, f' = g + 1 := ⟨f' - 1, by omega⟩
        have w2 : ¬ w < 2 := by
          rcases hw with ⟨rfl, -⟩ | rfl <;> decide
        rw [b58_6, e1, if_neg (by rw [nI_lt_iff (by omega) (by omega)]; exact el), if_neg w2, if_pos rfl, if_neg (by decide), if_neg (by rw [hX e (by omega)]; decide), if_pos (by omega)]
        rfl
    rw [b58_6, e1, qd_fl]
    by_cases il : i < n
    · rw [if_pos (by rw [nI_lt_iff (by omega) (by omega)]; exact il), q_ix_n (by omega) (by decide), e2 i il, if_pos rfl, s56, q_c1_s]
      by_cases z : qd_nk (X i) = 9
      · rw [qd_ac, qd_nb, if_pos z, if_pos z, if_pos (by decide)]
        rfl
      · have k3 : qd_nk (X i) ≤ 3 := by
          rcases nk_le (X i) with q | q
          · exact absurd q z
          · exact q
        rw [qd_ac, qd_nb, if_neg z, if_neg z, if_neg (nI_lt0 (by omega)), nI_p1]
        by_cases k0 : qd_nk (X i) = 0
        · rw [k0, if_pos (by decide), qd_ns]
          exact tail (i + 1) f 3 (by omega) (by omega) (by omega) (Or.inr rfl)
        · obtain ⟨k, hk⟩ : ∃ k, qd_nk (X i) = k + 1 := ⟨qd_nk (X i) - 1, by omega⟩
          rw [hk, if_neg (by rw [show (0 : Int32) = nI 0 from rfl, nI_eq_iff (by omega) (by omega)]; omega)]
          have B := l58n hn hX e1 e2 d k (i + 1) f (by omega) (by omega) (by omega)
          have bd := fun e he => ns_bd hX (k + 1) (i + 1) e he
          cases hq : qd_ns X (k + 1) (i + 1) with
          | inl p =>
            rw [hq] at B
            exact B
          | inr e =>
            rw [hq] at B
            obtain ⟨f', w, hf', hw, B⟩ := B
            have b2 := (bd e hq).2 (by omega)
            rw [B]
            exact tail e f' w (by omega) (by omega) hf' hw
    · have : i = n := by omega
      subst this
      rw [if_neg (by rw [nI_lt_iff (by omega) (by omega)]; exact il), if_pos (by decide), if_pos rfl, qd_ac, if_pos (by rw [hX i (by omega)]; decide)]
      rfl
theorem s58 {X : Nat → Int32} {n : Nat} (hn : n ≤ 80) (hX : ∀ i, n ≤ i → X i = -1) {h : q_S} (e1 : h.1 57 1 = nI n) (e2 : ∀ i, i < n → h.1 58 i = X i) (d : Nat) : q_sem (d + 2) 58 h [.ref 57] = some (h, some (.int (qd_fr (qd_fl X n (n + 1) 0)))) := by
  rw [m58]
  exact l58 hn hX e1 e2 d (n + 1) 0 999 0 (by omega) (by omega) (by omega)
