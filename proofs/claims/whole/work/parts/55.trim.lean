/-! ===== trim: the nearest mass, the lightest first ===== -/
def q_ds (l : qv_L) (k r p q v : Nat) : Nat := if qv_f (ql l 2 k v) r q < p then p - qv_f (ql l 2 k v) r q else qv_f (ql l 2 k v) r q - p
def q_am (D : Nat → Nat) : Nat → Nat
  | 0 => 0
  | n + 1 => if n = 0 then 1 else if D (n + 1) < D (q_am D n) then n + 1 else q_am D n
theorem q_am_sp (D : Nat → Nat) : ∀ n, 1 ≤ n → (1 ≤ q_am D n ∧ q_am D n ≤ n) ∧ (∀ v, 1 ≤ v → v ≤ n → D (q_am D n) ≤ D v) ∧ (∀ v, 1 ≤ v → v < q_am D n → D (q_am D n) < D v) := by
  intro n
  induction n with
  | zero => intro h; omega
  | succ n ih =>
    intro _
    rw [q_am]
    by_cases z : n = 0
    · rw [if_pos z]
      refine ⟨by omega, fun v h1 h2 => ?_, fun v h1 h2 => by omega⟩
      have : v = 1 := by omega
      rw [this]
      exact Nat.le_refl _
    · obtain ⟨a, b, c⟩ := ih (by omega)
      rw [if_neg z]
      by_cases y : D (n + 1) < D (q_am D n)
      · rw [if_pos y]
        refine ⟨by omega, fun v h1 h2 => ?_, fun v h1 h2 => ?_⟩
        · by_cases w : v = n + 1
          · rw [w]
            exact Nat.le_refl _
          · have := b v h1 (by omega)
            omega
        · have := b v h1 (by omega)
          omega
      · rw [if_neg y]
        refine ⟨by omega, fun v h1 h2 => ?_, c⟩
        by_cases w : v = n + 1
        · rw [w]
          omega
        · exact b v h1 (by omega)
theorem q_am_eq (D : Nat → Nat) {n b : Nat} (h1 : 1 ≤ b) (h2 : b ≤ n) (h3 : ∀ v, 1 ≤ v → v ≤ n → D b ≤ D v) (h4 : ∀ v, 1 ≤ v → v < b → D b < D v) : q_am D n = b := by
  obtain ⟨a, e, c⟩ := q_am_sp D n (by omega)
  rcases Nat.lt_trichotomy (q_am D n) b with q | q | q
  · have := h4 _ a.1 q
    have := e b h1 h2
    omega
  · exact q
  · have := c b h1 q
    have := h3 _ a.1 a.2
    omega
theorem l162 (X : q_X) (d : Nat) (l : qv_L) (hl : qv_ok l) (k r p q : Nat) (hk : k < l 0 0) (hr : r < l 0 0) (hp : p ≤ 9999) (hq1 : 1 ≤ q) (hq : q ≤ 16) (y : Int32) (h0 : q_S) : ∀ m f v x h, v + 1 + m = 100 → 2 * m < f → qw_at h (ql l 2 k x) → qy h0 h → ∃ h2, q_go e_162 X (q_sem (d + 4)) f 54 [(0, .ref 67), (1, .int (nI k)), (2, .int (nI r)), (3, .int (nI p)), (4, .int (nI q)), (5, .int y), (6, .int (nI (l 2 k))), (7, .int (nI (q_am (q_ds l k r p q) v))), (8, .int (nI (if v = 0 then 0 else q_ds l k r p q (q_am (q_ds l k r p q) v)))), (9, .int (nI (v + 1)))] [] h = some (h2, some (.int (if y = 0 then nI (q_am (q_ds l k r p q) 99) else nI (q_ds l k r p q (q_am (q_ds l k r p q) 99))))) ∧ qy h0 h2 ∧ qw_at h2 l := by
  have h8 := hl.1
  have dbd : ∀ v, 1 ≤ v → v ≤ 99 → q_ds l k r p q v ≤ 9999 := by
    intro v h1 h2
    have := qv_f_bd (ok_mass hl hk h1 h2) hq r
    unfold q_ds
    split <;> omega
  intro m
  induction m with
  | zero =>
    intro f v x h hm hf e1 e3
    obtain ⟨f, rfl⟩ : ∃ g, f = g + 1 := ⟨f - 1, by omega⟩
    have : v = 99 := by omega
    subst this
    have a3 : qw_at (q_si h 69 k (nI (l 2 k))) l := by
      have := aw_a (b := 2) (k := k) (v := l 2 k) (by omega) e1
      rwa [ql_ql2, ql_self] at this
    refine ⟨_, ?_, qy_tr e3 (qy_si (h := h) (a := 69) (i := k) (x := nI (l 2 k)) (by omega)), a3⟩
    rw [b162_54, if_pos (by decide), q_ix_n (by omega) (by decide), if_neg (show ¬ (99 : Nat) = 0 by omega)]
    split <;> rfl
  | succ m ih =>
    intro f v x h hm hf e1 e3
    obtain ⟨f, rfl⟩ : ∃ g, f = g + 1 + 1 := ⟨f - 2, by omega⟩
    have a1 : qw_at (q_si h 69 k (nI (v + 1))) (ql l 2 k (v + 1)) := by
      have := aw_a (b := 2) (k := k) (v := v + 1) (by omega) e1
      rwa [ql_ql2] at this
    have ok := ok_mass hl hk (show 1 ≤ v + 1 by omega) (show v + 1 ≤ 99 by omega)
    have e00 : ql l 2 k (v + 1) 0 0 = l 0 0 := ql_ne (by omega)
    obtain ⟨h2, g1, g2⟩ := s133 d (q_si h 69 k (nI (v + 1))) _ ok r q hq1 hq (by omega) a1
    have hb := qv_f_bd ok hq r
    have sc := qy_tr e3 (qy_tr (qy_si (h := h) (a := 69) (i := k) (x := nI (v + 1)) (by omega)) (qy_of g2))
    have ih := ih f (v + 1) (v + 1) h2 (by omega) (by omega) (qw_sc_at g2 a1) sc
    rw [if_neg (show ¬ v + 1 = 0 by omega)] at ih
    have dv := dbd (v + 1) (by omega) (by omega)
    have k93 : ∀ s0 : Int32, s0 = nI (q_ds l k r p q (v + 1)) → ∃ h3, q_go e_162 X (q_sem (d + 4)) (f + 1) 93 [(0, .ref 67), (1, .int (nI k)), (2, .int (nI r)), (3, .int (nI p)), (4, .int (nI q)), (5, .int y), (6, .int (nI (l 2 k))), (7, .int (nI (q_am (q_ds l k r p q) v))), (8, .int (nI (if v = 0 then 0 else q_ds l k r p q (q_am (q_ds l k r p q) v)))), (9, .int (nI (v + 1)))] [.int s0] h2 = some (h3, some (.int (if y = 0 then nI (q_am (q_ds l k r p q) 99) else nI (q_ds l k r p q (q_am (q_ds l k r p q) 99))))) ∧ qy h0 h3 ∧ qw_at h3 l := by
      intro s0 hs0
      rw [b162_93, hs0, nI_p1]
      by_cases z : v = 0
      · have ea : q_am (q_ds l k r p q) v = 0 := by rw [z]; rfl
        have eb : q_am (q_ds l k r p q) (v + 1) = v + 1 := by rw [z]; rfl
        rw [eb] at ih
        rw [ea, if_neg (by decide)]
        exact ih
      · obtain ⟨b1, b2, b3⟩ := q_am_sp (q_ds l k r p q) v (by omega)
        have db := dbd (q_am (q_ds l k r p q) v) (by omega) (by omega)
        rw [if_pos (by rw [nI_pos_iff (by omega)]; omega), if_neg z]
        rw [q_am, if_neg z] at ih
        by_cases w : q_ds l k r p q (v + 1) < q_ds l k r p q (q_am (q_ds l k r p q) v)
        · rw [if_pos w] at ih
          rw [if_pos (by rw [nI_lt_iff (by omega) (by omega)]; exact w)]
          exact ih
        · rw [if_neg w] at ih
          rw [if_neg (by rw [nI_lt_iff (by omega) (by omega)]; exact w)]
          exact ih
    rw [b162_54, if_neg (by rw [show (99 : Int32) = nI 99 from rfl, nI_lt_iff (by omega) (by omega)]; omega), q_ix_n (by omega) (by decide), g1, q_c1_s]
    by_cases z : qv_f (ql l 2 k (v + 1)) r q < p
    · have e : nI (qv_f (ql l 2 k (v + 1)) r q) - nI p < 0 := by
        rw [Int32.lt_iff_toInt_lt, pk_sub_toInt (by omega) (by omega), show (0 : Int32).toInt = 0 from rfl]
        omega
      rw [if_pos e]
      refine k93 _ ?_
      unfold q_ds
      rw [if_pos z, ← pk_sub (by omega), Int32.neg_sub]
    · have e : ¬ nI (qv_f (ql l 2 k (v + 1)) r q) - nI p < 0 := by
        rw [Int32.lt_iff_toInt_lt, pk_sub_toInt (by omega) (by omega), show (0 : Int32).toInt = 0 from rfl]
        omega
      rw [if_neg e]
      refine k93 _ ?_
      unfold q_ds
      rw [if_neg z, pk_sub (by omega)]
