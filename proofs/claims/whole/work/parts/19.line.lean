/-! ===== a line of discs, as numbers ===== -/
/-- l 0 0 discs, l 0 1 spin, l 0 2 way; l 1 kinds, l 2 masses, l 3 bearings, l 4 stiffs, l 5 ratios -/
abbrev qv_L : Type := Nat → Nat → Nat
def qv_rat (l : qv_L) : Nat → Nat
  | 0 => 1
  | k + 1 => qv_rat l k * l 5 k
def qv_fac (l : qv_L) (i : Nat) : Nat := qv_rat l i * qv_rat l i
def qv_wg (kind mass spin : Nat) : Nat := if kind = 1 then mass * 2 else if kind = 2 then (mass + 1) / 2 else if kind = 3 then mass * 2 + 3 else if kind = 4 then max 1 ((mass + 1) / 2 - spin / 2) else mass
def qv_in (way spin v : Nat) : Nat := if way = 1 then v - v * spin / 20 else if way = 2 then v + v * spin / 10 else v
def qv_w (l : qv_L) (i : Nat) : Nat := qv_wg (l 1 i) (l 2 i) (l 0 1)
def qv_I (l : qv_L) (i : Nat) : Nat := qv_in (l 0 2) (l 0 1) (qv_w l i) * qv_fac l i
def qv_G (l : qv_L) (i : Nat) : Nat := l 3 i * qv_fac l i
def qv_K (l : qv_L) (i : Nat) : Nat := l 4 i * qv_fac l i
def qv_H (l : qv_L) (i : Nat) : Nat := qv_G l i + (if 0 < i then qv_K l (i - 1) else 0) + (if i + 1 < l 0 0 then qv_K l i else 0)
def qv_ok (l : qv_L) : Prop := l 0 0 ≤ 8 ∧ l 0 1 ≤ 9 ∧ l 0 2 ≤ 2 ∧ (∀ i, i < 8 → l 1 i ≤ 4 ∧ l 2 i ≤ 99 ∧ l 3 i ≤ 99 ∧ l 4 i ≤ 99 ∧ l 5 i ≤ 6) ∧ (∀ i, i < l 0 0 → 1 ≤ l 2 i) ∧ (∀ i, i + 1 < l 0 0 → 1 ≤ l 4 i ∧ 1 ≤ l 5 i) ∧ qv_rat l (l 0 0 - 1) ≤ 6
/-- the line that object o holds -/
def qv_at (h : q_S) (o : Nat) (l : qv_L) : Prop := h.1 o 6 = nI (l 0 0) ∧ h.1 o 7 = nI (l 0 1) ∧ h.1 o 8 = nI (l 0 2) ∧ ∀ a i, 1 ≤ a → a ≤ 5 → i < 8 → h.1 (o + a) i = nI (l a i)
def qv_ln (o : Nat) : Prop := o = 12 ∨ o = 18 ∨ o = 24
theorem q_ix_n {j n : Nat} {f : Nat → q_A} (h : j < n) (hn : n < 2147483648) : q_ix (nI j) n f = f j := by
  unfold q_ix
  rw [if_neg (nI_in h hn), nI_clamp (by omega)]
theorem q_c0_s {h : q_S} {f : q_S → q_A} : q_c0 (some (h, none)) f = f h := rfl
theorem q_c1_s {h : q_S} {v : Int32} {f : q_S → Int32 → q_A} : q_c1 (some (h, some (.int v))) f = f h v := rfl
theorem q_c3_s {h : q_S} {v : Int64} {f : q_S → Int64 → q_A} : q_c3 (some (h, some (.long v))) f = f h v := rfl
theorem nI_p1 (n : Nat) : nI n + 1 = nI (n + 1) := nI_1 n
theorem nI_m1 (n : Nat) : nI (n + 1) - 1 = nI n := nI_pred n
theorem nI_ltm {i n : Nat} (hi : i < 2147483647) (hn : n < 2147483647) : nI i < nI n - 1 ↔ i + 1 < n := by
  rw [nI_iI, nI_iI, show (1 : Int32) = iI 1 from rfl, iI_sub, iI_lt (by omega) (by omega) (by omega) (by omega)]
  omega
theorem nI_pos_iff {n : Nat} (h : n < 2147483648) : 0 < nI n ↔ 0 < n := by
  rw [show (0 : Int32) = nI 0 from rfl]
  exact nI_ltI (by omega) (by omega)
theorem nI_lt_iff {a b : Nat} (ha : a < 2147483648) (hb : b < 2147483648) : nI a < nI b ↔ a < b := nI_ltI ha hb
theorem nI_eq_iff {a b : Nat} (ha : a < 2147483648) (hb : b < 2147483648) : nI a = nI b ↔ a = b := nI_eq ha hb
theorem qv_rat_pos {l : qv_L} (h : qv_ok l) : ∀ k, k ≤ l 0 0 - 1 → 1 ≤ qv_rat l k
  | 0, _ => Nat.le_refl 1
  | k + 1, hk => by
    have := qv_rat_pos h k (by omega)
    have h2 := (h.2.2.2.2.2.1 k (by omega)).2
    unfold qv_rat
    exact Nat.mul_pos this h2
theorem qv_rat_le {l : qv_L} (h : qv_ok l) (k : Nat) : ∀ j, k + j ≤ l 0 0 - 1 → qv_rat l k ≤ qv_rat l (k + j)
  | 0, _ => Nat.le_refl _
  | j + 1, hk => by
    have := qv_rat_le h k j (by omega)
    have h2 := (h.2.2.2.2.2.1 (k + j) (by omega)).2
    have e : qv_rat l (k + (j + 1)) = qv_rat l (k + j) * l 5 (k + j) := rfl
    rw [e]
    exact Nat.le_trans this (Nat.le_mul_of_pos_right _ h2)
theorem qv_rat_6 {l : qv_L} (h : qv_ok l) {k : Nat} (hk : k ≤ l 0 0 - 1) : 1 ≤ qv_rat l k ∧ qv_rat l k ≤ 6 := by
  have := qv_rat_le h k (l 0 0 - 1 - k) (by omega)
  rw [show k + (l 0 0 - 1 - k) = l 0 0 - 1 by omega] at this
  exact ⟨qv_rat_pos h k hk, Nat.le_trans this h.2.2.2.2.2.2⟩
theorem qv_fac_36 {l : qv_L} (h : qv_ok l) {i : Nat} (hi : i < l 0 0) : 1 ≤ qv_fac l i ∧ qv_fac l i ≤ 36 := by
  obtain ⟨h1, h2⟩ := qv_rat_6 h (k := i) (by omega)
  unfold qv_fac
  exact ⟨Nat.mul_pos h1 h1, Nat.mul_le_mul h2 h2⟩
theorem qv_wg_bd {kind mass spin : Nat} (h1 : 1 ≤ mass) (h2 : mass ≤ 99) : 1 ≤ qv_wg kind mass spin ∧ qv_wg kind mass spin ≤ 201 := by
  unfold qv_wg
  split
  · omega
  · split
    · omega
    · split
      · omega
      · split
        · omega
        · omega
theorem qv_in_bd {way spin v : Nat} (hs : spin ≤ 9) (h1 : 1 ≤ v) (h2 : v ≤ 201) : 1 ≤ qv_in way spin v ∧ qv_in way spin v ≤ 381 := by
  have hm : v * spin ≤ v * 9 := Nat.mul_le_mul_left v hs
  unfold qv_in
  split
  · omega
  · split
    · omega
    · omega
theorem qv_I_bd {l : qv_L} (h : qv_ok l) {i : Nat} (hi : i < l 0 0) : 1 ≤ qv_I l i ∧ qv_I l i ≤ 13716 := by
  have hf := qv_fac_36 h hi
  have hm := h.2.2.2.1 i (by have := h.1; omega)
  have hw := qv_wg_bd (kind := l 1 i) (spin := l 0 1) (h.2.2.2.2.1 i hi) hm.2.1
  have hn := qv_in_bd (way := l 0 2) h.2.1 hw.1 hw.2
  unfold qv_I qv_w
  exact ⟨Nat.mul_pos hn.1 hf.1, Nat.mul_le_mul hn.2 hf.2⟩
theorem qv_G_bd {l : qv_L} (h : qv_ok l) {i : Nat} (hi : i < l 0 0) : qv_G l i ≤ 3564 := by
  have hf := qv_fac_36 h hi
  have hm := h.2.2.2.1 i (by have := h.1; omega)
  exact Nat.mul_le_mul hm.2.2.1 hf.2
theorem qv_K_bd {l : qv_L} (h : qv_ok l) {i : Nat} (hi : i + 1 < l 0 0) : 1 ≤ qv_K l i ∧ qv_K l i ≤ 3564 := by
  have hf := qv_fac_36 h (i := i) (by omega)
  have hm := h.2.2.2.1 i (by have := h.1; omega)
  exact ⟨Nat.mul_pos (h.2.2.2.2.2.1 i hi).1 hf.1, Nat.mul_le_mul hm.2.2.2.1 hf.2⟩
theorem qv_H_bd {l : qv_L} (h : qv_ok l) {i : Nat} (hi : i < l 0 0) : qv_H l i ≤ 10692 := by
  have h1 := qv_G_bd h hi
  unfold qv_H
  have h2 : (if 0 < i then qv_K l (i - 1) else 0) ≤ 3564 := by
    split
    · exact (qv_K_bd h (i := i - 1) (by omega)).2
    · omega
  have h3 : (if i + 1 < l 0 0 then qv_K l i else 0) ≤ 3564 := by
    split
    · exact (qv_K_bd h (by assumption)).2
    · omega
  omega
theorem l25_12 (X : q_X) (O : q_O) (h : q_S) (l : qv_L) (k : Nat) (hL : qv_at h 12 l) (hk : k ≤ 8) : ∀ m n i, i + m = k → m < n → q_go e_25 X O n 4 [(0, .ref 12), (1, .int (nI k)), (2, .int (nI (qv_rat l i))), (3, .int (nI i))] [] h = some (h, some (.int (nI (qv_rat l k)))) := by
  intro m
  induction m with
  | zero =>
    intro n i hi hn
    obtain ⟨n, rfl⟩ : ∃ n2, n = n2 + 1 := ⟨n - 1, by omega⟩
    have : i = k := by omega
    subst this
    rw [b25_4, if_neg (nI_nlt (Nat.le_refl _) (by omega))]
  | succ m ih =>
    intro n i hi hn
    obtain ⟨n, rfl⟩ : ∃ n2, n = n2 + 1 := ⟨n - 1, by omega⟩
    rw [b25_4, if_pos (nI_lt (by omega) (by omega)), q_ix_n (by omega) (by decide)]
    have e := hL.2.2.2 5 i (by decide) (by decide) (by omega)
    rw [show h.1 17 i = nI (l 5 i) from e, pk_mul, nI_p1]
    exact ih n (i + 1) (by omega) (by omega)
theorem l25_18 (X : q_X) (O : q_O) (h : q_S) (l : qv_L) (k : Nat) (hL : qv_at h 18 l) (hk : k ≤ 8) : ∀ m n i, i + m = k → m < n → q_go e_25 X O n 4 [(0, .ref 18), (1, .int (nI k)), (2, .int (nI (qv_rat l i))), (3, .int (nI i))] [] h = some (h, some (.int (nI (qv_rat l k)))) := by
  intro m
  induction m with
  | zero =>
    intro n i hi hn
    obtain ⟨n, rfl⟩ : ∃ n2, n = n2 + 1 := ⟨n - 1, by omega⟩
    have : i = k := by omega
    subst this
    rw [b25_4_1, if_neg (nI_nlt (Nat.le_refl _) (by omega))]
  | succ m ih =>
    intro n i hi hn
    obtain ⟨n, rfl⟩ : ∃ n2, n = n2 + 1 := ⟨n - 1, by omega⟩
    rw [b25_4_1, if_pos (nI_lt (by omega) (by omega)), q_ix_n (by omega) (by decide)]
    have e := hL.2.2.2 5 i (by decide) (by decide) (by omega)
    rw [show h.1 23 i = nI (l 5 i) from e, pk_mul, nI_p1]
    exact ih n (i + 1) (by omega) (by omega)
theorem l25_24 (X : q_X) (O : q_O) (h : q_S) (l : qv_L) (k : Nat) (hL : qv_at h 24 l) (hk : k ≤ 8) : ∀ m n i, i + m = k → m < n → q_go e_25 X O n 4 [(0, .ref 24), (1, .int (nI k)), (2, .int (nI (qv_rat l i))), (3, .int (nI i))] [] h = some (h, some (.int (nI (qv_rat l k)))) := by
  intro m
  induction m with
  | zero =>
    intro n i hi hn
    obtain ⟨n, rfl⟩ : ∃ n2, n = n2 + 1 := ⟨n - 1, by omega⟩
    have : i = k := by omega
    subst this
    rw [b25_4_2, if_neg (nI_nlt (Nat.le_refl _) (by omega))]
  | succ m ih =>
    intro n i hi hn
    obtain ⟨n, rfl⟩ : ∃ n2, n = n2 + 1 := ⟨n - 1, by omega⟩
    rw [b25_4_2, if_pos (nI_lt (by omega) (by omega)), q_ix_n (by omega) (by decide)]
    have e := hL.2.2.2 5 i (by decide) (by decide) (by omega)
    rw [show h.1 29 i = nI (l 5 i) from e, pk_mul, nI_p1]
    exact ih n (i + 1) (by omega) (by omega)
theorem l25 {o : Nat} (ho : qv_ln o) (X : q_X) (O : q_O) (h : q_S) (l : qv_L) (k : Nat) (hL : qv_at h o l) (hk : k ≤ 8) : ∀ m n i, i + m = k → m < n → q_go e_25 X O n 4 [(0, .ref o), (1, .int (nI k)), (2, .int (nI (qv_rat l i))), (3, .int (nI i))] [] h = some (h, some (.int (nI (qv_rat l k)))) := by
  rcases ho with rfl | rfl | rfl
  · exact l25_12 X O h l k hL hk
  · exact l25_18 X O h l k hL hk
  · exact l25_24 X O h l k hL hk
theorem s25_12 (d : Nat) (h : q_S) (l : qv_L) (k : Nat) (hL : qv_at h 12 l) (hk : k ≤ 8) : q_sem (d + 1) 25 h [.ref 12, .int (nI k)] = some (h, some (.int (nI (qv_rat l k)))) := by
  rw [m25]
  exact l25_12 q_X0 (q_sem d) h l k hL hk k 999 0 (by omega) (by omega)
theorem s25_18 (d : Nat) (h : q_S) (l : qv_L) (k : Nat) (hL : qv_at h 18 l) (hk : k ≤ 8) : q_sem (d + 1) 25 h [.ref 18, .int (nI k)] = some (h, some (.int (nI (qv_rat l k)))) := by
  rw [m25_1]
  exact l25_18 q_X0 (q_sem d) h l k hL hk k 999 0 (by omega) (by omega)
theorem s25_24 (d : Nat) (h : q_S) (l : qv_L) (k : Nat) (hL : qv_at h 24 l) (hk : k ≤ 8) : q_sem (d + 1) 25 h [.ref 24, .int (nI k)] = some (h, some (.int (nI (qv_rat l k)))) := by
  rw [m25_2]
  exact l25_24 q_X0 (q_sem d) h l k hL hk k 999 0 (by omega) (by omega)
theorem s25 {o : Nat} (ho : qv_ln o) (d : Nat) (h : q_S) (l : qv_L) (k : Nat) (hL : qv_at h o l) (hk : k ≤ 8) : q_sem (d + 1) 25 h [.ref o, .int (nI k)] = some (h, some (.int (nI (qv_rat l k)))) := by
  rcases ho with rfl | rfl | rfl
  · exact s25_12 d h l k hL hk
  · exact s25_18 d h l k hL hk
  · exact s25_24 d h l k hL hk
theorem s25m_12 (d : Nat) (h : q_S) : q_sem (d + 1) 25 h [.ref 12, .int (-1)] = some (h, some (.int 1)) := by
  rw [m25, b25_4, if_neg (by decide)]
theorem s25m_18 (d : Nat) (h : q_S) : q_sem (d + 1) 25 h [.ref 18, .int (-1)] = some (h, some (.int 1)) := by
  rw [m25_1, b25_4_1, if_neg (by decide)]
theorem s25m_24 (d : Nat) (h : q_S) : q_sem (d + 1) 25 h [.ref 24, .int (-1)] = some (h, some (.int 1)) := by
  rw [m25_2, b25_4_2, if_neg (by decide)]
theorem s25m {o : Nat} (ho : qv_ln o) (d : Nat) (h : q_S) : q_sem (d + 1) 25 h [.ref o, .int (-1)] = some (h, some (.int 1)) := by
  rcases ho with rfl | rfl | rfl
  · exact s25m_12 d h
  · exact s25m_18 d h
  · exact s25m_24 d h
theorem s27_12 (d : Nat) (h : q_S) (l : qv_L) (i : Nat) (hL : qv_at h 12 l) (hi : i ≤ 8) : q_sem (d + 2) 27 h [.ref 12, .int (nI i)] = some (h, some (.int (nI (qv_fac l i)))) := by
  rw [m27, s25_12 d h l i hL hi, q_c1_s, pk_mul]
  rfl
theorem s27_18 (d : Nat) (h : q_S) (l : qv_L) (i : Nat) (hL : qv_at h 18 l) (hi : i ≤ 8) : q_sem (d + 2) 27 h [.ref 18, .int (nI i)] = some (h, some (.int (nI (qv_fac l i)))) := by
  rw [m27_1, s25_18 d h l i hL hi, q_c1_s, pk_mul]
  rfl
theorem s27_24 (d : Nat) (h : q_S) (l : qv_L) (i : Nat) (hL : qv_at h 24 l) (hi : i ≤ 8) : q_sem (d + 2) 27 h [.ref 24, .int (nI i)] = some (h, some (.int (nI (qv_fac l i)))) := by
  rw [m27_2, s25_24 d h l i hL hi, q_c1_s, pk_mul]
  rfl
theorem s27 {o : Nat} (ho : qv_ln o) (d : Nat) (h : q_S) (l : qv_L) (i : Nat) (hL : qv_at h o l) (hi : i ≤ 8) : q_sem (d + 2) 27 h [.ref o, .int (nI i)] = some (h, some (.int (nI (qv_fac l i)))) := by
  rcases ho with rfl | rfl | rfl
  · exact s27_12 d h l i hL hi
  · exact s27_18 d h l i hL hi
  · exact s27_24 d h l i hL hi
theorem s208 (d : Nat) (h : q_S) (a b : Nat) (ha : a < 2147483648) (hb : b < 2147483648) : q_sem (d + 1) 208 h [.int (nI a), .int (nI b)] = some (h, some (.int (nI (max a b)))) := by
  rw [m208]
  by_cases q : a < b
  · rw [if_pos (nI_lt q hb), show max a b = b by omega]
  · rw [if_neg (nI_nlt (by omega) ha), show max a b = a by omega]
theorem s14 (d : Nat) (h : q_S) (m s : Nat) (a : Nat) (ha : a = 4 ∨ a = 6) (hm : m ≤ 99) : q_sem (d + 1) 14 h [.ref a, .int (nI m), .int (nI s)] = some (h, some (.int (nI ((m + 1) / 2)))) := by
  have e : (nI m + 1) / 2 = nI ((m + 1) / 2) := by
    rw [nI_p1, show (2 : Int32) = nI 2 from rfl, pk_div (by omega) (by decide) (by decide)]
  rcases ha with rfl | rfl
  · rw [m14, if_neg (by decide), e]
  · rw [m14_1, if_neg (by decide), e]
theorem s46 (d : Nat) (h : q_S) (m s : Nat) (a : Nat) (ha : a = 3 ∨ a = 5) : q_sem (d + 1) 46 h [.ref a, .int (nI m), .int (nI s)] = some (h, some (.int (nI (m * 2)))) := by
  have e : nI m * 2 = nI (m * 2) := pk_mul m 2
  rcases ha with rfl | rfl
  · rw [m46, e]
  · rw [m46_1, e]
theorem s5 (d : Nat) (h : q_S) (m s : Nat) : q_sem (d + 2) 5 h [.ref 5, .int (nI m), .int (nI s)] = some (h, some (.int (nI (m * 2 + 3)))) := by
  rw [m5, s46 d h m s 5 (Or.inr rfl), q_c1_s, show (3 : Int32) = nI 3 from rfl, nI_add]
theorem s10 (d : Nat) (h : q_S) (m s : Nat) : q_sem (d + 1) 10 h [.ref 2, .int (nI m), .int (nI s)] = some (h, some (.int (nI m))) := by
  rw [m10]
theorem s53 (d : Nat) (h : q_S) (m s : Nat) (hm : m ≤ 99) (hs : s ≤ 9) : q_sem (d + 2) 53 h [.ref 6, .int (nI m), .int (nI s)] = some (h, some (.int (nI (max 1 ((m + 1) / 2 - s / 2))))) := by
  rw [m53, s14 d h m s 6 (Or.inr rfl) hm, q_c1_s, if_neg (by decide), show (2 : Int32) = nI 2 from rfl, pk_div (by omega) (by decide) (by decide)]
  by_cases q : s / 2 ≤ (m + 1) / 2
  · rw [pk_sub q, show (1 : Int32) = nI 1 from rfl, s208 d h 1 _ (by decide) (by omega), q_c1_s]
  · rw [m208, if_neg ?_, q_c1_s, show max 1 ((m + 1) / 2 - s / 2) = 1 by omega]
    · rfl
    · intro z
      have h2 := pk_sneg (a := (m + 1) / 2) (b := s / 2) (by omega) (by omega)
      exact absurd (Int32.lt_trans z h2) (by decide)
theorem s28_12 (d : Nat) (h : q_S) (l : qv_L) (i : Nat) (hL : qv_at h 12 l) (hl : qv_ok l) (hi : i < 8) : q_sem (d + 3) 28 h [.ref 12, .int (nI i)] = some (h, some (.int (nI (qv_w l i)))) := by
  have hk := hl.2.2.2.1 i hi
  have e1 : h.1 13 i = nI (l 1 i) := hL.2.2.2 1 i (by decide) (by decide) hi
  have e2 : h.1 14 i = nI (l 2 i) := hL.2.2.2 2 i (by decide) (by decide) hi
  have e3 : h.1 12 7 = nI (l 0 1) := hL.2.1
  rw [m28, q_ix_n hi (by decide), e1, q_ix_n (by omega) (by decide)]
  unfold qv_w qv_wg
  rcases (show l 1 i = 0 ∨ l 1 i = 1 ∨ l 1 i = 2 ∨ l 1 i = 3 ∨ l 1 i = 4 by omega) with e | e | e | e | e <;> rw [e]
  · show q_go e_28 _ _ _ 11 _ [.ref 2] h = _
    rw [b28_11, q_ix_n hi (by decide), e2, e3, s10, q_c1_s]
    rfl
  · show q_go e_28 _ _ _ 11 _ [.ref 3] h = _
    rw [b28_11_1, q_ix_n hi (by decide), e2, e3, s46 (d + 1) h _ _ 3 (Or.inl rfl), q_c1_s]
    rfl
  · show q_go e_28 _ _ _ 11 _ [.ref 4] h = _
    rw [b28_11_2, q_ix_n hi (by decide), e2, e3, s14 (d + 1) h _ _ 4 (Or.inl rfl) hk.2.1, q_c1_s]
    rfl
  · show q_go e_28 _ _ _ 11 _ [.ref 5] h = _
    rw [b28_11_3, q_ix_n hi (by decide), e2, e3, s5, q_c1_s]
    rfl
  · show q_go e_28 _ _ _ 11 _ [.ref 6] h = _
    rw [b28_11_4, q_ix_n hi (by decide), e2, e3, s53 d h _ _ hk.2.1 hl.2.1, q_c1_s]
    rfl
theorem s28_18 (d : Nat) (h : q_S) (l : qv_L) (i : Nat) (hL : qv_at h 18 l) (hl : qv_ok l) (hi : i < 8) : q_sem (d + 3) 28 h [.ref 18, .int (nI i)] = some (h, some (.int (nI (qv_w l i)))) := by
  have hk := hl.2.2.2.1 i hi
  have e1 : h.1 19 i = nI (l 1 i) := hL.2.2.2 1 i (by decide) (by decide) hi
  have e2 : h.1 20 i = nI (l 2 i) := hL.2.2.2 2 i (by decide) (by decide) hi
  have e3 : h.1 18 7 = nI (l 0 1) := hL.2.1
  rw [m28_1, q_ix_n hi (by decide), e1, q_ix_n (by omega) (by decide)]
  unfold qv_w qv_wg
  rcases (show l 1 i = 0 ∨ l 1 i = 1 ∨ l 1 i = 2 ∨ l 1 i = 3 ∨ l 1 i = 4 by omega) with e | e | e | e | e <;> rw [e]
  · show q_go e_28 _ _ _ 11 _ [.ref 2] h = _
    rw [b28_11_5, q_ix_n hi (by decide), e2, e3, s10, q_c1_s]
    rfl
  · show q_go e_28 _ _ _ 11 _ [.ref 3] h = _
    rw [b28_11_6, q_ix_n hi (by decide), e2, e3, s46 (d + 1) h _ _ 3 (Or.inl rfl), q_c1_s]
    rfl
  · show q_go e_28 _ _ _ 11 _ [.ref 4] h = _
    rw [b28_11_7, q_ix_n hi (by decide), e2, e3, s14 (d + 1) h _ _ 4 (Or.inl rfl) hk.2.1, q_c1_s]
    rfl
  · show q_go e_28 _ _ _ 11 _ [.ref 5] h = _
    rw [b28_11_8, q_ix_n hi (by decide), e2, e3, s5, q_c1_s]
    rfl
  · show q_go e_28 _ _ _ 11 _ [.ref 6] h = _
    rw [b28_11_9, q_ix_n hi (by decide), e2, e3, s53 d h _ _ hk.2.1 hl.2.1, q_c1_s]
    rfl
theorem s28_24 (d : Nat) (h : q_S) (l : qv_L) (i : Nat) (hL : qv_at h 24 l) (hl : qv_ok l) (hi : i < 8) : q_sem (d + 3) 28 h [.ref 24, .int (nI i)] = some (h, some (.int (nI (qv_w l i)))) := by
  have hk := hl.2.2.2.1 i hi
  have e1 : h.1 25 i = nI (l 1 i) := hL.2.2.2 1 i (by decide) (by decide) hi
  have e2 : h.1 26 i = nI (l 2 i) := hL.2.2.2 2 i (by decide) (by decide) hi
  have e3 : h.1 24 7 = nI (l 0 1) := hL.2.1
  rw [m28_2, q_ix_n hi (by decide), e1, q_ix_n (by omega) (by decide)]
  unfold qv_w qv_wg
  rcases (show l 1 i = 0 ∨ l 1 i = 1 ∨ l 1 i = 2 ∨ l 1 i = 3 ∨ l 1 i = 4 by omega) with e | e | e | e | e <;> rw [e]
  · show q_go e_28 _ _ _ 11 _ [.ref 2] h = _
    rw [b28_11_10, q_ix_n hi (by decide), e2, e3, s10, q_c1_s]
    rfl
  · show q_go e_28 _ _ _ 11 _ [.ref 3] h = _
    rw [b28_11_11, q_ix_n hi (by decide), e2, e3, s46 (d + 1) h _ _ 3 (Or.inl rfl), q_c1_s]
    rfl
  · show q_go e_28 _ _ _ 11 _ [.ref 4] h = _
    rw [b28_11_12, q_ix_n hi (by decide), e2, e3, s14 (d + 1) h _ _ 4 (Or.inl rfl) hk.2.1, q_c1_s]
    rfl
  · show q_go e_28 _ _ _ 11 _ [.ref 5] h = _
    rw [b28_11_13, q_ix_n hi (by decide), e2, e3, s5, q_c1_s]
    rfl
  · show q_go e_28 _ _ _ 11 _ [.ref 6] h = _
    rw [b28_11_14, q_ix_n hi (by decide), e2, e3, s53 d h _ _ hk.2.1 hl.2.1, q_c1_s]
    rfl
theorem s28 {o : Nat} (ho : qv_ln o) (d : Nat) (h : q_S) (l : qv_L) (i : Nat) (hL : qv_at h o l) (hl : qv_ok l) (hi : i < 8) : q_sem (d + 3) 28 h [.ref o, .int (nI i)] = some (h, some (.int (nI (qv_w l i)))) := by
  rcases ho with rfl | rfl | rfl
  · exact s28_12 d h l i hL hl hi
  · exact s28_18 d h l i hL hl hi
  · exact s28_24 d h l i hL hl hi
theorem s29_12 (d : Nat) (h : q_S) (l : qv_L) (i : Nat) (hL : qv_at h 12 l) (hl : qv_ok l) (hi : i < l 0 0) : q_sem (d + 4) 29 h [.ref 12, .int (nI i)] = some (h, some (.int (nI (qv_I l i)))) := by
  have hi8 : i < 8 := by have := hl.1; omega
  have hk := hl.2.2.2.1 i hi8
  have hw := qv_wg_bd (kind := l 1 i) (spin := l 0 1) (hl.2.2.2.2.1 i hi) hk.2.1
  have e3 : h.1 12 7 = nI (l 0 1) := hL.2.1
  have e4 : h.1 12 8 = nI (l 0 2) := hL.2.2.1
  have hm : qv_w l i * l 0 1 ≤ 201 * 9 := Nat.mul_le_mul hw.2 hl.2.1
  have hm2 : qv_w l i * l 0 1 ≤ qv_w l i * 9 := Nat.mul_le_mul_left _ hl.2.1
  rw [m29, s28_12 d h l i hL hl hi8, q_c1_s, e4, e3]
  have hw2 := hl.2.2.1
  unfold qv_I qv_in
  rcases (show l 0 2 = 0 ∨ l 0 2 = 1 ∨ l 0 2 = 2 by omega) with e | e | e <;> rw [e]
  · rw [if_neg (show ¬ nI 0 = (1 : Int32) by decide), if_neg (show ¬ nI 0 = (2 : Int32) by decide), s27_12 (d + 1) h l i hL (by omega), q_c1_s, pk_mul]
    rfl
  · rw [if_pos (show nI 1 = (1 : Int32) from rfl), if_neg (show ¬ (20 : Nat) = 0 by decide), s27_12 (d + 1) h l i hL (by omega), q_c1_s, pk_mul, show (20 : Int32) = nI 20 from rfl, pk_div (by omega) (by decide) (by decide), pk_sub (by omega), pk_mul]
    rfl
  · rw [if_neg (show ¬ nI 2 = (1 : Int32) by decide), if_pos (show nI 2 = (2 : Int32) from rfl), if_neg (show ¬ (10 : Nat) = 0 by decide), s27_12 (d + 1) h l i hL (by omega), q_c1_s, pk_mul, show (10 : Int32) = nI 10 from rfl, pk_div (by omega) (by decide) (by decide), nI_add, pk_mul]
    rfl
theorem s29_18 (d : Nat) (h : q_S) (l : qv_L) (i : Nat) (hL : qv_at h 18 l) (hl : qv_ok l) (hi : i < l 0 0) : q_sem (d + 4) 29 h [.ref 18, .int (nI i)] = some (h, some (.int (nI (qv_I l i)))) := by
  have hi8 : i < 8 := by have := hl.1; omega
  have hk := hl.2.2.2.1 i hi8
  have hw := qv_wg_bd (kind := l 1 i) (spin := l 0 1) (hl.2.2.2.2.1 i hi) hk.2.1
  have e3 : h.1 18 7 = nI (l 0 1) := hL.2.1
  have e4 : h.1 18 8 = nI (l 0 2) := hL.2.2.1
  have hm : qv_w l i * l 0 1 ≤ 201 * 9 := Nat.mul_le_mul hw.2 hl.2.1
  have hm2 : qv_w l i * l 0 1 ≤ qv_w l i * 9 := Nat.mul_le_mul_left _ hl.2.1
  rw [m29_1, s28_18 d h l i hL hl hi8, q_c1_s, e4, e3]
  have hw2 := hl.2.2.1
  unfold qv_I qv_in
  rcases (show l 0 2 = 0 ∨ l 0 2 = 1 ∨ l 0 2 = 2 by omega) with e | e | e <;> rw [e]
  · rw [if_neg (show ¬ nI 0 = (1 : Int32) by decide), if_neg (show ¬ nI 0 = (2 : Int32) by decide), s27_18 (d + 1) h l i hL (by omega), q_c1_s, pk_mul]
    rfl
  · rw [if_pos (show nI 1 = (1 : Int32) from rfl), if_neg (show ¬ (20 : Nat) = 0 by decide), s27_18 (d + 1) h l i hL (by omega), q_c1_s, pk_mul, show (20 : Int32) = nI 20 from rfl, pk_div (by omega) (by decide) (by decide), pk_sub (by omega), pk_mul]
    rfl
  · rw [if_neg (show ¬ nI 2 = (1 : Int32) by decide), if_pos (show nI 2 = (2 : Int32) from rfl), if_neg (show ¬ (10 : Nat) = 0 by decide), s27_18 (d + 1) h l i hL (by omega), q_c1_s, pk_mul, show (10 : Int32) = nI 10 from rfl, pk_div (by omega) (by decide) (by decide), nI_add, pk_mul]
    rfl
theorem s29_24 (d : Nat) (h : q_S) (l : qv_L) (i : Nat) (hL : qv_at h 24 l) (hl : qv_ok l) (hi : i < l 0 0) : q_sem (d + 4) 29 h [.ref 24, .int (nI i)] = some (h, some (.int (nI (qv_I l i)))) := by
  have hi8 : i < 8 := by have := hl.1; omega
  have hk := hl.2.2.2.1 i hi8
  have hw := qv_wg_bd (kind := l 1 i) (spin := l 0 1) (hl.2.2.2.2.1 i hi) hk.2.1
  have e3 : h.1 24 7 = nI (l 0 1) := hL.2.1
  have e4 : h.1 24 8 = nI (l 0 2) := hL.2.2.1
  have hm : qv_w l i * l 0 1 ≤ 201 * 9 := Nat.mul_le_mul hw.2 hl.2.1
  have hm2 : qv_w l i * l 0 1 ≤ qv_w l i * 9 := Nat.mul_le_mul_left _ hl.2.1
  rw [m29_2, s28_24 d h l i hL hl hi8, q_c1_s, e4, e3]
  have hw2 := hl.2.2.1
  unfold qv_I qv_in
  rcases (show l 0 2 = 0 ∨ l 0 2 = 1 ∨ l 0 2 = 2 by omega) with e | e | e <;> rw [e]
  · rw [if_neg (show ¬ nI 0 = (1 : Int32) by decide), if_neg (show ¬ nI 0 = (2 : Int32) by decide), s27_24 (d + 1) h l i hL (by omega), q_c1_s, pk_mul]
    rfl
  · rw [if_pos (show nI 1 = (1 : Int32) from rfl), if_neg (show ¬ (20 : Nat) = 0 by decide), s27_24 (d + 1) h l i hL (by omega), q_c1_s, pk_mul, show (20 : Int32) = nI 20 from rfl, pk_div (by omega) (by decide) (by decide), pk_sub (by omega), pk_mul]
    rfl
  · rw [if_neg (show ¬ nI 2 = (1 : Int32) by decide), if_pos (show nI 2 = (2 : Int32) from rfl), if_neg (show ¬ (10 : Nat) = 0 by decide), s27_24 (d + 1) h l i hL (by omega), q_c1_s, pk_mul, show (10 : Int32) = nI 10 from rfl, pk_div (by omega) (by decide) (by decide), nI_add, pk_mul]
    rfl
theorem s29 {o : Nat} (ho : qv_ln o) (d : Nat) (h : q_S) (l : qv_L) (i : Nat) (hL : qv_at h o l) (hl : qv_ok l) (hi : i < l 0 0) : q_sem (d + 4) 29 h [.ref o, .int (nI i)] = some (h, some (.int (nI (qv_I l i)))) := by
  rcases ho with rfl | rfl | rfl
  · exact s29_12 d h l i hL hl hi
  · exact s29_18 d h l i hL hl hi
  · exact s29_24 d h l i hL hl hi
theorem s30_12 (d : Nat) (h : q_S) (l : qv_L) (i : Nat) (hL : qv_at h 12 l) (hi : i < 8) : q_sem (d + 3) 30 h [.ref 12, .int (nI i)] = some (h, some (.int (nI (qv_G l i)))) := by
  have e2 : h.1 15 i = nI (l 3 i) := hL.2.2.2 3 i (by decide) (by decide) hi
  rw [m30, q_ix_n hi (by decide), s27_12 d h l i hL (by omega), q_c1_s, e2, pk_mul]
  rfl
theorem s30_18 (d : Nat) (h : q_S) (l : qv_L) (i : Nat) (hL : qv_at h 18 l) (hi : i < 8) : q_sem (d + 3) 30 h [.ref 18, .int (nI i)] = some (h, some (.int (nI (qv_G l i)))) := by
  have e2 : h.1 21 i = nI (l 3 i) := hL.2.2.2 3 i (by decide) (by decide) hi
  rw [m30_1, q_ix_n hi (by decide), s27_18 d h l i hL (by omega), q_c1_s, e2, pk_mul]
  rfl
theorem s30_24 (d : Nat) (h : q_S) (l : qv_L) (i : Nat) (hL : qv_at h 24 l) (hi : i < 8) : q_sem (d + 3) 30 h [.ref 24, .int (nI i)] = some (h, some (.int (nI (qv_G l i)))) := by
  have e2 : h.1 27 i = nI (l 3 i) := hL.2.2.2 3 i (by decide) (by decide) hi
  rw [m30_2, q_ix_n hi (by decide), s27_24 d h l i hL (by omega), q_c1_s, e2, pk_mul]
  rfl
theorem s30 {o : Nat} (ho : qv_ln o) (d : Nat) (h : q_S) (l : qv_L) (i : Nat) (hL : qv_at h o l) (hi : i < 8) : q_sem (d + 3) 30 h [.ref o, .int (nI i)] = some (h, some (.int (nI (qv_G l i)))) := by
  rcases ho with rfl | rfl | rfl
  · exact s30_12 d h l i hL hi
  · exact s30_18 d h l i hL hi
  · exact s30_24 d h l i hL hi
theorem s31_12 (d : Nat) (h : q_S) (l : qv_L) (i : Nat) (hL : qv_at h 12 l) (hi : i < 8) : q_sem (d + 3) 31 h [.ref 12, .int (nI i)] = some (h, some (.int (nI (qv_K l i)))) := by
  have e2 : h.1 16 i = nI (l 4 i) := hL.2.2.2 4 i (by decide) (by decide) hi
  rw [m31, q_ix_n hi (by decide), s27_12 d h l i hL (by omega), q_c1_s, e2, pk_mul]
  rfl
theorem s31_18 (d : Nat) (h : q_S) (l : qv_L) (i : Nat) (hL : qv_at h 18 l) (hi : i < 8) : q_sem (d + 3) 31 h [.ref 18, .int (nI i)] = some (h, some (.int (nI (qv_K l i)))) := by
  have e2 : h.1 22 i = nI (l 4 i) := hL.2.2.2 4 i (by decide) (by decide) hi
  rw [m31_1, q_ix_n hi (by decide), s27_18 d h l i hL (by omega), q_c1_s, e2, pk_mul]
  rfl
theorem s31_24 (d : Nat) (h : q_S) (l : qv_L) (i : Nat) (hL : qv_at h 24 l) (hi : i < 8) : q_sem (d + 3) 31 h [.ref 24, .int (nI i)] = some (h, some (.int (nI (qv_K l i)))) := by
  have e2 : h.1 28 i = nI (l 4 i) := hL.2.2.2 4 i (by decide) (by decide) hi
  rw [m31_2, q_ix_n hi (by decide), s27_24 d h l i hL (by omega), q_c1_s, e2, pk_mul]
  rfl
theorem s31 {o : Nat} (ho : qv_ln o) (d : Nat) (h : q_S) (l : qv_L) (i : Nat) (hL : qv_at h o l) (hi : i < 8) : q_sem (d + 3) 31 h [.ref o, .int (nI i)] = some (h, some (.int (nI (qv_K l i)))) := by
  rcases ho with rfl | rfl | rfl
  · exact s31_12 d h l i hL hi
  · exact s31_18 d h l i hL hi
  · exact s31_24 d h l i hL hi
theorem s32_12 (d : Nat) (h : q_S) (l : qv_L) (i : Nat) (hL : qv_at h 12 l) (hl : qv_ok l) (hi : i < l 0 0) : q_sem (d + 4) 32 h [.ref 12, .int (nI i)] = some (h, some (.int (nI (qv_H l i)))) := by
  have hi8 : i < 8 := by have := hl.1; omega
  have hn8 := hl.1
  have e3 : h.1 12 6 = nI (l 0 0) := hL.1
  rw [m32, s30_12 d h l i hL hi8, q_c1_s]
  have key : ∀ v : Nat, q_go e_32 q_X0 (q_sem (d + 3)) 999 20 [(0, .ref 12), (1, .int (nI i)), (2, .int (nI v))] [] h = some (h, some (.int (nI (v + (if i + 1 < l 0 0 then qv_K l i else 0))))) := by
    intro v
    rw [b32_20, e3]
    by_cases q : i + 1 < l 0 0
    · rw [if_pos ((nI_ltm (by omega) (by omega)).mpr q), s31_12 d h l i hL hi8, q_c1_s, nI_add, if_pos q]
    · rw [if_neg (fun z => q ((nI_ltm (by omega) (by omega)).mp z)), if_neg q, Nat.add_zero]
  by_cases q : 0 < i
  · rw [if_pos ((nI_pos_iff (by omega)).mpr q)]
    obtain ⟨j, rfl⟩ : ∃ j, i = j + 1 := ⟨i - 1, by omega⟩
    rw [nI_m1, s31_12 d h l j hL (by omega), q_c1_s, nI_add, key]
    unfold qv_H
    rw [if_pos q, Nat.add_sub_cancel]
  · rw [if_neg (fun z => q ((nI_pos_iff (by omega)).mp z)), key]
    unfold qv_H
    rw [if_neg q]
    rfl
theorem s32_18 (d : Nat) (h : q_S) (l : qv_L) (i : Nat) (hL : qv_at h 18 l) (hl : qv_ok l) (hi : i < l 0 0) : q_sem (d + 4) 32 h [.ref 18, .int (nI i)] = some (h, some (.int (nI (qv_H l i)))) := by
  have hi8 : i < 8 := by have := hl.1; omega
  have hn8 := hl.1
  have e3 : h.1 18 6 = nI (l 0 0) := hL.1
  rw [m32_1, s30_18 d h l i hL hi8, q_c1_s]
  have key : ∀ v : Nat, q_go e_32 q_X0 (q_sem (d + 3)) 999 20 [(0, .ref 18), (1, .int (nI i)), (2, .int (nI v))] [] h = some (h, some (.int (nI (v + (if i + 1 < l 0 0 then qv_K l i else 0))))) := by
    intro v
    rw [b32_20_1, e3]
    by_cases q : i + 1 < l 0 0
    · rw [if_pos ((nI_ltm (by omega) (by omega)).mpr q), s31_18 d h l i hL hi8, q_c1_s, nI_add, if_pos q]
    · rw [if_neg (fun z => q ((nI_ltm (by omega) (by omega)).mp z)), if_neg q, Nat.add_zero]
  by_cases q : 0 < i
  · rw [if_pos ((nI_pos_iff (by omega)).mpr q)]
    obtain ⟨j, rfl⟩ : ∃ j, i = j + 1 := ⟨i - 1, by omega⟩
    rw [nI_m1, s31_18 d h l j hL (by omega), q_c1_s, nI_add, key]
    unfold qv_H
    rw [if_pos q, Nat.add_sub_cancel]
  · rw [if_neg (fun z => q ((nI_pos_iff (by omega)).mp z)), key]
    unfold qv_H
    rw [if_neg q]
    rfl
theorem s32 {o : Nat} (ho : o = 12 ∨ o = 18) (d : Nat) (h : q_S) (l : qv_L) (i : Nat) (hL : qv_at h o l) (hl : qv_ok l) (hi : i < l 0 0) : q_sem (d + 4) 32 h [.ref o, .int (nI i)] = some (h, some (.int (nI (qv_H l i)))) := by
  rcases ho with rfl | rfl
  · exact s32_12 d h l i hL hl hi
  · exact s32_18 d h l i hL hl hi
