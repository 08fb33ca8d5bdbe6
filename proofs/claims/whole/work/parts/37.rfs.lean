/-! ===== set ===== -/
def qv_but (l : qv_L) (i : Nat) : Nat → Nat
  | 0 => 1
  | k + 1 => if k = i then qv_but l i k else qv_but l i k * l 5 k
theorem but_le (l : qv_L) (i : Nat) : ∀ k, k ≤ i → qv_but l i k = qv_rat l k
  | 0, _ => rfl
  | k + 1, h => by rw [qv_but, qv_rat, if_neg (by omega), but_le l i k (by omega)]
theorem but_gt (l : qv_L) (i : Nat) : ∀ k, i < k → qv_but l i k * l 5 i = qv_rat l k
  | 0, h => absurd h (by omega)
  | k + 1, h => by
    rw [qv_but, qv_rat]
    by_cases z : k = i
    · rw [if_pos z, z, but_le l i i (by omega)]
    · rw [if_neg z, ← but_gt l i k (by omega), Nat.mul_right_comm]
theorem but_ql (l : qv_L) (i v : Nat) : ∀ k, qv_but (ql l 5 i v) i k = qv_but l i k
  | 0 => rfl
  | k + 1 => by
    rw [qv_but, qv_but, but_ql l i v k]
    by_cases z : k = i
    · rw [if_pos z, if_pos z]
    · rw [if_neg z, if_neg z, ql_ne (by omega)]
theorem ok_put {l : qv_L} (h : qv_ok l) {w k v : Nat} (hw : w ≤ 5) (hk : k < 8) (hd : w = 0 ∨ w = 2 → k < l 0 0) (hs : w = 1 ∨ w = 3 → k + 1 < l 0 0) (h1 : q_lst w ≤ v) (h2 : v ≤ q_mst w) (h3 : w = 3 → qv_but l k (l 0 0 - 1) * v ≤ 6) : qv_ok (qv_put l w k v) := by
  have hok := h
  obtain ⟨a, b, c, d, e, f, g⟩ := h
  rcases q6 hw with rfl | rfl | rfl | rfl | rfl | rfl
  · have h1 : 1 ≤ v := h1
    have h2 : v ≤ 99 := h2
    rw [put_0]
    refine ⟨by rw [ql_ne (by omega)]; exact a, by rw [ql_ne (by omega)]; exact b, by rw [ql_ne (by omega)]; exact c, fun i hi => ?_, fun i hi => ?_, fun i hi => ?_, ?_⟩
    · have d := d i hi
      rw [ql_ne (by omega), ql_ne (a := 2) (b := 3) (by omega), ql_ne (a := 2) (b := 4) (by omega), ql_ne (a := 2) (b := 5) (by omega)]
      refine ⟨d.1, ?_, d.2.2⟩
      simp only [ql]
      split <;> omega
    · rw [ql_ne (by omega)] at hi
      have e := e i hi
      simp only [ql]
      split <;> omega
    · rw [ql_ne (by omega)] at hi
      rw [ql_ne (by omega), ql_ne (by omega)]
      exact f i hi
    · rw [ql_ne (by omega), ql_rat (by omega)]
      exact g
  · have h1 : 1 ≤ v := h1
    have h2 : v ≤ 99 := h2
    rw [put_1]
    refine ⟨by rw [ql_ne (by omega)]; exact a, by rw [ql_ne (by omega)]; exact b, by rw [ql_ne (by omega)]; exact c, fun i hi => ?_, fun i hi => ?_, fun i hi => ?_, ?_⟩
    · have d := d i hi
      rw [ql_ne (by omega), ql_ne (a := 4) (b := 2) (by omega), ql_ne (a := 4) (b := 3) (by omega), ql_ne (a := 4) (b := 5) (by omega)]
      refine ⟨d.1, d.2.1, d.2.2.1, ?_, d.2.2.2.2⟩
      simp only [ql]
      split <;> omega
    · rw [ql_ne (by omega)] at hi
      rw [ql_ne (by omega)]
      exact e i hi
    · rw [ql_ne (by omega)] at hi
      have f := f i hi
      rw [ql_ne (a := 4) (b := 5) (by omega)]
      refine ⟨?_, f.2⟩
      simp only [ql]
      split <;> omega
    · rw [ql_ne (by omega), ql_rat (by omega)]
      exact g
  · have h2 : v ≤ 99 := h2
    rw [put_2]
    refine ⟨by rw [ql_ne (by omega)]; exact a, by rw [ql_ne (by omega)]; exact b, by rw [ql_ne (by omega)]; exact c, fun i hi => ?_, fun i hi => ?_, fun i hi => ?_, ?_⟩
    · have d := d i hi
      rw [ql_ne (by omega), ql_ne (a := 3) (b := 2) (by omega), ql_ne (a := 3) (b := 4) (by omega), ql_ne (a := 3) (b := 5) (by omega)]
      refine ⟨d.1, d.2.1, ?_, d.2.2.2⟩
      simp only [ql]
      split <;> omega
    · rw [ql_ne (by omega)] at hi
      rw [ql_ne (by omega)]
      exact e i hi
    · rw [ql_ne (by omega)] at hi
      rw [ql_ne (by omega), ql_ne (by omega)]
      exact f i hi
    · rw [ql_ne (by omega), ql_rat (by omega)]
      exact g
  · have h1 : 1 ≤ v := h1
    have h2 : v ≤ 6 := h2
    have hs := hs (Or.inr rfl)
    rw [put_3]
    refine ⟨by rw [ql_ne (by omega)]; exact a, by rw [ql_ne (by omega)]; exact b, by rw [ql_ne (by omega)]; exact c, fun i hi => ?_, fun i hi => ?_, fun i hi => ?_, ?_⟩
    · have d := d i hi
      rw [ql_ne (by omega), ql_ne (a := 5) (b := 2) (by omega), ql_ne (a := 5) (b := 3) (by omega), ql_ne (a := 5) (b := 4) (by omega)]
      refine ⟨d.1, d.2.1, d.2.2.1, d.2.2.2.1, ?_⟩
      simp only [ql]
      split <;> omega
    · rw [ql_ne (by omega)] at hi
      rw [ql_ne (by omega)]
      exact e i hi
    · rw [ql_ne (by omega)] at hi
      have f := f i hi
      rw [ql_ne (a := 5) (b := 4) (by omega)]
      refine ⟨f.1, ?_⟩
      simp only [ql]
      split <;> omega
    · rw [ql_ne (a := 5) (b := 0) (by omega), ← but_gt _ k _ (by omega), but_ql, ql_eq]
      exact h3 rfl
  · have h2 : v ≤ 9 := h2
    rw [put_4]
    refine ⟨by rw [ql_ne (by omega)]; exact a, by rw [ql_eq]; exact h2, by rw [ql_ne (by omega)]; exact c, fun i hi => ?_, fun i hi => ?_, fun i hi => ?_, ?_⟩
    · rw [ql_ne (by omega), ql_ne (by omega), ql_ne (by omega), ql_ne (by omega), ql_ne (by omega)]
      exact d i hi
    · rw [ql_ne (by omega)] at hi
      rw [ql_ne (by omega)]
      exact e i hi
    · rw [ql_ne (by omega)] at hi
      rw [ql_ne (by omega), ql_ne (by omega)]
      exact f i hi
    · rw [ql_ne (by omega), ql_rat (by omega)]
      exact g
  · have h2 : v ≤ 2 := h2
    rw [put_5]
    refine ⟨by rw [ql_ne (by omega)]; exact a, by rw [ql_ne (by omega)]; exact b, by rw [ql_eq]; exact h2, fun i hi => ?_, fun i hi => ?_, fun i hi => ?_, ?_⟩
    · rw [ql_ne (by omega), ql_ne (by omega), ql_ne (by omega), ql_ne (by omega), ql_ne (by omega)]
      exact d i hi
    · rw [ql_ne (by omega)] at hi
      rw [ql_ne (by omega)]
      exact e i hi
    · rw [ql_ne (by omega)] at hi
      rw [ql_ne (by omega), ql_ne (by omega)]
      exact f i hi
    · rw [ql_ne (by omega), ql_rat (by omega)]
      exact g
theorem get_bd {l : qv_L} (h : qv_ok l) {w k : Nat} (hk : k < 8) : qv_get l w k ≤ 99 := by
  have d := h.2.2.2.1 k hk
  have b := h.2.1
  have c := h.2.2.1
  unfold qv_get
  split
  · omega
  split
  · omega
  split
  · omega
  split
  · omega
  split <;> omega
theorem s21p_12 (d : Nat) {h : q_S} {l : qv_L} (hL : qv_at h 12 l) {w : Nat} (hw : w ≤ 5) {x : Int32} (g : qg_pl l w x) : q_sem (d + 2) 21 h [.ref 12, .int (nI w), .int x] = some (h, some (.int 1)) := by
  rcases q6 hw with rfl | rfl | rfl | rfl | rfl | rfl
  · rw [m21, if_pos (by decide), s19p _ hL (g.1 (by omega)), q_c1_s, if_pos (by decide)]
  · rw [m21, if_neg (by decide), if_pos (by decide), s20p _ hL (g.2 (by omega)), q_c1_s, if_pos (by decide)]
  · rw [m21, if_neg (by decide), if_neg (by decide), if_pos (by decide), s19p _ hL (g.1 (by omega)), q_c1_s, if_pos (by decide)]
  · rw [m21, if_neg (by decide), if_neg (by decide), if_neg (by decide), if_pos (by decide), s20p _ hL (g.2 (by omega)), q_c1_s, if_pos (by decide)]
  · rw [m21, if_neg (by decide), if_neg (by decide), if_neg (by decide), if_neg (by decide), if_pos (by decide)]
  · rw [m21, if_neg (by decide), if_neg (by decide), if_neg (by decide), if_neg (by decide), if_neg (by decide), if_pos (by decide)]
theorem s21n_12 (d : Nat) {h : q_S} {l : qv_L} (hL : qv_at h 12 l) {w : Nat} (hw : w ≤ 5) {x : Int32} (g : ¬ qg_pl l w x) : q_sem (d + 2) 21 h [.ref 12, .int (nI w), .int x] = some (h, some (.int 0)) := by
  rcases q6 hw with rfl | rfl | rfl | rfl | rfl | rfl
  · rw [m21, if_pos (by decide), s19n _ hL (fun q => g ⟨fun _ => q, fun r => by omega⟩), q_c1_s, if_pos (by decide)]
  · rw [m21, if_neg (by decide), if_pos (by decide), s20n _ hL (fun q => g ⟨fun r => by omega, fun _ => q⟩), q_c1_s, if_pos (by decide)]
  · rw [m21, if_neg (by decide), if_neg (by decide), if_pos (by decide), s19n _ hL (fun q => g ⟨fun _ => q, fun r => by omega⟩), q_c1_s, if_pos (by decide)]
  · rw [m21, if_neg (by decide), if_neg (by decide), if_neg (by decide), if_pos (by decide), s20n _ hL (fun q => g ⟨fun r => by omega, fun _ => q⟩), q_c1_s, if_pos (by decide)]
  · exact absurd ⟨fun r => by omega, fun r => by omega⟩ g
  · exact absurd ⟨fun r => by omega, fun r => by omega⟩ g
theorem s21o_12 (d : Nat) (h : q_S) {y : Int32} (hy : ∀ w, w ≤ 5 → y ≠ nI w) (x : Int32) : q_sem (d + 2) 21 h [.ref 12, .int y, .int x] = some (h, some (.int 0)) := by
  rw [m21, if_neg (show ¬ y = 0 from hy 0 (by omega)), if_neg (show ¬ y = 1 from hy 1 (by omega)), if_neg (show ¬ y = 2 from hy 2 (by omega)), if_neg (show ¬ y = 3 from hy 3 (by omega)), if_neg (show ¬ y = 4 from hy 4 (by omega)), if_neg (show ¬ y = 5 from hy 5 (by omega))]
theorem l26_12 (X : q_X) (O : q_O) (l : qv_L) (hl : qv_ok l) (h : q_S) (hL : qv_at h 12 l) (i : Nat) (hi : i + 1 < l 0 0) : ∀ m f j, j + m = l 0 0 - 1 → m < f → q_go e_26 X O f 4 [(0, .ref 12), (1, .int (nI i)), (2, .int (nI (qv_but l i j))), (3, .int (nI j))] [] h = some (h, some (.int (nI (qv_but l i (l 0 0 - 1))))) := by
  have h8 := hl.1
  have hm : nI (l 0 0) - 1 = nI (l 0 0 - 1) := by
    obtain ⟨r, hr⟩ : ∃ r, l 0 0 = r + 1 := ⟨l 0 0 - 1, by omega⟩
    rw [hr, nI_m1, Nat.add_sub_cancel]
  intro m
  induction m with
  | zero =>
    intro f j hj hf
    obtain ⟨f, rfl⟩ : ∃ g, f = g + 1 := ⟨f - 1, by omega⟩
    rw [b26_4, hL.1, hm, if_neg (by rw [nI_lt_iff (by omega) (by omega)]; omega), show j = l 0 0 - 1 by omega]
  | succ m ih =>
    intro f j hj hf
    obtain ⟨f, rfl⟩ : ∃ g, f = g + 1 := ⟨f - 1, by omega⟩
    have ih := ih f (j + 1) (by omega) (by omega)
    rw [b26_4, hL.1, hm, if_pos (by rw [nI_lt_iff (by omega) (by omega)]; omega), nI_p1]
    by_cases z : j = i
    · rw [if_pos (by rw [z])]
      rw [qv_but, if_pos z] at ih
      exact ih
    · rw [if_neg (by rw [nI_eq_iff (by omega) (by omega)]; exact z), q_ix_n (by omega) (by decide), show h.1 17 j = nI (l 5 j) from hL.2.2.2 5 j (by omega) (by omega) (by omega), pk_mul]
      rw [qv_but, if_neg z] at ih
      exact ih
theorem s26_12 (d : Nat) (h : q_S) (l : qv_L) (hl : qv_ok l) (hL : qv_at h 12 l) (i : Nat) (hi : i + 1 < l 0 0) : q_sem (d + 1) 26 h [.ref 12, .int (nI i)] = some (h, some (.int (nI (qv_but l i (l 0 0 - 1))))) := by
  have h8 := hl.1
  rw [m26]
  exact l26_12 _ _ l hl h hL i hi (l 0 0 - 1) 999 0 (by omega) (by omega)
theorem s22o_12 (d : Nat) (h : q_S) {y : Int32} (hy : ∀ w, w ≤ 5 → y ≠ nI w) (x z : Int32) : q_sem (d + 3) 22 h [.ref 12, .int y, .int x, .int z] = some (h, some (.int (-1))) := by
  rw [m22, s21o_12 _ _ hy, q_c1_s, if_pos rfl]
theorem s22n_12 (d : Nat) {h : q_S} {l : qv_L} (hL : qv_at h 12 l) {w : Nat} (hw : w ≤ 5) {x z : Int32} (g : ¬ (qg_pl l w x ∧ qg_v w z)) : q_sem (d + 3) 22 h [.ref 12, .int (nI w), .int x, .int z] = some (h, some (.int (-1))) := by
  by_cases a : qg_pl l w x
  · rw [m22, s21p_12 _ hL hw a, q_c1_s, if_neg (by decide), s105n _ _ hw (fun q => g ⟨a, q⟩), q_c1_s, if_pos rfl]
  · rw [m22, s21n_12 _ hL hw a, q_c1_s, if_pos rfl]
theorem s22s_12 (d : Nat) {h : q_S} {l : qv_L} (hl : qv_ok l) (hL : qv_at h 12 l) {k v : Nat} (hk : k + 1 < l 0 0) (g1 : qg_pl l 3 (nI k)) (g2 : qg_v 3 (nI v)) (hv : v ≤ 6) (hb : qv_but l k (l 0 0 - 1) ≤ 6) (g : 6 < qv_but l k (l 0 0 - 1) * v) : q_sem (d + 3) 22 h [.ref 12, .int (nI 3), .int (nI k), .int (nI v)] = some (h, some (.int (-5))) := by
  have := Nat.mul_le_mul hb hv
  rw [m22, s21p_12 _ hL (by omega) g1, q_c1_s, if_neg (by decide), s105p _ _ (by omega) g2, q_c1_s, if_neg (by decide), if_pos (by decide), s26_12 _ h l hl hL k hk, q_c1_s, pk_mul, if_pos (by rw [show (6 : Int32) = nI 6 from rfl, nI_lt_iff (by omega) (by omega)]; omega)]
theorem s22p_12 (d : Nat) {h : q_S} {l : qv_L} (hl : qv_ok l) (hL : qv_at h 12 l) {w k v : Nat} (hw : w ≤ 5) {x : Int32} (hx : w ≤ 3 → x = nI k) (hk : w = 3 → k + 1 < l 0 0) (g1 : qg_pl l w x) (g2 : qg_v w (nI v)) (g : w = 3 → qv_but l k (l 0 0 - 1) * v ≤ 6) : q_sem (d + 3) 22 h [.ref 12, .int (nI w), .int x, .int (nI v)] = some (h, some (.int 0)) := by
  rw [m22, s21p_12 _ hL hw g1, q_c1_s, if_neg (by decide), s105p _ _ hw g2, q_c1_s, if_neg (by decide)]
  by_cases z : w = 3
  · subst z
    have g := g rfl
    rw [if_pos (by decide), hx (by omega), s26_12 _ h l hl hL k (hk rfl), q_c1_s, pk_mul, if_neg (by rw [show (6 : Int32) = nI 6 from rfl, nI_lt_iff (by omega) (by omega)]; omega)]
  · rw [if_neg (by rw [show (3 : Int32) = nI 3 from rfl, nI_eq_iff (by omega) (by omega)]; exact z)]
theorem s19p_18 (d : Nat) {h : q_S} {l : qv_L} (hL : qv_at h 18 l) {x : Int32} (g : qg_d l x) : q_sem (d + 1) 19 h [.ref 18, .int x] = some (h, some (.int 1)) := by
  rw [m19_1, if_neg g.1, hL.1, if_pos g.2]
theorem s19n_18 (d : Nat) {h : q_S} {l : qv_L} (hL : qv_at h 18 l) {x : Int32} (g : ¬ qg_d l x) : q_sem (d + 1) 19 h [.ref 18, .int x] = some (h, some (.int 0)) := by
  rw [m19_1, hL.1]
  by_cases a : x < 0
  · rw [if_pos a]
  · rw [if_neg a, if_neg fun b => g ⟨a, b⟩]
theorem s20p_18 (d : Nat) {h : q_S} {l : qv_L} (hL : qv_at h 18 l) {x : Int32} (g : qg_s l x) : q_sem (d + 1) 20 h [.ref 18, .int x] = some (h, some (.int 1)) := by
  rw [m20_1, if_neg g.1, hL.1, if_pos g.2]
theorem s20n_18 (d : Nat) {h : q_S} {l : qv_L} (hL : qv_at h 18 l) {x : Int32} (g : ¬ qg_s l x) : q_sem (d + 1) 20 h [.ref 18, .int x] = some (h, some (.int 0)) := by
  rw [m20_1, hL.1]
  by_cases a : x < 0
  · rw [if_pos a]
  · rw [if_neg a, if_neg fun b => g ⟨a, b⟩]
theorem s21p_18 (d : Nat) {h : q_S} {l : qv_L} (hL : qv_at h 18 l) {w : Nat} (hw : w ≤ 5) {x : Int32} (g : qg_pl l w x) : q_sem (d + 2) 21 h [.ref 18, .int (nI w), .int x] = some (h, some (.int 1)) := by
  rcases q6 hw with rfl | rfl | rfl | rfl | rfl | rfl
  · rw [m21_1, if_pos (by decide), s19p_18 _ hL (g.1 (by omega)), q_c1_s, if_pos (by decide)]
  · rw [m21_1, if_neg (by decide), if_pos (by decide), s20p_18 _ hL (g.2 (by omega)), q_c1_s, if_pos (by decide)]
  · rw [m21_1, if_neg (by decide), if_neg (by decide), if_pos (by decide), s19p_18 _ hL (g.1 (by omega)), q_c1_s, if_pos (by decide)]
  · rw [m21_1, if_neg (by decide), if_neg (by decide), if_neg (by decide), if_pos (by decide), s20p_18 _ hL (g.2 (by omega)), q_c1_s, if_pos (by decide)]
  · rw [m21_1, if_neg (by decide), if_neg (by decide), if_neg (by decide), if_neg (by decide), if_pos (by decide)]
  · rw [m21_1, if_neg (by decide), if_neg (by decide), if_neg (by decide), if_neg (by decide), if_neg (by decide), if_pos (by decide)]
theorem s21n_18 (d : Nat) {h : q_S} {l : qv_L} (hL : qv_at h 18 l) {w : Nat} (hw : w ≤ 5) {x : Int32} (g : ¬ qg_pl l w x) : q_sem (d + 2) 21 h [.ref 18, .int (nI w), .int x] = some (h, some (.int 0)) := by
  rcases q6 hw with rfl | rfl | rfl | rfl | rfl | rfl
  · rw [m21_1, if_pos (by decide), s19n_18 _ hL (fun q => g ⟨fun _ => q, fun r => by omega⟩), q_c1_s, if_pos (by decide)]
  · rw [m21_1, if_neg (by decide), if_pos (by decide), s20n_18 _ hL (fun q => g ⟨fun r => by omega, fun _ => q⟩), q_c1_s, if_pos (by decide)]
  · rw [m21_1, if_neg (by decide), if_neg (by decide), if_pos (by decide), s19n_18 _ hL (fun q => g ⟨fun _ => q, fun r => by omega⟩), q_c1_s, if_pos (by decide)]
  · rw [m21_1, if_neg (by decide), if_neg (by decide), if_neg (by decide), if_pos (by decide), s20n_18 _ hL (fun q => g ⟨fun r => by omega, fun _ => q⟩), q_c1_s, if_pos (by decide)]
  · exact absurd ⟨fun r => by omega, fun r => by omega⟩ g
  · exact absurd ⟨fun r => by omega, fun r => by omega⟩ g
theorem s21o_18 (d : Nat) (h : q_S) {y : Int32} (hy : ∀ w, w ≤ 5 → y ≠ nI w) (x : Int32) : q_sem (d + 2) 21 h [.ref 18, .int y, .int x] = some (h, some (.int 0)) := by
  rw [m21_1, if_neg (show ¬ y = 0 from hy 0 (by omega)), if_neg (show ¬ y = 1 from hy 1 (by omega)), if_neg (show ¬ y = 2 from hy 2 (by omega)), if_neg (show ¬ y = 3 from hy 3 (by omega)), if_neg (show ¬ y = 4 from hy 4 (by omega)), if_neg (show ¬ y = 5 from hy 5 (by omega))]
theorem l26_18 (X : q_X) (O : q_O) (l : qv_L) (hl : qv_ok l) (h : q_S) (hL : qv_at h 18 l) (i : Nat) (hi : i + 1 < l 0 0) : ∀ m f j, j + m = l 0 0 - 1 → m < f → q_go e_26 X O f 4 [(0, .ref 18), (1, .int (nI i)), (2, .int (nI (qv_but l i j))), (3, .int (nI j))] [] h = some (h, some (.int (nI (qv_but l i (l 0 0 - 1))))) := by
  have h8 := hl.1
  have hm : nI (l 0 0) - 1 = nI (l 0 0 - 1) := by
    obtain ⟨r, hr⟩ : ∃ r, l 0 0 = r + 1 := ⟨l 0 0 - 1, by omega⟩
    rw [hr, nI_m1, Nat.add_sub_cancel]
  intro m
  induction m with
  | zero =>
    intro f j hj hf
    obtain ⟨f, rfl⟩ : ∃ g, f = g + 1 := ⟨f - 1, by omega⟩
    rw [b26_4_1, hL.1, hm, if_neg (by rw [nI_lt_iff (by omega) (by omega)]; omega), show j = l 0 0 - 1 by omega]
  | succ m ih =>
    intro f j hj hf
    obtain ⟨f, rfl⟩ : ∃ g, f = g + 1 := ⟨f - 1, by omega⟩
    have ih := ih f (j + 1) (by omega) (by omega)
    rw [b26_4_1, hL.1, hm, if_pos (by rw [nI_lt_iff (by omega) (by omega)]; omega), nI_p1]
    by_cases z : j = i
    · rw [if_pos (by rw [z])]
      rw [qv_but, if_pos z] at ih
      exact ih
    · rw [if_neg (by rw [nI_eq_iff (by omega) (by omega)]; exact z), q_ix_n (by omega) (by decide), show h.1 23 j = nI (l 5 j) from hL.2.2.2 5 j (by omega) (by omega) (by omega), pk_mul]
      rw [qv_but, if_neg z] at ih
      exact ih
theorem s26_18 (d : Nat) (h : q_S) (l : qv_L) (hl : qv_ok l) (hL : qv_at h 18 l) (i : Nat) (hi : i + 1 < l 0 0) : q_sem (d + 1) 26 h [.ref 18, .int (nI i)] = some (h, some (.int (nI (qv_but l i (l 0 0 - 1))))) := by
  have h8 := hl.1
  rw [m26_1]
  exact l26_18 _ _ l hl h hL i hi (l 0 0 - 1) 999 0 (by omega) (by omega)
theorem s22o_18 (d : Nat) (h : q_S) {y : Int32} (hy : ∀ w, w ≤ 5 → y ≠ nI w) (x z : Int32) : q_sem (d + 3) 22 h [.ref 18, .int y, .int x, .int z] = some (h, some (.int (-1))) := by
  rw [m22_1, s21o_18 _ _ hy, q_c1_s, if_pos rfl]
theorem s22n_18 (d : Nat) {h : q_S} {l : qv_L} (hL : qv_at h 18 l) {w : Nat} (hw : w ≤ 5) {x z : Int32} (g : ¬ (qg_pl l w x ∧ qg_v w z)) : q_sem (d + 3) 22 h [.ref 18, .int (nI w), .int x, .int z] = some (h, some (.int (-1))) := by
  by_cases a : qg_pl l w x
  · rw [m22_1, s21p_18 _ hL hw a, q_c1_s, if_neg (by decide), s105n _ _ hw (fun q => g ⟨a, q⟩), q_c1_s, if_pos rfl]
  · rw [m22_1, s21n_18 _ hL hw a, q_c1_s, if_pos rfl]
theorem s22s_18 (d : Nat) {h : q_S} {l : qv_L} (hl : qv_ok l) (hL : qv_at h 18 l) {k v : Nat} (hk : k + 1 < l 0 0) (g1 : qg_pl l 3 (nI k)) (g2 : qg_v 3 (nI v)) (hv : v ≤ 6) (hb : qv_but l k (l 0 0 - 1) ≤ 6) (g : 6 < qv_but l k (l 0 0 - 1) * v) : q_sem (d + 3) 22 h [.ref 18, .int (nI 3), .int (nI k), .int (nI v)] = some (h, some (.int (-5))) := by
  have := Nat.mul_le_mul hb hv
  rw [m22_1, s21p_18 _ hL (by omega) g1, q_c1_s, if_neg (by decide), s105p _ _ (by omega) g2, q_c1_s, if_neg (by decide), if_pos (by decide), s26_18 _ h l hl hL k hk, q_c1_s, pk_mul, if_pos (by rw [show (6 : Int32) = nI 6 from rfl, nI_lt_iff (by omega) (by omega)]; omega)]
theorem s22p_18 (d : Nat) {h : q_S} {l : qv_L} (hl : qv_ok l) (hL : qv_at h 18 l) {w k v : Nat} (hw : w ≤ 5) {x : Int32} (hx : w ≤ 3 → x = nI k) (hk : w = 3 → k + 1 < l 0 0) (g1 : qg_pl l w x) (g2 : qg_v w (nI v)) (g : w = 3 → qv_but l k (l 0 0 - 1) * v ≤ 6) : q_sem (d + 3) 22 h [.ref 18, .int (nI w), .int x, .int (nI v)] = some (h, some (.int 0)) := by
  rw [m22_1, s21p_18 _ hL hw g1, q_c1_s, if_neg (by decide), s105p _ _ hw g2, q_c1_s, if_neg (by decide)]
  by_cases z : w = 3
  · subst z
    have g := g rfl
    rw [if_pos (by decide), hx (by omega), s26_18 _ h l hl hL k (hk rfl), q_c1_s, pk_mul, if_neg (by rw [show (6 : Int32) = nI 6 from rfl, nI_lt_iff (by omega) (by omega)]; omega)]
  · rw [if_neg (by rw [show (3 : Int32) = nI 3 from rfl, nI_eq_iff (by omega) (by omega)]; exact z)]
theorem s140p (d : Nat) {h : q_S} {l : qv_L} (hl : qv_ok l) (hL : qw_at h l) {w : Nat} (hw : w ≤ 5) {x : Int32} (g : qg_pl l w x) : q_sem (d + 3) 140 h [.ref 67, .int (nI w), .int x] = some (h, some (.int 1)) := by
  rcases q6 hw with rfl | rfl | rfl | rfl | rfl | rfl
  · rw [m140, if_pos (by decide), s121p _ hl hL (g.1 (by omega)), q_c1_s, if_pos (by decide)]
  · rw [m140, if_neg (by decide), if_pos (by decide), s122p _ hl hL (g.2 (by omega)), q_c1_s, if_pos (by decide)]
  · rw [m140, if_neg (by decide), if_neg (by decide), if_pos (by decide), s121p _ hl hL (g.1 (by omega)), q_c1_s, if_pos (by decide)]
  · rw [m140, if_neg (by decide), if_neg (by decide), if_neg (by decide), if_pos (by decide), s122p _ hl hL (g.2 (by omega)), q_c1_s, if_pos (by decide)]
  · rw [m140, if_neg (by decide), if_neg (by decide), if_neg (by decide), if_neg (by decide), s120p _ _ (by decide) (by decide), q_c1_s, if_pos (by decide)]
  · rw [m140, if_neg (by decide), if_neg (by decide), if_neg (by decide), if_neg (by decide), s120p _ _ (by decide) (by decide), q_c1_s, if_pos (by decide)]
theorem s140n (d : Nat) {h : q_S} {l : qv_L} (hl : qv_ok l) (hL : qw_at h l) {w : Nat} (hw : w ≤ 5) {x : Int32} (g : ¬ qg_pl l w x) : q_sem (d + 3) 140 h [.ref 67, .int (nI w), .int x] = some (h, some (.int 0)) := by
  rcases q6 hw with rfl | rfl | rfl | rfl | rfl | rfl
  · rw [m140, if_pos (by decide), s121n _ hl hL (fun q => g ⟨fun _ => q, fun r => by omega⟩), q_c1_s, if_pos (by decide)]
  · rw [m140, if_neg (by decide), if_pos (by decide), s122n _ hl hL (fun q => g ⟨fun r => by omega, fun _ => q⟩), q_c1_s, if_pos (by decide)]
  · rw [m140, if_neg (by decide), if_neg (by decide), if_pos (by decide), s121n _ hl hL (fun q => g ⟨fun _ => q, fun r => by omega⟩), q_c1_s, if_pos (by decide)]
  · rw [m140, if_neg (by decide), if_neg (by decide), if_neg (by decide), if_pos (by decide), s122n _ hl hL (fun q => g ⟨fun r => by omega, fun _ => q⟩), q_c1_s, if_pos (by decide)]
  · exact absurd ⟨fun r => by omega, fun r => by omega⟩ g
  · exact absurd ⟨fun r => by omega, fun r => by omega⟩ g
theorem qg_5 {y : Int32} (hy : ∀ w, w ≤ 5 → y ≠ nI w) : ¬ (¬ y < 0 ∧ ¬ 5 < y) := by
  rintro ⟨a, b⟩
  obtain ⟨n, hn, rfl⟩ := qg_nat a
  rw [show (5 : Int32) = nI 5 from rfl, nI_lt_iff (by decide) hn] at b
  exact hy n (by omega) rfl
theorem s141 (d : Nat) (h : q_S) {w : Nat} (hw : w ≤ 5) : q_sem (d + 1) 141 h [.int (nI w)] = some (h, some (.int (nI (q_lst w)))) := by
  rw [m141]
  rcases q6 hw with rfl | rfl | rfl | rfl | rfl | rfl <;> rfl
theorem s142 (d : Nat) (h : q_S) {w : Nat} (hw : w ≤ 5) : q_sem (d + 1) 142 h [.int (nI w)] = some (h, some (.int (nI (q_mst w)))) := by
  rw [m142]
  rcases q6 hw with rfl | rfl | rfl | rfl | rfl | rfl <;> rfl
theorem s120w (d : Nat) (h : q_S) {w : Nat} (hw : w ≤ 5) : q_sem (d + 1) 120 h [.int (nI w), .int 0, .int 5] = some (h, some (.int 1)) :=
  s120p _ _ (nI_lt0 (by omega)) (by rw [show (5 : Int32) = nI 5 from rfl, nI_lt_iff (by omega) (by omega)]; omega)
theorem s143o (d : Nat) (h : q_S) {y : Int32} (hy : ∀ w, w ≤ 5 → y ≠ nI w) (x z : Int32) : q_sem (d + 4) 143 h [.ref 67, .int y, .int x, .int z] = some (h, some (.int (-1))) := by
  rw [m143, s120n _ _ (qg_5 hy), q_c1_s, if_pos rfl]
theorem s143n (d : Nat) {h : q_S} {l : qv_L} (hl : qv_ok l) (hL : qw_at h l) {w : Nat} (hw : w ≤ 5) {x z : Int32} (g : ¬ (qg_pl l w x ∧ qg_v w z)) : q_sem (d + 4) 143 h [.ref 67, .int (nI w), .int x, .int z] = some (h, some (.int (-1))) := by
  by_cases a : qg_pl l w x
  · rw [m143, s120w _ _ hw, q_c1_s, if_neg (by decide), s140p _ hl hL hw a, q_c1_s, if_neg (by decide), s141 _ _ hw, q_c1_s, s142 _ _ hw, q_c1_s, s120n _ _ (fun q => g ⟨a, q⟩), q_c1_s, if_pos rfl]
  · rw [m143, s120w _ _ hw, q_c1_s, if_neg (by decide), s140n _ hl hL hw a, q_c1_s, if_pos rfl]
theorem but_div {l : qv_L} (hl : qv_ok l) {k : Nat} (hk : k + 1 < l 0 0) : 0 < l 5 k ∧ l 5 k ≤ 6 ∧ qv_rat l (l 0 0 - 1) / l 5 k = qv_but l k (l 0 0 - 1) := by
  have h8 := hl.1
  have a := (hl.2.2.2.2.2.1 k hk).2
  have b := (hl.2.2.2.1 k (by omega)).2.2.2.2
  refine ⟨by omega, b, ?_⟩
  rw [← but_gt l k _ (by omega)]
  exact Nat.mul_div_cancel _ (by omega)
theorem but_6 {l : qv_L} (hl : qv_ok l) {k : Nat} (hk : k + 1 < l 0 0) : qv_but l k (l 0 0 - 1) ≤ 6 := by
  have h8 := hl.1
  have a := but_div hl hk
  have b := (qv_rat_6 hl (k := l 0 0 - 1) (Nat.le_refl _)).2
  have := Nat.div_le_self (qv_rat l (l 0 0 - 1)) (l 5 k)
  omega
theorem s143s (d : Nat) {h : q_S} {l : qv_L} (hl : qv_ok l) (hL : qw_at h l) {k v : Nat} (hk : k + 1 < l 0 0) (g1 : qg_pl l 3 (nI k)) (g2 : qg_v 3 (nI v)) (hv : v ≤ 6) (g : 6 < qv_but l k (l 0 0 - 1) * v) : q_sem (d + 4) 143 h [.ref 67, .int (nI 3), .int (nI k), .int (nI v)] = some (h, some (.int (-5))) := by
  have h8 := hl.1
  have hb := but_6 hl hk
  have hd := but_div hl hk
  have r6 := (qv_rat_6 hl (k := l 0 0 - 1) (Nat.le_refl _)).2
  have := Nat.mul_le_mul hb hv
  rw [m143, s120w _ _ (by omega), q_c1_s, if_neg (by decide), s140p _ hl hL (by omega) g1, q_c1_s, if_neg (by decide), s141 _ _ (by omega), q_c1_s, s142 _ _ (by omega), q_c1_s, s120p _ _ g2.1 g2.2, q_c1_s, if_neg (by decide), if_pos (by decide), s127 _ h l hl hL, q_c1_s, q_ix_n (by omega) (by decide), show h.1 72 k = nI (l 5 k) from hL.2.2.2 5 k (by omega) (by omega) (by omega), if_neg (nI_ne0 hd.1 (by omega)), pk_div (by omega) hd.1 (by omega), hd.2.2, pk_mul, if_pos (by rw [show (6 : Int32) = nI 6 from rfl, nI_lt_iff (by omega) (by omega)]; omega)]
theorem s143p (d : Nat) {h : q_S} {l : qv_L} (hl : qv_ok l) (hL : qw_at h l) {w k v : Nat} (hw : w ≤ 5) {x : Int32} (hx : w ≤ 3 → x = nI k) (hk : w = 3 → k + 1 < l 0 0) (g1 : qg_pl l w x) (g2 : qg_v w (nI v)) (g : w = 3 → qv_but l k (l 0 0 - 1) * v ≤ 6) : q_sem (d + 4) 143 h [.ref 67, .int (nI w), .int x, .int (nI v)] = some (h, some (.int 0)) := by
  have h8 := hl.1
  rw [m143, s120w _ _ hw, q_c1_s, if_neg (by decide), s140p _ hl hL hw g1, q_c1_s, if_neg (by decide), s141 _ _ hw, q_c1_s, s142 _ _ hw, q_c1_s, s120p _ _ g2.1 g2.2, q_c1_s, if_neg (by decide)]
  by_cases z : w = 3
  · subst z
    have g := g rfl
    have hk := hk rfl
    have hd := but_div hl hk
    have r6 := (qv_rat_6 hl (k := l 0 0 - 1) (Nat.le_refl _)).2
    rw [if_pos (by decide), s127 _ h l hl hL, q_c1_s, hx (by omega), q_ix_n (by omega) (by decide), show h.1 72 k = nI (l 5 k) from hL.2.2.2 5 k (by omega) (by omega) (by omega), if_neg (nI_ne0 hd.1 (by omega)), pk_div (by omega) hd.1 (by omega), hd.2.2, pk_mul, if_neg (by rw [show (6 : Int32) = nI 6 from rfl, nI_lt_iff (by omega) (by omega)]; omega)]
  · rw [if_neg (by rw [show (3 : Int32) = nI 3 from rfl, nI_eq_iff (by omega) (by omega)]; exact z)]
