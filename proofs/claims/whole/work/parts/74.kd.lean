/-! ===== what kind of answer a method gives ===== -/
def kd (n : Nat) (r : q_S × Option Value) : Prop := (n = 1 ∨ n = 2 → ∃ x, r.2 = some (.int x)) ∧ (n = 3 → ∃ x, r.2 = some (.long x))
section KD
variable {E : q_E} {X : q_X} {O : q_O} {k : q_K} {pc : Nat} {L : q_L} {st : List Value} {h : q_S} {r : q_S × Option Value} {au : List Nat} {sw : List (Int32 × Nat)} {cc : ByteArray} {o Rf Rl : Nat}
theorem kd_call (hk : ∀ (pc : Nat) (L : q_L) (st : List Value) (h : q_S), k pc L st h = some r → kd E.2.1 r) {a : q_A} {rk pc2 : Nat} {t : List Value} (hr : q_cl rk a t (fun s h => k pc2 L s h) = some r) : kd E.2.1 r := by
  obtain ⟨r2, e1, hq⟩ := q_cl_inv hr
  exact hk _ _ _ _ hq
theorem kd_b_iadd  (ha : q_at2 none E.1 pc = some (.iadd, au, sw)) (hc : q_chk cc o Rf Rl pc (.iadd) au sw = true) (hk : ∀ (pc : Nat) (L : q_L) (st : List Value) (h : q_S), k pc L st h = some r → kd E.2.1 r) (hr : q_body E X O k pc L st h = some r)  : kd E.2.1 r := by
  simp only [q_body, ha] at hr
  obtain ⟨x, y, t, hst, hq⟩ := q_ii_inv hr
  subst hst
  exact hk _ _ _ _ hq
theorem kd_b_isub  (ha : q_at2 none E.1 pc = some (.isub, au, sw)) (hc : q_chk cc o Rf Rl pc (.isub) au sw = true) (hk : ∀ (pc : Nat) (L : q_L) (st : List Value) (h : q_S), k pc L st h = some r → kd E.2.1 r) (hr : q_body E X O k pc L st h = some r)  : kd E.2.1 r := by
  simp only [q_body, ha] at hr
  obtain ⟨x, y, t, hst, hq⟩ := q_ii_inv hr
  subst hst
  exact hk _ _ _ _ hq
theorem kd_b_imul  (ha : q_at2 none E.1 pc = some (.imul, au, sw)) (hc : q_chk cc o Rf Rl pc (.imul) au sw = true) (hk : ∀ (pc : Nat) (L : q_L) (st : List Value) (h : q_S), k pc L st h = some r → kd E.2.1 r) (hr : q_body E X O k pc L st h = some r)  : kd E.2.1 r := by
  simp only [q_body, ha] at hr
  obtain ⟨x, y, t, hst, hq⟩ := q_ii_inv hr
  subst hst
  exact hk _ _ _ _ hq
theorem kd_b_iand  (ha : q_at2 none E.1 pc = some (.iand, au, sw)) (hc : q_chk cc o Rf Rl pc (.iand) au sw = true) (hk : ∀ (pc : Nat) (L : q_L) (st : List Value) (h : q_S), k pc L st h = some r → kd E.2.1 r) (hr : q_body E X O k pc L st h = some r)  : kd E.2.1 r := by
  simp only [q_body, ha] at hr
  obtain ⟨x, y, t, hst, hq⟩ := q_ii_inv hr
  subst hst
  exact hk _ _ _ _ hq
theorem kd_b_ior  (ha : q_at2 none E.1 pc = some (.ior, au, sw)) (hc : q_chk cc o Rf Rl pc (.ior) au sw = true) (hk : ∀ (pc : Nat) (L : q_L) (st : List Value) (h : q_S), k pc L st h = some r → kd E.2.1 r) (hr : q_body E X O k pc L st h = some r)  : kd E.2.1 r := by
  simp only [q_body, ha] at hr
  obtain ⟨x, y, t, hst, hq⟩ := q_ii_inv hr
  subst hst
  exact hk _ _ _ _ hq
theorem kd_b_ixor  (ha : q_at2 none E.1 pc = some (.ixor, au, sw)) (hc : q_chk cc o Rf Rl pc (.ixor) au sw = true) (hk : ∀ (pc : Nat) (L : q_L) (st : List Value) (h : q_S), k pc L st h = some r → kd E.2.1 r) (hr : q_body E X O k pc L st h = some r)  : kd E.2.1 r := by
  simp only [q_body, ha] at hr
  obtain ⟨x, y, t, hst, hq⟩ := q_ii_inv hr
  subst hst
  exact hk _ _ _ _ hq
theorem kd_b_ishl  (ha : q_at2 none E.1 pc = some (.ishl, au, sw)) (hc : q_chk cc o Rf Rl pc (.ishl) au sw = true) (hk : ∀ (pc : Nat) (L : q_L) (st : List Value) (h : q_S), k pc L st h = some r → kd E.2.1 r) (hr : q_body E X O k pc L st h = some r)  : kd E.2.1 r := by
  simp only [q_body, ha] at hr
  obtain ⟨x, y, t, hst, hq⟩ := q_ii_inv hr
  subst hst
  exact hk _ _ _ _ hq
theorem kd_b_ishr  (ha : q_at2 none E.1 pc = some (.ishr, au, sw)) (hc : q_chk cc o Rf Rl pc (.ishr) au sw = true) (hk : ∀ (pc : Nat) (L : q_L) (st : List Value) (h : q_S), k pc L st h = some r → kd E.2.1 r) (hr : q_body E X O k pc L st h = some r)  : kd E.2.1 r := by
  simp only [q_body, ha] at hr
  obtain ⟨x, y, t, hst, hq⟩ := q_ii_inv hr
  subst hst
  exact hk _ _ _ _ hq
theorem kd_b_ladd  (ha : q_at2 none E.1 pc = some (.ladd, au, sw)) (hc : q_chk cc o Rf Rl pc (.ladd) au sw = true) (hk : ∀ (pc : Nat) (L : q_L) (st : List Value) (h : q_S), k pc L st h = some r → kd E.2.1 r) (hr : q_body E X O k pc L st h = some r)  : kd E.2.1 r := by
  simp only [q_body, ha] at hr
  obtain ⟨x, y, t, hst, hq⟩ := q_ll_inv hr
  subst hst
  exact hk _ _ _ _ hq
theorem kd_b_lsub  (ha : q_at2 none E.1 pc = some (.lsub, au, sw)) (hc : q_chk cc o Rf Rl pc (.lsub) au sw = true) (hk : ∀ (pc : Nat) (L : q_L) (st : List Value) (h : q_S), k pc L st h = some r → kd E.2.1 r) (hr : q_body E X O k pc L st h = some r)  : kd E.2.1 r := by
  simp only [q_body, ha] at hr
  obtain ⟨x, y, t, hst, hq⟩ := q_ll_inv hr
  subst hst
  exact hk _ _ _ _ hq
theorem kd_b_lmul  (ha : q_at2 none E.1 pc = some (.lmul, au, sw)) (hc : q_chk cc o Rf Rl pc (.lmul) au sw = true) (hk : ∀ (pc : Nat) (L : q_L) (st : List Value) (h : q_S), k pc L st h = some r → kd E.2.1 r) (hr : q_body E X O k pc L st h = some r)  : kd E.2.1 r := by
  simp only [q_body, ha] at hr
  obtain ⟨x, y, t, hst, hq⟩ := q_ll_inv hr
  subst hst
  exact hk _ _ _ _ hq
theorem kd_b_land  (ha : q_at2 none E.1 pc = some (.land, au, sw)) (hc : q_chk cc o Rf Rl pc (.land) au sw = true) (hk : ∀ (pc : Nat) (L : q_L) (st : List Value) (h : q_S), k pc L st h = some r → kd E.2.1 r) (hr : q_body E X O k pc L st h = some r)  : kd E.2.1 r := by
  simp only [q_body, ha] at hr
  obtain ⟨x, y, t, hst, hq⟩ := q_ll_inv hr
  subst hst
  exact hk _ _ _ _ hq
theorem kd_b_lor  (ha : q_at2 none E.1 pc = some (.lor, au, sw)) (hc : q_chk cc o Rf Rl pc (.lor) au sw = true) (hk : ∀ (pc : Nat) (L : q_L) (st : List Value) (h : q_S), k pc L st h = some r → kd E.2.1 r) (hr : q_body E X O k pc L st h = some r)  : kd E.2.1 r := by
  simp only [q_body, ha] at hr
  obtain ⟨x, y, t, hst, hq⟩ := q_ll_inv hr
  subst hst
  exact hk _ _ _ _ hq
theorem kd_b_lxor  (ha : q_at2 none E.1 pc = some (.lxor, au, sw)) (hc : q_chk cc o Rf Rl pc (.lxor) au sw = true) (hk : ∀ (pc : Nat) (L : q_L) (st : List Value) (h : q_S), k pc L st h = some r → kd E.2.1 r) (hr : q_body E X O k pc L st h = some r)  : kd E.2.1 r := by
  simp only [q_body, ha] at hr
  obtain ⟨x, y, t, hst, hq⟩ := q_ll_inv hr
  subst hst
  exact hk _ _ _ _ hq
theorem kd_b_lcmp  (ha : q_at2 none E.1 pc = some (.lcmp, au, sw)) (hc : q_chk cc o Rf Rl pc (.lcmp) au sw = true) (hk : ∀ (pc : Nat) (L : q_L) (st : List Value) (h : q_S), k pc L st h = some r → kd E.2.1 r) (hr : q_body E X O k pc L st h = some r)  : kd E.2.1 r := by
  simp only [q_body, ha] at hr
  obtain ⟨x, y, t, hst, hq⟩ := q_ll_inv hr
  subst hst
  exact hk _ _ _ _ hq
theorem kd_b_lshl  (ha : q_at2 none E.1 pc = some (.lshl, au, sw)) (hc : q_chk cc o Rf Rl pc (.lshl) au sw = true) (hk : ∀ (pc : Nat) (L : q_L) (st : List Value) (h : q_S), k pc L st h = some r → kd E.2.1 r) (hr : q_body E X O k pc L st h = some r)  : kd E.2.1 r := by
  simp only [q_body, ha] at hr
  obtain ⟨x, y, t, hst, hq⟩ := q_li_inv hr
  subst hst
  exact hk _ _ _ _ hq
theorem kd_b_lshr  (ha : q_at2 none E.1 pc = some (.lshr, au, sw)) (hc : q_chk cc o Rf Rl pc (.lshr) au sw = true) (hk : ∀ (pc : Nat) (L : q_L) (st : List Value) (h : q_S), k pc L st h = some r → kd E.2.1 r) (hr : q_body E X O k pc L st h = some r)  : kd E.2.1 r := by
  simp only [q_body, ha] at hr
  obtain ⟨x, y, t, hst, hq⟩ := q_li_inv hr
  subst hst
  exact hk _ _ _ _ hq
theorem kd_b_idiv  (ha : q_at2 none E.1 pc = some (.idiv, au, sw)) (hc : q_chk cc o Rf Rl pc (.idiv) au sw = true) (hk : ∀ (pc : Nat) (L : q_L) (st : List Value) (h : q_S), k pc L st h = some r → kd E.2.1 r) (hr : q_body E X O k pc L st h = some r)  : kd E.2.1 r := by
  simp only [q_body, ha] at hr
  obtain ⟨x, y, t, hst, hq⟩ := q_ii_inv hr
  subst hst
  split at hq
  · cases hq
  · exact hk _ _ _ _ hq
theorem kd_b_irem  (ha : q_at2 none E.1 pc = some (.irem, au, sw)) (hc : q_chk cc o Rf Rl pc (.irem) au sw = true) (hk : ∀ (pc : Nat) (L : q_L) (st : List Value) (h : q_S), k pc L st h = some r → kd E.2.1 r) (hr : q_body E X O k pc L st h = some r)  : kd E.2.1 r := by
  simp only [q_body, ha] at hr
  obtain ⟨x, y, t, hst, hq⟩ := q_ii_inv hr
  subst hst
  split at hq
  · cases hq
  · exact hk _ _ _ _ hq
theorem kd_b_ldiv  (ha : q_at2 none E.1 pc = some (.ldiv, au, sw)) (hc : q_chk cc o Rf Rl pc (.ldiv) au sw = true) (hk : ∀ (pc : Nat) (L : q_L) (st : List Value) (h : q_S), k pc L st h = some r → kd E.2.1 r) (hr : q_body E X O k pc L st h = some r)  : kd E.2.1 r := by
  simp only [q_body, ha] at hr
  obtain ⟨x, y, t, hst, hq⟩ := q_ll_inv hr
  subst hst
  split at hq
  · cases hq
  · exact hk _ _ _ _ hq
theorem kd_b_lrem  (ha : q_at2 none E.1 pc = some (.lrem, au, sw)) (hc : q_chk cc o Rf Rl pc (.lrem) au sw = true) (hk : ∀ (pc : Nat) (L : q_L) (st : List Value) (h : q_S), k pc L st h = some r → kd E.2.1 r) (hr : q_body E X O k pc L st h = some r)  : kd E.2.1 r := by
  simp only [q_body, ha] at hr
  obtain ⟨x, y, t, hst, hq⟩ := q_ll_inv hr
  subst hst
  split at hq
  · cases hq
  · exact hk _ _ _ _ hq
theorem kd_b_ineg  (ha : q_at2 none E.1 pc = some (.ineg, au, sw)) (hc : q_chk cc o Rf Rl pc (.ineg) au sw = true) (hk : ∀ (pc : Nat) (L : q_L) (st : List Value) (h : q_S), k pc L st h = some r → kd E.2.1 r) (hr : q_body E X O k pc L st h = some r)  : kd E.2.1 r := by
  simp only [q_body, ha] at hr
  obtain ⟨x, t, hst, hq⟩ := q_i_inv hr
  subst hst
  exact hk _ _ _ _ hq
theorem kd_b_i2l  (ha : q_at2 none E.1 pc = some (.i2l, au, sw)) (hc : q_chk cc o Rf Rl pc (.i2l) au sw = true) (hk : ∀ (pc : Nat) (L : q_L) (st : List Value) (h : q_S), k pc L st h = some r → kd E.2.1 r) (hr : q_body E X O k pc L st h = some r)  : kd E.2.1 r := by
  simp only [q_body, ha] at hr
  obtain ⟨x, t, hst, hq⟩ := q_i_inv hr
  subst hst
  exact hk _ _ _ _ hq
theorem kd_b_i2b  (ha : q_at2 none E.1 pc = some (.i2b, au, sw)) (hc : q_chk cc o Rf Rl pc (.i2b) au sw = true) (hk : ∀ (pc : Nat) (L : q_L) (st : List Value) (h : q_S), k pc L st h = some r → kd E.2.1 r) (hr : q_body E X O k pc L st h = some r)  : kd E.2.1 r := by
  simp only [q_body, ha] at hr
  obtain ⟨x, t, hst, hq⟩ := q_i_inv hr
  subst hst
  exact hk _ _ _ _ hq
theorem kd_b_l2i  (ha : q_at2 none E.1 pc = some (.l2i, au, sw)) (hc : q_chk cc o Rf Rl pc (.l2i) au sw = true) (hk : ∀ (pc : Nat) (L : q_L) (st : List Value) (h : q_S), k pc L st h = some r → kd E.2.1 r) (hr : q_body E X O k pc L st h = some r)  : kd E.2.1 r := by
  simp only [q_body, ha] at hr
  obtain ⟨x, t, hst, hq⟩ := q_l_inv hr
  subst hst
  exact hk _ _ _ _ hq
theorem kd_b_dup  (ha : q_at2 none E.1 pc = some (.dup, au, sw)) (hc : q_chk cc o Rf Rl pc (.dup) au sw = true) (hk : ∀ (pc : Nat) (L : q_L) (st : List Value) (h : q_S), k pc L st h = some r → kd E.2.1 r) (hr : q_body E X O k pc L st h = some r)  : kd E.2.1 r := by
  simp only [q_body, ha] at hr
  obtain ⟨v, t, hst, h1, hq⟩ := q_v_inv hr
  subst hst
  exact hk _ _ _ _ hq
theorem kd_b_pop  (ha : q_at2 none E.1 pc = some (.pop, au, sw)) (hc : q_chk cc o Rf Rl pc (.pop) au sw = true) (hk : ∀ (pc : Nat) (L : q_L) (st : List Value) (h : q_S), k pc L st h = some r → kd E.2.1 r) (hr : q_body E X O k pc L st h = some r)  : kd E.2.1 r := by
  simp only [q_body, ha] at hr
  obtain ⟨v, t, hst, h1, hq⟩ := q_v_inv hr
  subst hst
  exact hk _ _ _ _ hq
theorem kd_b_dup_x1  (ha : q_at2 none E.1 pc = some (.dup_x1, au, sw)) (hc : q_chk cc o Rf Rl pc (.dup_x1) au sw = true) (hk : ∀ (pc : Nat) (L : q_L) (st : List Value) (h : q_S), k pc L st h = some r → kd E.2.1 r) (hr : q_body E X O k pc L st h = some r)  : kd E.2.1 r := by
  simp only [q_body, ha] at hr
  obtain ⟨v, w, t, hst, h1, h2, hq⟩ := q_vv_inv hr
  subst hst
  exact hk _ _ _ _ hq
theorem kd_b_dup2  (ha : q_at2 none E.1 pc = some (.dup2, au, sw)) (hc : q_chk cc o Rf Rl pc (.dup2) au sw = true) (hk : ∀ (pc : Nat) (L : q_L) (st : List Value) (h : q_S), k pc L st h = some r → kd E.2.1 r) (hr : q_body E X O k pc L st h = some r)  : kd E.2.1 r := by
  simp only [q_body, ha] at hr
  obtain ⟨v, w, t, hst, h1, h2, hq⟩ := q_vv_inv hr
  subst hst
  exact hk _ _ _ _ hq
theorem kd_b_iload_n {n : Fin 4} (ha : q_at2 none E.1 pc = some (.iload_n n, au, sw)) (hc : q_chk cc o Rf Rl pc (.iload_n n) au sw = true) (hk : ∀ (pc : Nat) (L : q_L) (st : List Value) (h : q_S), k pc L st h = some r → kd E.2.1 r) (hr : q_body E X O k pc L st h = some r)  : kd E.2.1 r := by
  simp only [q_body, ha] at hr
  obtain ⟨x, h1, hq⟩ := q_gi_inv hr
  exact hk _ _ _ _ hq
theorem kd_b_istore_n {n : Fin 4} (ha : q_at2 none E.1 pc = some (.istore_n n, au, sw)) (hc : q_chk cc o Rf Rl pc (.istore_n n) au sw = true) (hk : ∀ (pc : Nat) (L : q_L) (st : List Value) (h : q_S), k pc L st h = some r → kd E.2.1 r) (hr : q_body E X O k pc L st h = some r)  : kd E.2.1 r := by
  simp only [q_body, ha] at hr
  obtain ⟨x, t, hst, hq⟩ := q_i_inv hr
  subst hst
  obtain ⟨h1, hq⟩ := q_b_inv hq
  exact hk _ _ _ _ hq
theorem kd_b_iload {n : Nat} (ha : q_at2 none E.1 pc = some (.iload n, au, sw)) (hc : q_chk cc o Rf Rl pc (.iload n) au sw = true) (hk : ∀ (pc : Nat) (L : q_L) (st : List Value) (h : q_S), k pc L st h = some r → kd E.2.1 r) (hr : q_body E X O k pc L st h = some r)  : kd E.2.1 r := by
  simp only [q_body, ha] at hr
  obtain ⟨x, h1, hq⟩ := q_gi_inv hr
  exact hk _ _ _ _ hq
theorem kd_b_istore {n : Nat} (ha : q_at2 none E.1 pc = some (.istore n, au, sw)) (hc : q_chk cc o Rf Rl pc (.istore n) au sw = true) (hk : ∀ (pc : Nat) (L : q_L) (st : List Value) (h : q_S), k pc L st h = some r → kd E.2.1 r) (hr : q_body E X O k pc L st h = some r)  : kd E.2.1 r := by
  simp only [q_body, ha] at hr
  obtain ⟨x, t, hst, hq⟩ := q_i_inv hr
  subst hst
  obtain ⟨h1, hq⟩ := q_b_inv hq
  exact hk _ _ _ _ hq
theorem kd_b_lload_n {n : Fin 4} (ha : q_at2 none E.1 pc = some (.lload_n n, au, sw)) (hc : q_chk cc o Rf Rl pc (.lload_n n) au sw = true) (hk : ∀ (pc : Nat) (L : q_L) (st : List Value) (h : q_S), k pc L st h = some r → kd E.2.1 r) (hr : q_body E X O k pc L st h = some r)  : kd E.2.1 r := by
  simp only [q_body, ha] at hr
  obtain ⟨x, h1, hq⟩ := q_gl_inv hr
  exact hk _ _ _ _ hq
theorem kd_b_lstore_n {n : Fin 4} (ha : q_at2 none E.1 pc = some (.lstore_n n, au, sw)) (hc : q_chk cc o Rf Rl pc (.lstore_n n) au sw = true) (hk : ∀ (pc : Nat) (L : q_L) (st : List Value) (h : q_S), k pc L st h = some r → kd E.2.1 r) (hr : q_body E X O k pc L st h = some r)  : kd E.2.1 r := by
  simp only [q_body, ha] at hr
  obtain ⟨x, t, hst, hq⟩ := q_l_inv hr
  subst hst
  obtain ⟨h1, hq⟩ := q_b_inv hq
  exact hk _ _ _ _ hq
theorem kd_b_lload {n : Nat} (ha : q_at2 none E.1 pc = some (.lload n, au, sw)) (hc : q_chk cc o Rf Rl pc (.lload n) au sw = true) (hk : ∀ (pc : Nat) (L : q_L) (st : List Value) (h : q_S), k pc L st h = some r → kd E.2.1 r) (hr : q_body E X O k pc L st h = some r)  : kd E.2.1 r := by
  simp only [q_body, ha] at hr
  obtain ⟨x, h1, hq⟩ := q_gl_inv hr
  exact hk _ _ _ _ hq
theorem kd_b_lstore {n : Nat} (ha : q_at2 none E.1 pc = some (.lstore n, au, sw)) (hc : q_chk cc o Rf Rl pc (.lstore n) au sw = true) (hk : ∀ (pc : Nat) (L : q_L) (st : List Value) (h : q_S), k pc L st h = some r → kd E.2.1 r) (hr : q_body E X O k pc L st h = some r)  : kd E.2.1 r := by
  simp only [q_body, ha] at hr
  obtain ⟨x, t, hst, hq⟩ := q_l_inv hr
  subst hst
  obtain ⟨h1, hq⟩ := q_b_inv hq
  exact hk _ _ _ _ hq
theorem kd_b_aload_n {n : Fin 4} (ha : q_at2 none E.1 pc = some (.aload_n n, au, sw)) (hc : q_chk cc o Rf Rl pc (.aload_n n) au sw = true) (hk : ∀ (pc : Nat) (L : q_L) (st : List Value) (h : q_S), k pc L st h = some r → kd E.2.1 r) (hr : q_body E X O k pc L st h = some r)  : kd E.2.1 r := by
  simp only [q_body, ha] at hr
  obtain ⟨x, h1, hq⟩ := q_gr_inv hr
  exact hk _ _ _ _ hq
theorem kd_b_astore_n {n : Fin 4} (ha : q_at2 none E.1 pc = some (.astore_n n, au, sw)) (hc : q_chk cc o Rf Rl pc (.astore_n n) au sw = true) (hk : ∀ (pc : Nat) (L : q_L) (st : List Value) (h : q_S), k pc L st h = some r → kd E.2.1 r) (hr : q_body E X O k pc L st h = some r)  : kd E.2.1 r := by
  simp only [q_body, ha] at hr
  obtain ⟨x, t, hst, hq⟩ := q_r_inv hr
  subst hst
  obtain ⟨h1, hq⟩ := q_b_inv hq
  exact hk _ _ _ _ hq
theorem kd_b_aload {n : Nat} (ha : q_at2 none E.1 pc = some (.aload n, au, sw)) (hc : q_chk cc o Rf Rl pc (.aload n) au sw = true) (hk : ∀ (pc : Nat) (L : q_L) (st : List Value) (h : q_S), k pc L st h = some r → kd E.2.1 r) (hr : q_body E X O k pc L st h = some r)  : kd E.2.1 r := by
  simp only [q_body, ha] at hr
  obtain ⟨x, h1, hq⟩ := q_gr_inv hr
  exact hk _ _ _ _ hq
theorem kd_b_astore {n : Nat} (ha : q_at2 none E.1 pc = some (.astore n, au, sw)) (hc : q_chk cc o Rf Rl pc (.astore n) au sw = true) (hk : ∀ (pc : Nat) (L : q_L) (st : List Value) (h : q_S), k pc L st h = some r → kd E.2.1 r) (hr : q_body E X O k pc L st h = some r)  : kd E.2.1 r := by
  simp only [q_body, ha] at hr
  obtain ⟨x, t, hst, hq⟩ := q_r_inv hr
  subst hst
  obtain ⟨h1, hq⟩ := q_b_inv hq
  exact hk _ _ _ _ hq
theorem kd_b_iconst {zz : Int} (ha : q_at2 none E.1 pc = some (.iconst zz, au, sw)) (hc : q_chk cc o Rf Rl pc (.iconst zz) au sw = true) (hk : ∀ (pc : Nat) (L : q_L) (st : List Value) (h : q_S), k pc L st h = some r → kd E.2.1 r) (hr : q_body E X O k pc L st h = some r)  : kd E.2.1 r := by
  simp only [q_body, ha] at hr
  split at hr
  · exact hk _ _ _ _ hr
  · cases hr
theorem kd_b_bipush {zz : Int} (ha : q_at2 none E.1 pc = some (.bipush zz, au, sw)) (hc : q_chk cc o Rf Rl pc (.bipush zz) au sw = true) (hk : ∀ (pc : Nat) (L : q_L) (st : List Value) (h : q_S), k pc L st h = some r → kd E.2.1 r) (hr : q_body E X O k pc L st h = some r)  : kd E.2.1 r := by
  simp only [q_body, ha] at hr
  split at hr
  · exact hk _ _ _ _ hr
  · cases hr
theorem kd_b_sipush {zz : Int} (ha : q_at2 none E.1 pc = some (.sipush zz, au, sw)) (hc : q_chk cc o Rf Rl pc (.sipush zz) au sw = true) (hk : ∀ (pc : Nat) (L : q_L) (st : List Value) (h : q_S), k pc L st h = some r → kd E.2.1 r) (hr : q_body E X O k pc L st h = some r)  : kd E.2.1 r := by
  simp only [q_body, ha] at hr
  split at hr
  · exact hk _ _ _ _ hr
  · cases hr
theorem kd_b_iinc {n : Nat} {zz : Int} (ha : q_at2 none E.1 pc = some (.iinc n zz, au, sw)) (hc : q_chk cc o Rf Rl pc (.iinc n zz) au sw = true) (hk : ∀ (pc : Nat) (L : q_L) (st : List Value) (h : q_S), k pc L st h = some r → kd E.2.1 r) (hr : q_body E X O k pc L st h = some r)  : kd E.2.1 r := by
  simp only [q_body, ha] at hr
  split at hr
  · obtain ⟨x, h1, hq⟩ := q_gi_inv hr
    obtain ⟨h2, hq⟩ := q_b_inv hq
    exact hk _ _ _ _ hq
  · cases hr
theorem kd_b_lconst {n : Fin 2} (ha : q_at2 none E.1 pc = some (.lconst n, au, sw)) (hc : q_chk cc o Rf Rl pc (.lconst n) au sw = true) (hk : ∀ (pc : Nat) (L : q_L) (st : List Value) (h : q_S), k pc L st h = some r → kd E.2.1 r) (hr : q_body E X O k pc L st h = some r)  : kd E.2.1 r := by
  simp only [q_body, ha] at hr
  exact hk _ _ _ _ hr
theorem kd_b_ldc2_w {i : Nat} (ha : q_at2 none E.1 pc = some (.ldc2_w i, au, sw)) (hc : q_chk cc o Rf Rl pc (.ldc2_w i) au sw = true) (hk : ∀ (pc : Nat) (L : q_L) (st : List Value) (h : q_S), k pc L st h = some r → kd E.2.1 r) (hr : q_body E X O k pc L st h = some r)  : kd E.2.1 r := by
  simp only [q_body, ha] at hr
  split at hr
  · exact hk _ _ _ _ hr
  · cases hr
theorem kd_b_goto {off : Int} (ha : q_at2 none E.1 pc = some (.goto off, au, sw)) (hc : q_chk cc o Rf Rl pc (.goto off) au sw = true) (hk : ∀ (pc : Nat) (L : q_L) (st : List Value) (h : q_S), k pc L st h = some r → kd E.2.1 r) (hr : q_body E X O k pc L st h = some r)  : kd E.2.1 r := by
  simp only [q_body, ha] at hr
  split at hr
  · exact hk _ _ _ _ hr
  · cases hr
theorem kd_b_ifCond {cd : Jvm.ClassFile.Cond} {off : Int} (ha : q_at2 none E.1 pc = some (.ifCond cd off, au, sw)) (hc : q_chk cc o Rf Rl pc (.ifCond cd off) au sw = true) (hk : ∀ (pc : Nat) (L : q_L) (st : List Value) (h : q_S), k pc L st h = some r → kd E.2.1 r) (hr : q_body E X O k pc L st h = some r)  : kd E.2.1 r := by
  simp only [q_body, ha] at hr
  split at hr
  · obtain ⟨x, t, hst, hq⟩ := q_i_inv hr
    subst hst
    cases cd <;> (simp only at hq; split at hq <;> exact hk _ _ _ _ hq)
  · cases hr
theorem kd_b_if_icmp {cd : Jvm.ClassFile.Cond} {off : Int} (ha : q_at2 none E.1 pc = some (.if_icmp cd off, au, sw)) (hc : q_chk cc o Rf Rl pc (.if_icmp cd off) au sw = true) (hk : ∀ (pc : Nat) (L : q_L) (st : List Value) (h : q_S), k pc L st h = some r → kd E.2.1 r) (hr : q_body E X O k pc L st h = some r)  : kd E.2.1 r := by
  simp only [q_body, ha] at hr
  split at hr
  · obtain ⟨x, y, t, hst, hq⟩ := q_ii_inv hr
    subst hst
    cases cd <;> (simp only at hq; split at hq <;> exact hk _ _ _ _ hq)
  · cases hr
theorem kd_b_ifnull {off : Int} (ha : q_at2 none E.1 pc = some (.ifnull off, au, sw)) (hc : q_chk cc o Rf Rl pc (.ifnull off) au sw = true) (hk : ∀ (pc : Nat) (L : q_L) (st : List Value) (h : q_S), k pc L st h = some r → kd E.2.1 r) (hr : q_body E X O k pc L st h = some r)  : kd E.2.1 r := by
  simp only [q_body, ha] at hr
  split at hr
  · exact hk _ _ _ _ hr
  · exact hk _ _ _ _ hr
  · cases hr
theorem kd_b_tableswitch {d lo hi : Int} {offs : Array Int} (ha : q_at2 none E.1 pc = some (.tableswitch d lo hi offs, au, sw)) (hc : q_chk cc o Rf Rl pc (.tableswitch d lo hi offs) au sw = true) (hk : ∀ (pc : Nat) (L : q_L) (st : List Value) (h : q_S), k pc L st h = some r → kd E.2.1 r) (hr : q_body E X O k pc L st h = some r)  : kd E.2.1 r := by
  simp only [q_body, ha] at hr
  split at hr
  · obtain ⟨x, t, hst, hq⟩ := q_i_inv hr
    subst hst
    rcases q_sw_inv hq with ⟨j, q, h1, h2, h3⟩ | ⟨h1, h2⟩
    · exact hk _ _ _ _ h3
    · exact hk _ _ _ _ h2
  · cases hr
theorem kd_b_lookupswitch {d : Int} {ps : Array (Int × Int)} (ha : q_at2 none E.1 pc = some (.lookupswitch d ps, au, sw)) (hc : q_chk cc o Rf Rl pc (.lookupswitch d ps) au sw = true) (hk : ∀ (pc : Nat) (L : q_L) (st : List Value) (h : q_S), k pc L st h = some r → kd E.2.1 r) (hr : q_body E X O k pc L st h = some r)  : kd E.2.1 r := by
  simp only [q_body, ha] at hr
  split at hr
  · obtain ⟨x, t, hst, hq⟩ := q_i_inv hr
    subst hst
    rcases q_sw_inv hq with ⟨j, q, h1, h2, h3⟩ | ⟨h1, h2⟩
    · exact hk _ _ _ _ h3
    · exact hk _ _ _ _ h2
  · cases hr
theorem kd_b_getstatic {i : Nat} (ha : q_at2 none E.1 pc = some (.getstatic i, au, sw)) (hc : q_chk cc o Rf Rl pc (.getstatic i) au sw = true) (hk : ∀ (pc : Nat) (L : q_L) (st : List Value) (h : q_S), k pc L st h = some r → kd E.2.1 r) (hr : q_body E X O k pc L st h = some r)  : kd E.2.1 r := by
  simp only [q_body, ha] at hr
  split at hr
  · exact hk _ _ _ _ hr
  · cases hr
theorem kd_b_getfield {i : Nat} (ha : q_at2 none E.1 pc = some (.getfield i, au, sw)) (hc : q_chk cc o Rf Rl pc (.getfield i) au sw = true) (hk : ∀ (pc : Nat) (L : q_L) (st : List Value) (h : q_S), k pc L st h = some r → kd E.2.1 r) (hr : q_body E X O k pc L st h = some r)  : kd E.2.1 r := by
  simp only [q_body, ha] at hr
  simp only [q_chk, Bool.and_eq_true] at hc
  split at hr
  · rename_i au0 Dn n tt
    obtain ⟨a, t, hst, hq⟩ := q_r_inv hr
    subst hst
    obtain ⟨hs, hq⟩ := q_b_inv hq
    obtain ⟨C, T, hcn, hn, -, hft⟩ := alLF o _ (of_decide_eq_true hc.2) _ hs
    obtain ⟨c1, c2, c3⟩ := q_sub_obj hs
    have hft : q_ft (q_cls a) n = tt := hft
    rcases tt with _ | _ | tt
    · exact hk _ _ _ _ hq
    · exact hk _ _ _ _ hq
    · have t2 : tt = 0 := by
        have t1 : ∀ c, c < 13 → ∀ i, i < 47 → i < q_nf c → q_ft c i ≤ 2 := by decide +kernel
        have hn47 : ∀ c, c < 13 → q_nf c ≤ 47 := by decide +kernel
        have hn : n < q_nf (q_cls a) := hn
        have := t1 _ c3 n (Nat.lt_of_lt_of_le hn (hn47 _ c3)) hn
        omega
      subst t2
      exact hk _ _ _ _ hq
  · cases hr
theorem kd_b_putfield {i : Nat} (ha : q_at2 none E.1 pc = some (.putfield i, au, sw)) (hc : q_chk cc o Rf Rl pc (.putfield i) au sw = true) (hk : ∀ (pc : Nat) (L : q_L) (st : List Value) (h : q_S), k pc L st h = some r → kd E.2.1 r) (hr : q_body E X O k pc L st h = some r)  : kd E.2.1 r := by
  simp only [q_body, ha] at hr
  simp only [q_chk, Bool.and_eq_true] at hc
  split at hr
  · rename_i au0 Dn n tt
    have hf := alLP o _ (of_decide_eq_true hc.2)
    by_cases t0 : tt = 0
    · subst t0
      obtain ⟨a, x, t, hst, hq⟩ := q_ri_inv hr
      subst hst
      obtain ⟨hs, hq⟩ := q_b_inv hq
      exact hk _ _ _ _ hq
    by_cases t4 : tt = 4
    · subst t4
      obtain ⟨a, x, t, hst, hq⟩ := q_ri_inv hr
      subst hst
      obtain ⟨hs, hq⟩ := q_b_inv hq
      split at hq
      · skip
        exact hk _ _ _ _ hq
      · cases hq
    have e : q_pty tt = .object "WhirlShafts$Disc" := by
      unfold q_pty
      split
      · exact absurd rfl t0
      · exact absurd rfl t4
      · rfl
    split at hr
    · exact absurd rfl t0
    · exact absurd rfl t4
    · obtain ⟨a, b, t, hst, hq⟩ := q_rr_inv hr
      subst hst
      obtain ⟨hs, hq⟩ := q_b_inv hq
      simp only [e] at hf
      obtain ⟨C, T, hcn, hn, -, -, -, hft⟩ := hf _ hs
      obtain ⟨c1, c2, c3⟩ := q_sub_obj hs
      exact hk _ _ _ _ hq
  · cases hr
theorem kd_b_iaload  (ha : q_at2 none E.1 pc = some (.iaload, au, sw)) (hc : q_chk cc o Rf Rl pc (.iaload) au sw = true) (hk : ∀ (pc : Nat) (L : q_L) (st : List Value) (h : q_S), k pc L st h = some r → kd E.2.1 r) (hr : q_body E X O k pc L st h = some r)  : kd E.2.1 r := by
  simp only [q_body, ha] at hr
  obtain ⟨a, i, t, hst, hq⟩ := q_ri_inv hr
  subst hst
  unfold q_ald at hq
  split at hq
  · obtain ⟨h2, hq⟩ := q_ix_inv hq
    exact hk _ _ _ _ hq
  · split at hq
    · obtain ⟨h2, hq⟩ := q_ix_inv hq
      exact hk _ _ _ _ hq
    · cases hq
  · cases hq
theorem kd_b_laload  (ha : q_at2 none E.1 pc = some (.laload, au, sw)) (hc : q_chk cc o Rf Rl pc (.laload) au sw = true) (hk : ∀ (pc : Nat) (L : q_L) (st : List Value) (h : q_S), k pc L st h = some r → kd E.2.1 r) (hr : q_body E X O k pc L st h = some r)  : kd E.2.1 r := by
  simp only [q_body, ha] at hr
  obtain ⟨a, i, t, hst, hq⟩ := q_ri_inv hr
  subst hst
  obtain ⟨h1, hq⟩ := q_b_inv hq
  obtain ⟨h2, hq⟩ := q_ix_inv hq
  exact hk _ _ _ _ hq
theorem kd_b_aaload  (ha : q_at2 none E.1 pc = some (.aaload, au, sw)) (hc : q_chk cc o Rf Rl pc (.aaload) au sw = true) (hk : ∀ (pc : Nat) (L : q_L) (st : List Value) (h : q_S), k pc L st h = some r → kd E.2.1 r) (hr : q_body E X O k pc L st h = some r)  : kd E.2.1 r := by
  simp only [q_body, ha] at hr
  obtain ⟨a, i, t, hst, hq⟩ := q_ri_inv hr
  subst hst
  obtain ⟨h1, hq⟩ := q_b_inv hq
  obtain ⟨h2, hq⟩ := q_ix_inv hq
  exact hk _ _ _ _ hq
theorem kd_b_iastore  (ha : q_at2 none E.1 pc = some (.iastore, au, sw)) (hc : q_chk cc o Rf Rl pc (.iastore) au sw = true) (hk : ∀ (pc : Nat) (L : q_L) (st : List Value) (h : q_S), k pc L st h = some r → kd E.2.1 r) (hr : q_body E X O k pc L st h = some r)  : kd E.2.1 r := by
  simp only [q_body, ha] at hr
  obtain ⟨a, i, x, t, hst, hq⟩ := q_rii_inv hr
  subst hst
  obtain ⟨h1, hq⟩ := q_b_inv hq
  obtain ⟨h2, hq⟩ := q_ix_inv hq
  exact hk _ _ _ _ hq
theorem kd_b_lastore  (ha : q_at2 none E.1 pc = some (.lastore, au, sw)) (hc : q_chk cc o Rf Rl pc (.lastore) au sw = true) (hk : ∀ (pc : Nat) (L : q_L) (st : List Value) (h : q_S), k pc L st h = some r → kd E.2.1 r) (hr : q_body E X O k pc L st h = some r)  : kd E.2.1 r := by
  simp only [q_body, ha] at hr
  obtain ⟨a, i, x, t, hst, hq⟩ := q_ril_inv hr
  subst hst
  obtain ⟨h1, hq⟩ := q_b_inv hq
  obtain ⟨h2, hq⟩ := q_ix_inv hq
  exact hk _ _ _ _ hq
theorem kd_b_arraylength  (ha : q_at2 none E.1 pc = some (.arraylength, au, sw)) (hc : q_chk cc o Rf Rl pc (.arraylength) au sw = true) (hk : ∀ (pc : Nat) (L : q_L) (st : List Value) (h : q_S), k pc L st h = some r → kd E.2.1 r) (hr : q_body E X O k pc L st h = some r)  : kd E.2.1 r := by
  simp only [q_body, ha] at hr
  obtain ⟨a, t, hst, hq⟩ := q_r_inv hr
  subst hst
  unfold q_len at hq
  split at hq
  · exact hk _ _ _ _ hq
  · exact hk _ _ _ _ hq
  · exact hk _ _ _ _ hq
  · split at hq
    · exact hk _ _ _ _ hq
    · cases hq
  · cases hq
theorem kd_b_invokestatic {i : Nat} (ha : q_at2 none E.1 pc = some (.invokestatic i, au, sw)) (hc : q_chk cc o Rf Rl pc (.invokestatic i) au sw = true) (hk : ∀ (pc : Nat) (L : q_L) (st : List Value) (h : q_S), k pc L st h = some r → kd E.2.1 r) (hr : q_body E X O k pc L st h = some r) : kd E.2.1 r := by
  simp only [q_body, ha] at hr
  split at hr
  · obtain ⟨xs, t, hst, hn, hq⟩ := q_pop_inv hr
    subst hst
    obtain ⟨h3, hq⟩ := q_b_inv hq
    exact kd_call hk hq
  · obtain ⟨a, sp, b, dp, n, t, hst, hq⟩ := q_ac_inv hr
    subst hst
    obtain ⟨h4, hq⟩ := q_b_inv hq
    unfold q_arc at hq
    split at hq
    · cases hq
    · split at hq
      · skip
        exact hk _ _ _ _ hq
      · skip
        exact hk _ _ _ _ hq
      · cases hq
  · cases hr
theorem kd_b_invokespecial {i : Nat} (ha : q_at2 none E.1 pc = some (.invokespecial i, au, sw)) (hc : q_chk cc o Rf Rl pc (.invokespecial i) au sw = true) (hk : ∀ (pc : Nat) (L : q_L) (st : List Value) (h : q_S), k pc L st h = some r → kd E.2.1 r) (hr : q_body E X O k pc L st h = some r) : kd E.2.1 r := by
  simp only [q_body, ha] at hr
  split at hr
  · obtain ⟨xs, t, hst, hn, hq⟩ := q_pop_inv hr
    subst hst
    obtain ⟨b, t2, hst2, hq2⟩ := q_r_inv hq
    subst hst2
    obtain ⟨h3, hq2⟩ := q_b_inv hq2
    exact kd_call hk hq2
  · cases hr
theorem kd_b_invokevirtual {i : Nat} (ha : q_at2 none E.1 pc = some (.invokevirtual i, au, sw)) (hc : q_chk cc o Rf Rl pc (.invokevirtual i) au sw = true) (hk : ∀ (pc : Nat) (L : q_L) (st : List Value) (h : q_S), k pc L st h = some r → kd E.2.1 r) (hr : q_body E X O k pc L st h = some r) : kd E.2.1 r := by
  simp only [q_body, ha] at hr
  split at hr
  · obtain ⟨xs, t, hst, hn, hq⟩ := q_pop_inv hr
    subst hst
    obtain ⟨b, t2, hst2, hq2⟩ := q_r_inv hq
    subst hst2
    obtain ⟨h3, hq2⟩ := q_b_inv hq2
    exact kd_call hk hq2
  · obtain ⟨xs, t, hst, hn, hq⟩ := q_pop_inv hr
    subst hst
    obtain ⟨b, t2, hst2, hq2⟩ := q_r_inv hq
    subst hst2
    split at hq2
    · obtain ⟨h3, hq2⟩ := q_b_inv hq2
      exact kd_call hk hq2
    · cases hq2
  · cases hr
theorem kd_b_ireturn  (ha : q_at2 none E.1 pc = some (.ireturn, au, sw)) (hc : q_chk cc o Rf Rl pc (.ireturn) au sw = true) (hk : ∀ (pc : Nat) (L : q_L) (st : List Value) (h : q_S), k pc L st h = some r → kd E.2.1 r) (hr : q_body E X O k pc L st h = some r)  : kd E.2.1 r := by
  simp only [q_body, ha] at hr
  split at hr
  · rename_i e1 e2
    cases hr
    exact ⟨fun _ => ⟨_, rfl⟩, fun e => absurd e (by omega)⟩
  · rename_i e1 e2
    split at hr
    · cases hr
      exact ⟨fun _ => ⟨_, rfl⟩, fun e => absurd e (by omega)⟩
    · cases hr
  · cases hr
theorem kd_b_lreturn  (ha : q_at2 none E.1 pc = some (.lreturn, au, sw)) (hc : q_chk cc o Rf Rl pc (.lreturn) au sw = true) (hk : ∀ (pc : Nat) (L : q_L) (st : List Value) (h : q_S), k pc L st h = some r → kd E.2.1 r) (hr : q_body E X O k pc L st h = some r)  : kd E.2.1 r := by
  simp only [q_body, ha] at hr
  split at hr
  · rename_i e1 e2
    cases hr
    exact ⟨fun e => absurd e (by omega), fun _ => ⟨_, rfl⟩⟩
  · cases hr
theorem kd_b_return_  (ha : q_at2 none E.1 pc = some (.return_, au, sw)) (hc : q_chk cc o Rf Rl pc (.return_) au sw = true) (hk : ∀ (pc : Nat) (L : q_L) (st : List Value) (h : q_S), k pc L st h = some r → kd E.2.1 r) (hr : q_body E X O k pc L st h = some r)  : kd E.2.1 r := by
  simp only [q_body, ha] at hr
  split at hr
  · rename_i e1 e2
    cases hr
    exact ⟨fun e => absurd e (by omega), fun e => absurd e (by omega)⟩
  · cases hr
theorem kd_body (hM : q_chkM cc o Rf Rl 0 E.1 = true) (hk : ∀ (pc : Nat) (L : q_L) (st : List Value) (h : q_S), k pc L st h = some r → kd E.2.1 r) (hr : q_body E X O k pc L st h = some r) : kd E.2.1 r := by
  cases ha : q_at2 none E.1 pc with
  | none => simp [q_body, ha] at hr
  | some x =>
    obtain ⟨i, au, sw⟩ := x
    have hc := q_chk_at hM ha
    cases i with
    | iadd => exact kd_b_iadd ha hc hk hr
    | isub => exact kd_b_isub ha hc hk hr
    | imul => exact kd_b_imul ha hc hk hr
    | iand => exact kd_b_iand ha hc hk hr
    | ior => exact kd_b_ior ha hc hk hr
    | ixor => exact kd_b_ixor ha hc hk hr
    | ishl => exact kd_b_ishl ha hc hk hr
    | ishr => exact kd_b_ishr ha hc hk hr
    | ladd => exact kd_b_ladd ha hc hk hr
    | lsub => exact kd_b_lsub ha hc hk hr
    | lmul => exact kd_b_lmul ha hc hk hr
    | land => exact kd_b_land ha hc hk hr
    | lor => exact kd_b_lor ha hc hk hr
    | lxor => exact kd_b_lxor ha hc hk hr
    | lcmp => exact kd_b_lcmp ha hc hk hr
    | lshl => exact kd_b_lshl ha hc hk hr
    | lshr => exact kd_b_lshr ha hc hk hr
    | idiv => exact kd_b_idiv ha hc hk hr
    | irem => exact kd_b_irem ha hc hk hr
    | ldiv => exact kd_b_ldiv ha hc hk hr
    | lrem => exact kd_b_lrem ha hc hk hr
    | ineg => exact kd_b_ineg ha hc hk hr
    | i2l => exact kd_b_i2l ha hc hk hr
    | i2b => exact kd_b_i2b ha hc hk hr
    | l2i => exact kd_b_l2i ha hc hk hr
    | dup => exact kd_b_dup ha hc hk hr
    | pop => exact kd_b_pop ha hc hk hr
    | dup_x1 => exact kd_b_dup_x1 ha hc hk hr
    | dup2 => exact kd_b_dup2 ha hc hk hr
    | iload_n => exact kd_b_iload_n ha hc hk hr
    | istore_n => exact kd_b_istore_n ha hc hk hr
    | iload => exact kd_b_iload ha hc hk hr
    | istore => exact kd_b_istore ha hc hk hr
    | lload_n => exact kd_b_lload_n ha hc hk hr
    | lstore_n => exact kd_b_lstore_n ha hc hk hr
    | lload => exact kd_b_lload ha hc hk hr
    | lstore => exact kd_b_lstore ha hc hk hr
    | aload_n => exact kd_b_aload_n ha hc hk hr
    | astore_n => exact kd_b_astore_n ha hc hk hr
    | aload => exact kd_b_aload ha hc hk hr
    | astore => exact kd_b_astore ha hc hk hr
    | iconst => exact kd_b_iconst ha hc hk hr
    | bipush => exact kd_b_bipush ha hc hk hr
    | sipush => exact kd_b_sipush ha hc hk hr
    | iinc => exact kd_b_iinc ha hc hk hr
    | lconst => exact kd_b_lconst ha hc hk hr
    | ldc2_w => exact kd_b_ldc2_w ha hc hk hr
    | goto => exact kd_b_goto ha hc hk hr
    | ifCond => exact kd_b_ifCond ha hc hk hr
    | if_icmp => exact kd_b_if_icmp ha hc hk hr
    | ifnull => exact kd_b_ifnull ha hc hk hr
    | tableswitch => exact kd_b_tableswitch ha hc hk hr
    | lookupswitch => exact kd_b_lookupswitch ha hc hk hr
    | getstatic => exact kd_b_getstatic ha hc hk hr
    | getfield => exact kd_b_getfield ha hc hk hr
    | putfield => exact kd_b_putfield ha hc hk hr
    | iaload => exact kd_b_iaload ha hc hk hr
    | laload => exact kd_b_laload ha hc hk hr
    | aaload => exact kd_b_aaload ha hc hk hr
    | iastore => exact kd_b_iastore ha hc hk hr
    | lastore => exact kd_b_lastore ha hc hk hr
    | arraylength => exact kd_b_arraylength ha hc hk hr
    | invokestatic => exact kd_b_invokestatic ha hc hk hr
    | invokespecial => exact kd_b_invokespecial ha hc hk hr
    | invokevirtual => exact kd_b_invokevirtual ha hc hk hr
    | ireturn => exact kd_b_ireturn ha hc hk hr
    | lreturn => exact kd_b_lreturn ha hc hk hr
    | return_ => exact kd_b_return_ ha hc hk hr
    | _ => cases hc
theorem kd_ex {K : q_K} (hM : q_chkM cc o Rf Rl 0 E.1 = true) (hK : ∀ (pc : Nat) (L : q_L) (st : List Value) (h : q_S), K pc L st h = some r → kd E.2.1 r) : ∀ (n pc : Nat) (L : q_L) (st : List Value) (h : q_S), q_ex E X O K n pc L st h = some r → kd E.2.1 r := by
  intro n
  induction n with
  | zero =>
    intro pc L st h hr
    cases hr
  | succ n ih =>
    intro pc L st h hr
    unfold q_ex at hr
    split at hr
    · exact hK _ _ _ _ hr
    · exact kd_body hM ih hr
theorem kd_go (hM : q_chkM cc o Rf Rl 0 E.1 = true) : ∀ (n pc : Nat) (L : q_L) (st : List Value) (h : q_S), q_go E X O n pc L st h = some r → kd E.2.1 r := by
  intro n
  induction n with
  | zero =>
    intro pc L st h hr
    cases hr
  | succ n ih =>
    intro pc L st h hr
    unfold q_go at hr
    exact kd_body hM (kd_ex hM ih 500) hr
end KD
theorem kd_sem {d y : Nat} {h : q_S} {as : List Value} {r : q_S × Option Value} (hr : q_sem d y h as = some r) : kd (q_en y).2.1 r := by
  cases d with
  | zero => cases hr
  | succ d =>
    rw [q_sem] at hr
    dsimp only at hr
    split at hr
    · rename_i hya
      exact kd_go (ck_all y hya.1) 1000 0 _ _ _ hr
    · cases hr
