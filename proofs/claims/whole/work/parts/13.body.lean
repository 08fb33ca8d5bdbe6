/-! ===== the small machine is sound ===== -/
/-- a return of type rt with v -/
def q_rtd (cc : ByteArray) (pc rt : Nat) (v : Option Value) (st : List Value) : Prop :=
  (rt = 1 ∧ decode cc pc = .ok (.ireturn, 1) ∧ ∃ x, st = [.int x] ∧ v = some (.int x)) ∨ (rt = 2 ∧ decode cc pc = .ok (.ireturn, 1) ∧ ∃ x : Int32, st = [.int x] ∧ v = some (.int x) ∧ (x = 0 ∨ x = 1)) ∨
  (rt = 3 ∧ decode cc pc = .ok (.lreturn, 1) ∧ ∃ x, st = [.long x] ∧ v = some (.long x)) ∨ (rt = 0 ∧ decode cc pc = .ok (.return_, 1) ∧ st = [] ∧ v = none)
theorem q_cl_inv {rk : Nat} {a : q_A} {st : List Value} {f : List Value → q_S → q_A} {r : q_S × Option Value} (h : q_cl rk a st f = some r) : ∃ r', a = some r' ∧ f (r'.2.toList ++ st) r'.1 = some r := by
  unfold q_cl at h
  split at h
  · unfold q_c0 at h
    split at h
    · exact ⟨_, rfl, h⟩
    · cases h
  · unfold q_c1 at h
    split at h
    · exact ⟨_, rfl, h⟩
    · cases h
  · unfold q_c3 at h
    split at h
    · exact ⟨_, rfl, h⟩
    · cases h
theorem q_rmb_of {Rf Rl y : Nat} {R : Room} (hf : Rf = R.frames) (hl : Rl = R.locals) (h : q_rmb Rf Rl y = true) : y < 211 ∧ q_okR R y := by
  unfold q_rmb at h
  simp only [Bool.and_eq_true] at h
  obtain ⟨h1, h2, h3⟩ := h
  exact ⟨Nat.le_of_ble_eq_true h1, by rw [← hf]; exact Nat.le_of_ble_eq_true h2, by rw [← hl]; exact Nat.le_of_ble_eq_true h3⟩
theorem q_tswb_at {pc : Nat} {lo : Int} : ∀ {sw : List (Int32 × Nat)} {offs : List Int} {j0 j : Nat} {q : Int32 × Nat}, q_tswb pc lo j0 sw offs = true → sw[j]? = some q → q.1 = Int32.ofInt (lo + ((j0 + j : Nat) : Int)) ∧ ∃ off, offs[j]? = some off ∧ (pc : Int) + off = (q.2 : Int)
  | [], _, _, j, _, _, h => by simp at h
  | _ :: _, [], _, _, _, hc, _ => by simp [q_tswb] at hc
  | a :: sw, b :: offs, j0, 0, q, hc, h => by
    have e : a = q := Option.some.inj h
    subst e
    simp only [q_tswb, Bool.and_eq_true, decide_eq_true_eq] at hc
    exact ⟨hc.1, b, rfl, hc.2.1⟩
  | a :: sw, b :: offs, j0, j + 1, q, hc, h => by
    simp only [q_tswb, Bool.and_eq_true, decide_eq_true_eq] at hc
    obtain ⟨h1, off, h2, h3⟩ := q_tswb_at (j := j) hc.2.2 h
    exact ⟨by rw [h1]; congr 2; omega, off, h2, h3⟩
theorem q_lswb_at {pc : Nat} : ∀ {sw : List (Int32 × Nat)} {ps : List (Int × Int)}, q_lswb pc sw ps = true → ps.length = sw.length ∧ ∀ (j : Nat) (q : Int32 × Nat) (o : Int × Int), sw[j]? = some q → ps[j]? = some o → (-2147483648 ≤ o.1 ∧ o.1 < 2147483648) ∧ q.1 = Int32.ofInt o.1 ∧ (pc : Int) + o.2 = (q.2 : Int)
  | [], [], _ => ⟨rfl, fun j q o h _ => by simp at h⟩
  | [], _ :: _, h => by simp [q_lswb] at h
  | _ :: _, [], h => by simp [q_lswb] at h
  | a :: sw, b :: ps, h => by
    simp only [q_lswb, Bool.and_eq_true, decide_eq_true_eq] at h
    obtain ⟨h1, h2⟩ := q_lswb_at h.2
    refine ⟨by simp [h1], fun j q o hq ho => ?_⟩
    cases j with
    | zero =>
      have e1 : a = q := Option.some.inj hq
      have e2 : b = o := Option.some.inj ho
      subst e1 e2
      exact h.1
    | succ j => exact h2 j q o hq ho
section QB
variable {p : Program} {l : Launch} {e : Env} {R : Room} {s : State} {m : MethodId} {args : Array Value} {below : List Frame} {meth : Method} {c : Code} {cells slots : Nat} {Q : State → Prop} {D : va_G} {cA : Nat → ClassId} {ad : Nat → Nat} {A : Nat → Prop} {X : q_X} {cc : ByteArray} {own : String} {nL : Nat}
variable {E : q_E} {O : q_O} {k : q_K} {pc : Nat} {L : q_L} {st : List Value} {h : q_S} {r : q_S × Option Value} {au : List Nat} {sw : List (Int32 × Nat)}
variable {o Rf Rl : Nat}
theorem qb_iadd  (hC : q_Cx p l R s m args c D cA ad A X cc own nL) (hE : E.2.2.1 = nL) (ha : q_at2 none E.1 pc = some (.iadd, au, sw)) (hc : q_chk cc o Rf Rl pc (.iadd) au sw = true) (hk : ∀ (pc : Nat) (L : q_L) (st : List Value) (h : q_S), k pc L st h = some r → q_Psi p l e R s m args below meth c cells slots Q D cA ad A nL pc L st h) (hr : q_body E X O k pc L st h = some r)  : q_Psi p l e R s m args below meth c cells slots Q D cA ad A nL pc L st h := by
  simp only [q_body, ha] at hr
  have hd := q_dec_of hc
  obtain ⟨x, y, t, hst, hq⟩ := q_ii_inv hr
  subst hst
  replace hr := hq
  clear hq
  exact qs_iadd hC hd (hk _ _ _ _ hr)
theorem qb_isub  (hC : q_Cx p l R s m args c D cA ad A X cc own nL) (hE : E.2.2.1 = nL) (ha : q_at2 none E.1 pc = some (.isub, au, sw)) (hc : q_chk cc o Rf Rl pc (.isub) au sw = true) (hk : ∀ (pc : Nat) (L : q_L) (st : List Value) (h : q_S), k pc L st h = some r → q_Psi p l e R s m args below meth c cells slots Q D cA ad A nL pc L st h) (hr : q_body E X O k pc L st h = some r)  : q_Psi p l e R s m args below meth c cells slots Q D cA ad A nL pc L st h := by
  simp only [q_body, ha] at hr
  have hd := q_dec_of hc
  obtain ⟨x, y, t, hst, hq⟩ := q_ii_inv hr
  subst hst
  replace hr := hq
  clear hq
  exact qs_isub hC hd (hk _ _ _ _ hr)
theorem qb_imul  (hC : q_Cx p l R s m args c D cA ad A X cc own nL) (hE : E.2.2.1 = nL) (ha : q_at2 none E.1 pc = some (.imul, au, sw)) (hc : q_chk cc o Rf Rl pc (.imul) au sw = true) (hk : ∀ (pc : Nat) (L : q_L) (st : List Value) (h : q_S), k pc L st h = some r → q_Psi p l e R s m args below meth c cells slots Q D cA ad A nL pc L st h) (hr : q_body E X O k pc L st h = some r)  : q_Psi p l e R s m args below meth c cells slots Q D cA ad A nL pc L st h := by
  simp only [q_body, ha] at hr
  have hd := q_dec_of hc
  obtain ⟨x, y, t, hst, hq⟩ := q_ii_inv hr
  subst hst
  replace hr := hq
  clear hq
  exact qs_imul hC hd (hk _ _ _ _ hr)
theorem qb_iand  (hC : q_Cx p l R s m args c D cA ad A X cc own nL) (hE : E.2.2.1 = nL) (ha : q_at2 none E.1 pc = some (.iand, au, sw)) (hc : q_chk cc o Rf Rl pc (.iand) au sw = true) (hk : ∀ (pc : Nat) (L : q_L) (st : List Value) (h : q_S), k pc L st h = some r → q_Psi p l e R s m args below meth c cells slots Q D cA ad A nL pc L st h) (hr : q_body E X O k pc L st h = some r)  : q_Psi p l e R s m args below meth c cells slots Q D cA ad A nL pc L st h := by
  simp only [q_body, ha] at hr
  have hd := q_dec_of hc
  obtain ⟨x, y, t, hst, hq⟩ := q_ii_inv hr
  subst hst
  replace hr := hq
  clear hq
  exact qs_iand hC hd (hk _ _ _ _ hr)
theorem qb_ior  (hC : q_Cx p l R s m args c D cA ad A X cc own nL) (hE : E.2.2.1 = nL) (ha : q_at2 none E.1 pc = some (.ior, au, sw)) (hc : q_chk cc o Rf Rl pc (.ior) au sw = true) (hk : ∀ (pc : Nat) (L : q_L) (st : List Value) (h : q_S), k pc L st h = some r → q_Psi p l e R s m args below meth c cells slots Q D cA ad A nL pc L st h) (hr : q_body E X O k pc L st h = some r)  : q_Psi p l e R s m args below meth c cells slots Q D cA ad A nL pc L st h := by
  simp only [q_body, ha] at hr
  have hd := q_dec_of hc
  obtain ⟨x, y, t, hst, hq⟩ := q_ii_inv hr
  subst hst
  replace hr := hq
  clear hq
  exact qs_ior hC hd (hk _ _ _ _ hr)
theorem qb_ixor  (hC : q_Cx p l R s m args c D cA ad A X cc own nL) (hE : E.2.2.1 = nL) (ha : q_at2 none E.1 pc = some (.ixor, au, sw)) (hc : q_chk cc o Rf Rl pc (.ixor) au sw = true) (hk : ∀ (pc : Nat) (L : q_L) (st : List Value) (h : q_S), k pc L st h = some r → q_Psi p l e R s m args below meth c cells slots Q D cA ad A nL pc L st h) (hr : q_body E X O k pc L st h = some r)  : q_Psi p l e R s m args below meth c cells slots Q D cA ad A nL pc L st h := by
  simp only [q_body, ha] at hr
  have hd := q_dec_of hc
  obtain ⟨x, y, t, hst, hq⟩ := q_ii_inv hr
  subst hst
  replace hr := hq
  clear hq
  exact qs_ixor hC hd (hk _ _ _ _ hr)
theorem qb_ishl  (hC : q_Cx p l R s m args c D cA ad A X cc own nL) (hE : E.2.2.1 = nL) (ha : q_at2 none E.1 pc = some (.ishl, au, sw)) (hc : q_chk cc o Rf Rl pc (.ishl) au sw = true) (hk : ∀ (pc : Nat) (L : q_L) (st : List Value) (h : q_S), k pc L st h = some r → q_Psi p l e R s m args below meth c cells slots Q D cA ad A nL pc L st h) (hr : q_body E X O k pc L st h = some r)  : q_Psi p l e R s m args below meth c cells slots Q D cA ad A nL pc L st h := by
  simp only [q_body, ha] at hr
  have hd := q_dec_of hc
  obtain ⟨x, y, t, hst, hq⟩ := q_ii_inv hr
  subst hst
  replace hr := hq
  clear hq
  exact qs_ishl hC hd (hk _ _ _ _ hr)
theorem qb_ishr  (hC : q_Cx p l R s m args c D cA ad A X cc own nL) (hE : E.2.2.1 = nL) (ha : q_at2 none E.1 pc = some (.ishr, au, sw)) (hc : q_chk cc o Rf Rl pc (.ishr) au sw = true) (hk : ∀ (pc : Nat) (L : q_L) (st : List Value) (h : q_S), k pc L st h = some r → q_Psi p l e R s m args below meth c cells slots Q D cA ad A nL pc L st h) (hr : q_body E X O k pc L st h = some r)  : q_Psi p l e R s m args below meth c cells slots Q D cA ad A nL pc L st h := by
  simp only [q_body, ha] at hr
  have hd := q_dec_of hc
  obtain ⟨x, y, t, hst, hq⟩ := q_ii_inv hr
  subst hst
  replace hr := hq
  clear hq
  exact qs_ishr hC hd (hk _ _ _ _ hr)
theorem qb_ladd  (hC : q_Cx p l R s m args c D cA ad A X cc own nL) (hE : E.2.2.1 = nL) (ha : q_at2 none E.1 pc = some (.ladd, au, sw)) (hc : q_chk cc o Rf Rl pc (.ladd) au sw = true) (hk : ∀ (pc : Nat) (L : q_L) (st : List Value) (h : q_S), k pc L st h = some r → q_Psi p l e R s m args below meth c cells slots Q D cA ad A nL pc L st h) (hr : q_body E X O k pc L st h = some r)  : q_Psi p l e R s m args below meth c cells slots Q D cA ad A nL pc L st h := by
  simp only [q_body, ha] at hr
  have hd := q_dec_of hc
  obtain ⟨x, y, t, hst, hq⟩ := q_ll_inv hr
  subst hst
  replace hr := hq
  clear hq
  exact qs_ladd hC hd (hk _ _ _ _ hr)
theorem qb_lsub  (hC : q_Cx p l R s m args c D cA ad A X cc own nL) (hE : E.2.2.1 = nL) (ha : q_at2 none E.1 pc = some (.lsub, au, sw)) (hc : q_chk cc o Rf Rl pc (.lsub) au sw = true) (hk : ∀ (pc : Nat) (L : q_L) (st : List Value) (h : q_S), k pc L st h = some r → q_Psi p l e R s m args below meth c cells slots Q D cA ad A nL pc L st h) (hr : q_body E X O k pc L st h = some r)  : q_Psi p l e R s m args below meth c cells slots Q D cA ad A nL pc L st h := by
  simp only [q_body, ha] at hr
  have hd := q_dec_of hc
  obtain ⟨x, y, t, hst, hq⟩ := q_ll_inv hr
  subst hst
  replace hr := hq
  clear hq
  exact qs_lsub hC hd (hk _ _ _ _ hr)
theorem qb_lmul  (hC : q_Cx p l R s m args c D cA ad A X cc own nL) (hE : E.2.2.1 = nL) (ha : q_at2 none E.1 pc = some (.lmul, au, sw)) (hc : q_chk cc o Rf Rl pc (.lmul) au sw = true) (hk : ∀ (pc : Nat) (L : q_L) (st : List Value) (h : q_S), k pc L st h = some r → q_Psi p l e R s m args below meth c cells slots Q D cA ad A nL pc L st h) (hr : q_body E X O k pc L st h = some r)  : q_Psi p l e R s m args below meth c cells slots Q D cA ad A nL pc L st h := by
  simp only [q_body, ha] at hr
  have hd := q_dec_of hc
  obtain ⟨x, y, t, hst, hq⟩ := q_ll_inv hr
  subst hst
  replace hr := hq
  clear hq
  exact qs_lmul hC hd (hk _ _ _ _ hr)
theorem qb_land  (hC : q_Cx p l R s m args c D cA ad A X cc own nL) (hE : E.2.2.1 = nL) (ha : q_at2 none E.1 pc = some (.land, au, sw)) (hc : q_chk cc o Rf Rl pc (.land) au sw = true) (hk : ∀ (pc : Nat) (L : q_L) (st : List Value) (h : q_S), k pc L st h = some r → q_Psi p l e R s m args below meth c cells slots Q D cA ad A nL pc L st h) (hr : q_body E X O k pc L st h = some r)  : q_Psi p l e R s m args below meth c cells slots Q D cA ad A nL pc L st h := by
  simp only [q_body, ha] at hr
  have hd := q_dec_of hc
  obtain ⟨x, y, t, hst, hq⟩ := q_ll_inv hr
  subst hst
  replace hr := hq
  clear hq
  exact qs_land hC hd (hk _ _ _ _ hr)
theorem qb_lor  (hC : q_Cx p l R s m args c D cA ad A X cc own nL) (hE : E.2.2.1 = nL) (ha : q_at2 none E.1 pc = some (.lor, au, sw)) (hc : q_chk cc o Rf Rl pc (.lor) au sw = true) (hk : ∀ (pc : Nat) (L : q_L) (st : List Value) (h : q_S), k pc L st h = some r → q_Psi p l e R s m args below meth c cells slots Q D cA ad A nL pc L st h) (hr : q_body E X O k pc L st h = some r)  : q_Psi p l e R s m args below meth c cells slots Q D cA ad A nL pc L st h := by
  simp only [q_body, ha] at hr
  have hd := q_dec_of hc
  obtain ⟨x, y, t, hst, hq⟩ := q_ll_inv hr
  subst hst
  replace hr := hq
  clear hq
  exact qs_lor hC hd (hk _ _ _ _ hr)
theorem qb_lxor  (hC : q_Cx p l R s m args c D cA ad A X cc own nL) (hE : E.2.2.1 = nL) (ha : q_at2 none E.1 pc = some (.lxor, au, sw)) (hc : q_chk cc o Rf Rl pc (.lxor) au sw = true) (hk : ∀ (pc : Nat) (L : q_L) (st : List Value) (h : q_S), k pc L st h = some r → q_Psi p l e R s m args below meth c cells slots Q D cA ad A nL pc L st h) (hr : q_body E X O k pc L st h = some r)  : q_Psi p l e R s m args below meth c cells slots Q D cA ad A nL pc L st h := by
  simp only [q_body, ha] at hr
  have hd := q_dec_of hc
  obtain ⟨x, y, t, hst, hq⟩ := q_ll_inv hr
  subst hst
  replace hr := hq
  clear hq
  exact qs_lxor hC hd (hk _ _ _ _ hr)
theorem qb_lcmp  (hC : q_Cx p l R s m args c D cA ad A X cc own nL) (hE : E.2.2.1 = nL) (ha : q_at2 none E.1 pc = some (.lcmp, au, sw)) (hc : q_chk cc o Rf Rl pc (.lcmp) au sw = true) (hk : ∀ (pc : Nat) (L : q_L) (st : List Value) (h : q_S), k pc L st h = some r → q_Psi p l e R s m args below meth c cells slots Q D cA ad A nL pc L st h) (hr : q_body E X O k pc L st h = some r)  : q_Psi p l e R s m args below meth c cells slots Q D cA ad A nL pc L st h := by
  simp only [q_body, ha] at hr
  have hd := q_dec_of hc
  obtain ⟨x, y, t, hst, hq⟩ := q_ll_inv hr
  subst hst
  replace hr := hq
  clear hq
  exact qs_lcmp hC hd (hk _ _ _ _ hr)
theorem qb_lshl  (hC : q_Cx p l R s m args c D cA ad A X cc own nL) (hE : E.2.2.1 = nL) (ha : q_at2 none E.1 pc = some (.lshl, au, sw)) (hc : q_chk cc o Rf Rl pc (.lshl) au sw = true) (hk : ∀ (pc : Nat) (L : q_L) (st : List Value) (h : q_S), k pc L st h = some r → q_Psi p l e R s m args below meth c cells slots Q D cA ad A nL pc L st h) (hr : q_body E X O k pc L st h = some r)  : q_Psi p l e R s m args below meth c cells slots Q D cA ad A nL pc L st h := by
  simp only [q_body, ha] at hr
  have hd := q_dec_of hc
  obtain ⟨x, y, t, hst, hq⟩ := q_li_inv hr
  subst hst
  replace hr := hq
  clear hq
  exact qs_lshl hC hd (hk _ _ _ _ hr)
theorem qb_lshr  (hC : q_Cx p l R s m args c D cA ad A X cc own nL) (hE : E.2.2.1 = nL) (ha : q_at2 none E.1 pc = some (.lshr, au, sw)) (hc : q_chk cc o Rf Rl pc (.lshr) au sw = true) (hk : ∀ (pc : Nat) (L : q_L) (st : List Value) (h : q_S), k pc L st h = some r → q_Psi p l e R s m args below meth c cells slots Q D cA ad A nL pc L st h) (hr : q_body E X O k pc L st h = some r)  : q_Psi p l e R s m args below meth c cells slots Q D cA ad A nL pc L st h := by
  simp only [q_body, ha] at hr
  have hd := q_dec_of hc
  obtain ⟨x, y, t, hst, hq⟩ := q_li_inv hr
  subst hst
  replace hr := hq
  clear hq
  exact qs_lshr hC hd (hk _ _ _ _ hr)
theorem qb_idiv  (hC : q_Cx p l R s m args c D cA ad A X cc own nL) (hE : E.2.2.1 = nL) (ha : q_at2 none E.1 pc = some (.idiv, au, sw)) (hc : q_chk cc o Rf Rl pc (.idiv) au sw = true) (hk : ∀ (pc : Nat) (L : q_L) (st : List Value) (h : q_S), k pc L st h = some r → q_Psi p l e R s m args below meth c cells slots Q D cA ad A nL pc L st h) (hr : q_body E X O k pc L st h = some r)  : q_Psi p l e R s m args below meth c cells slots Q D cA ad A nL pc L st h := by
  simp only [q_body, ha] at hr
  have hd := q_dec_of hc
  obtain ⟨x, y, t, hst, hq⟩ := q_ii_inv hr
  subst hst
  replace hr := hq
  clear hq
  split at hr
  · cases hr
  · rename_i hne
    exact qs_idiv hC hd hne (hk _ _ _ _ hr)
theorem qb_irem  (hC : q_Cx p l R s m args c D cA ad A X cc own nL) (hE : E.2.2.1 = nL) (ha : q_at2 none E.1 pc = some (.irem, au, sw)) (hc : q_chk cc o Rf Rl pc (.irem) au sw = true) (hk : ∀ (pc : Nat) (L : q_L) (st : List Value) (h : q_S), k pc L st h = some r → q_Psi p l e R s m args below meth c cells slots Q D cA ad A nL pc L st h) (hr : q_body E X O k pc L st h = some r)  : q_Psi p l e R s m args below meth c cells slots Q D cA ad A nL pc L st h := by
  simp only [q_body, ha] at hr
  have hd := q_dec_of hc
  obtain ⟨x, y, t, hst, hq⟩ := q_ii_inv hr
  subst hst
  replace hr := hq
  clear hq
  split at hr
  · cases hr
  · rename_i hne
    exact qs_irem hC hd hne (hk _ _ _ _ hr)
theorem qb_ldiv  (hC : q_Cx p l R s m args c D cA ad A X cc own nL) (hE : E.2.2.1 = nL) (ha : q_at2 none E.1 pc = some (.ldiv, au, sw)) (hc : q_chk cc o Rf Rl pc (.ldiv) au sw = true) (hk : ∀ (pc : Nat) (L : q_L) (st : List Value) (h : q_S), k pc L st h = some r → q_Psi p l e R s m args below meth c cells slots Q D cA ad A nL pc L st h) (hr : q_body E X O k pc L st h = some r)  : q_Psi p l e R s m args below meth c cells slots Q D cA ad A nL pc L st h := by
  simp only [q_body, ha] at hr
  have hd := q_dec_of hc
  obtain ⟨x, y, t, hst, hq⟩ := q_ll_inv hr
  subst hst
  replace hr := hq
  clear hq
  split at hr
  · cases hr
  · rename_i hne
    exact qs_ldiv hC hd hne (hk _ _ _ _ hr)
theorem qb_lrem  (hC : q_Cx p l R s m args c D cA ad A X cc own nL) (hE : E.2.2.1 = nL) (ha : q_at2 none E.1 pc = some (.lrem, au, sw)) (hc : q_chk cc o Rf Rl pc (.lrem) au sw = true) (hk : ∀ (pc : Nat) (L : q_L) (st : List Value) (h : q_S), k pc L st h = some r → q_Psi p l e R s m args below meth c cells slots Q D cA ad A nL pc L st h) (hr : q_body E X O k pc L st h = some r)  : q_Psi p l e R s m args below meth c cells slots Q D cA ad A nL pc L st h := by
  simp only [q_body, ha] at hr
  have hd := q_dec_of hc
  obtain ⟨x, y, t, hst, hq⟩ := q_ll_inv hr
  subst hst
  replace hr := hq
  clear hq
  split at hr
  · cases hr
  · rename_i hne
    exact qs_lrem hC hd hne (hk _ _ _ _ hr)
theorem qb_ineg  (hC : q_Cx p l R s m args c D cA ad A X cc own nL) (hE : E.2.2.1 = nL) (ha : q_at2 none E.1 pc = some (.ineg, au, sw)) (hc : q_chk cc o Rf Rl pc (.ineg) au sw = true) (hk : ∀ (pc : Nat) (L : q_L) (st : List Value) (h : q_S), k pc L st h = some r → q_Psi p l e R s m args below meth c cells slots Q D cA ad A nL pc L st h) (hr : q_body E X O k pc L st h = some r)  : q_Psi p l e R s m args below meth c cells slots Q D cA ad A nL pc L st h := by
  simp only [q_body, ha] at hr
  have hd := q_dec_of hc
  obtain ⟨x, t, hst, hq⟩ := q_i_inv hr
  subst hst
  replace hr := hq
  clear hq
  exact qs_ineg hC hd (hk _ _ _ _ hr)
theorem qb_i2l  (hC : q_Cx p l R s m args c D cA ad A X cc own nL) (hE : E.2.2.1 = nL) (ha : q_at2 none E.1 pc = some (.i2l, au, sw)) (hc : q_chk cc o Rf Rl pc (.i2l) au sw = true) (hk : ∀ (pc : Nat) (L : q_L) (st : List Value) (h : q_S), k pc L st h = some r → q_Psi p l e R s m args below meth c cells slots Q D cA ad A nL pc L st h) (hr : q_body E X O k pc L st h = some r)  : q_Psi p l e R s m args below meth c cells slots Q D cA ad A nL pc L st h := by
  simp only [q_body, ha] at hr
  have hd := q_dec_of hc
  obtain ⟨x, t, hst, hq⟩ := q_i_inv hr
  subst hst
  replace hr := hq
  clear hq
  exact qs_i2l hC hd (hk _ _ _ _ hr)
theorem qb_i2b  (hC : q_Cx p l R s m args c D cA ad A X cc own nL) (hE : E.2.2.1 = nL) (ha : q_at2 none E.1 pc = some (.i2b, au, sw)) (hc : q_chk cc o Rf Rl pc (.i2b) au sw = true) (hk : ∀ (pc : Nat) (L : q_L) (st : List Value) (h : q_S), k pc L st h = some r → q_Psi p l e R s m args below meth c cells slots Q D cA ad A nL pc L st h) (hr : q_body E X O k pc L st h = some r)  : q_Psi p l e R s m args below meth c cells slots Q D cA ad A nL pc L st h := by
  simp only [q_body, ha] at hr
  have hd := q_dec_of hc
  obtain ⟨x, t, hst, hq⟩ := q_i_inv hr
  subst hst
  replace hr := hq
  clear hq
  exact qs_i2b hC hd (hk _ _ _ _ hr)
theorem qb_l2i  (hC : q_Cx p l R s m args c D cA ad A X cc own nL) (hE : E.2.2.1 = nL) (ha : q_at2 none E.1 pc = some (.l2i, au, sw)) (hc : q_chk cc o Rf Rl pc (.l2i) au sw = true) (hk : ∀ (pc : Nat) (L : q_L) (st : List Value) (h : q_S), k pc L st h = some r → q_Psi p l e R s m args below meth c cells slots Q D cA ad A nL pc L st h) (hr : q_body E X O k pc L st h = some r)  : q_Psi p l e R s m args below meth c cells slots Q D cA ad A nL pc L st h := by
  simp only [q_body, ha] at hr
  have hd := q_dec_of hc
  obtain ⟨x, t, hst, hq⟩ := q_l_inv hr
  subst hst
  replace hr := hq
  clear hq
  exact qs_l2i hC hd (hk _ _ _ _ hr)
theorem qb_dup  (hC : q_Cx p l R s m args c D cA ad A X cc own nL) (hE : E.2.2.1 = nL) (ha : q_at2 none E.1 pc = some (.dup, au, sw)) (hc : q_chk cc o Rf Rl pc (.dup) au sw = true) (hk : ∀ (pc : Nat) (L : q_L) (st : List Value) (h : q_S), k pc L st h = some r → q_Psi p l e R s m args below meth c cells slots Q D cA ad A nL pc L st h) (hr : q_body E X O k pc L st h = some r)  : q_Psi p l e R s m args below meth c cells slots Q D cA ad A nL pc L st h := by
  simp only [q_body, ha] at hr
  have hd := q_dec_of hc
  obtain ⟨v, t, hst, h1, hq⟩ := q_v_inv hr
  subst hst
  replace hr := hq
  clear hq
  exact qs_dup hC hd h1 (hk _ _ _ _ hr)
theorem qb_pop  (hC : q_Cx p l R s m args c D cA ad A X cc own nL) (hE : E.2.2.1 = nL) (ha : q_at2 none E.1 pc = some (.pop, au, sw)) (hc : q_chk cc o Rf Rl pc (.pop) au sw = true) (hk : ∀ (pc : Nat) (L : q_L) (st : List Value) (h : q_S), k pc L st h = some r → q_Psi p l e R s m args below meth c cells slots Q D cA ad A nL pc L st h) (hr : q_body E X O k pc L st h = some r)  : q_Psi p l e R s m args below meth c cells slots Q D cA ad A nL pc L st h := by
  simp only [q_body, ha] at hr
  have hd := q_dec_of hc
  obtain ⟨v, t, hst, h1, hq⟩ := q_v_inv hr
  subst hst
  replace hr := hq
  clear hq
  exact qs_pop hC hd h1 (hk _ _ _ _ hr)
theorem qb_dup_x1  (hC : q_Cx p l R s m args c D cA ad A X cc own nL) (hE : E.2.2.1 = nL) (ha : q_at2 none E.1 pc = some (.dup_x1, au, sw)) (hc : q_chk cc o Rf Rl pc (.dup_x1) au sw = true) (hk : ∀ (pc : Nat) (L : q_L) (st : List Value) (h : q_S), k pc L st h = some r → q_Psi p l e R s m args below meth c cells slots Q D cA ad A nL pc L st h) (hr : q_body E X O k pc L st h = some r)  : q_Psi p l e R s m args below meth c cells slots Q D cA ad A nL pc L st h := by
  simp only [q_body, ha] at hr
  have hd := q_dec_of hc
  obtain ⟨v, w, t, hst, h1, h2, hq⟩ := q_vv_inv hr
  subst hst
  replace hr := hq
  clear hq
  exact qs_dup_x1 hC hd h1 h2 (hk _ _ _ _ hr)
theorem qb_dup2  (hC : q_Cx p l R s m args c D cA ad A X cc own nL) (hE : E.2.2.1 = nL) (ha : q_at2 none E.1 pc = some (.dup2, au, sw)) (hc : q_chk cc o Rf Rl pc (.dup2) au sw = true) (hk : ∀ (pc : Nat) (L : q_L) (st : List Value) (h : q_S), k pc L st h = some r → q_Psi p l e R s m args below meth c cells slots Q D cA ad A nL pc L st h) (hr : q_body E X O k pc L st h = some r)  : q_Psi p l e R s m args below meth c cells slots Q D cA ad A nL pc L st h := by
  simp only [q_body, ha] at hr
  have hd := q_dec_of hc
  obtain ⟨v, w, t, hst, h1, h2, hq⟩ := q_vv_inv hr
  subst hst
  replace hr := hq
  clear hq
  exact qs_dup2 hC hd h1 h2 (hk _ _ _ _ hr)
theorem qb_iload_n {n : Fin 4} (hC : q_Cx p l R s m args c D cA ad A X cc own nL) (hE : E.2.2.1 = nL) (ha : q_at2 none E.1 pc = some (.iload_n n, au, sw)) (hc : q_chk cc o Rf Rl pc (.iload_n n) au sw = true) (hk : ∀ (pc : Nat) (L : q_L) (st : List Value) (h : q_S), k pc L st h = some r → q_Psi p l e R s m args below meth c cells slots Q D cA ad A nL pc L st h) (hr : q_body E X O k pc L st h = some r)  : q_Psi p l e R s m args below meth c cells slots Q D cA ad A nL pc L st h := by
  simp only [q_body, ha] at hr
  have hd := q_dec_of hc
  obtain ⟨x, h1, hr⟩ := q_gi_inv hr
  exact qs_iload_n hC hd h1 (hk _ _ _ _ hr)
theorem qb_istore_n {n : Fin 4} (hC : q_Cx p l R s m args c D cA ad A X cc own nL) (hE : E.2.2.1 = nL) (ha : q_at2 none E.1 pc = some (.istore_n n, au, sw)) (hc : q_chk cc o Rf Rl pc (.istore_n n) au sw = true) (hk : ∀ (pc : Nat) (L : q_L) (st : List Value) (h : q_S), k pc L st h = some r → q_Psi p l e R s m args below meth c cells slots Q D cA ad A nL pc L st h) (hr : q_body E X O k pc L st h = some r)  : q_Psi p l e R s m args below meth c cells slots Q D cA ad A nL pc L st h := by
  simp only [q_body, ha] at hr
  have hd := q_dec_of hc
  obtain ⟨x, t, hst, hq⟩ := q_i_inv hr
  subst hst
  replace hr := hq
  clear hq
  obtain ⟨h1, hr⟩ := q_b_inv hr
  exact qs_istore_n hC hd (by rw [← hE]; exact Nat.le_of_ble_eq_true h1) (hk _ _ _ _ hr)
theorem qb_iload {n : Nat} (hC : q_Cx p l R s m args c D cA ad A X cc own nL) (hE : E.2.2.1 = nL) (ha : q_at2 none E.1 pc = some (.iload n, au, sw)) (hc : q_chk cc o Rf Rl pc (.iload n) au sw = true) (hk : ∀ (pc : Nat) (L : q_L) (st : List Value) (h : q_S), k pc L st h = some r → q_Psi p l e R s m args below meth c cells slots Q D cA ad A nL pc L st h) (hr : q_body E X O k pc L st h = some r)  : q_Psi p l e R s m args below meth c cells slots Q D cA ad A nL pc L st h := by
  simp only [q_body, ha] at hr
  have hd := q_dec_of hc
  obtain ⟨x, h1, hr⟩ := q_gi_inv hr
  exact qs_iload hC hd h1 (hk _ _ _ _ hr)
theorem qb_istore {n : Nat} (hC : q_Cx p l R s m args c D cA ad A X cc own nL) (hE : E.2.2.1 = nL) (ha : q_at2 none E.1 pc = some (.istore n, au, sw)) (hc : q_chk cc o Rf Rl pc (.istore n) au sw = true) (hk : ∀ (pc : Nat) (L : q_L) (st : List Value) (h : q_S), k pc L st h = some r → q_Psi p l e R s m args below meth c cells slots Q D cA ad A nL pc L st h) (hr : q_body E X O k pc L st h = some r)  : q_Psi p l e R s m args below meth c cells slots Q D cA ad A nL pc L st h := by
  simp only [q_body, ha] at hr
  have hd := q_dec_of hc
  obtain ⟨x, t, hst, hq⟩ := q_i_inv hr
  subst hst
  replace hr := hq
  clear hq
  obtain ⟨h1, hr⟩ := q_b_inv hr
  exact qs_istore hC hd (by rw [← hE]; exact Nat.le_of_ble_eq_true h1) (hk _ _ _ _ hr)
theorem qb_lload_n {n : Fin 4} (hC : q_Cx p l R s m args c D cA ad A X cc own nL) (hE : E.2.2.1 = nL) (ha : q_at2 none E.1 pc = some (.lload_n n, au, sw)) (hc : q_chk cc o Rf Rl pc (.lload_n n) au sw = true) (hk : ∀ (pc : Nat) (L : q_L) (st : List Value) (h : q_S), k pc L st h = some r → q_Psi p l e R s m args below meth c cells slots Q D cA ad A nL pc L st h) (hr : q_body E X O k pc L st h = some r)  : q_Psi p l e R s m args below meth c cells slots Q D cA ad A nL pc L st h := by
  simp only [q_body, ha] at hr
  have hd := q_dec_of hc
  obtain ⟨x, h1, hr⟩ := q_gl_inv hr
  exact qs_lload_n hC hd h1 (hk _ _ _ _ hr)
theorem qb_lstore_n {n : Fin 4} (hC : q_Cx p l R s m args c D cA ad A X cc own nL) (hE : E.2.2.1 = nL) (ha : q_at2 none E.1 pc = some (.lstore_n n, au, sw)) (hc : q_chk cc o Rf Rl pc (.lstore_n n) au sw = true) (hk : ∀ (pc : Nat) (L : q_L) (st : List Value) (h : q_S), k pc L st h = some r → q_Psi p l e R s m args below meth c cells slots Q D cA ad A nL pc L st h) (hr : q_body E X O k pc L st h = some r)  : q_Psi p l e R s m args below meth c cells slots Q D cA ad A nL pc L st h := by
  simp only [q_body, ha] at hr
  have hd := q_dec_of hc
  obtain ⟨x, t, hst, hq⟩ := q_l_inv hr
  subst hst
  replace hr := hq
  clear hq
  obtain ⟨h1, hr⟩ := q_b_inv hr
  exact qs_lstore_n hC hd (by rw [← hE]; exact Nat.le_of_ble_eq_true h1) (hk _ _ _ _ hr)
theorem qb_lload {n : Nat} (hC : q_Cx p l R s m args c D cA ad A X cc own nL) (hE : E.2.2.1 = nL) (ha : q_at2 none E.1 pc = some (.lload n, au, sw)) (hc : q_chk cc o Rf Rl pc (.lload n) au sw = true) (hk : ∀ (pc : Nat) (L : q_L) (st : List Value) (h : q_S), k pc L st h = some r → q_Psi p l e R s m args below meth c cells slots Q D cA ad A nL pc L st h) (hr : q_body E X O k pc L st h = some r)  : q_Psi p l e R s m args below meth c cells slots Q D cA ad A nL pc L st h := by
  simp only [q_body, ha] at hr
  have hd := q_dec_of hc
  obtain ⟨x, h1, hr⟩ := q_gl_inv hr
  exact qs_lload hC hd h1 (hk _ _ _ _ hr)
theorem qb_lstore {n : Nat} (hC : q_Cx p l R s m args c D cA ad A X cc own nL) (hE : E.2.2.1 = nL) (ha : q_at2 none E.1 pc = some (.lstore n, au, sw)) (hc : q_chk cc o Rf Rl pc (.lstore n) au sw = true) (hk : ∀ (pc : Nat) (L : q_L) (st : List Value) (h : q_S), k pc L st h = some r → q_Psi p l e R s m args below meth c cells slots Q D cA ad A nL pc L st h) (hr : q_body E X O k pc L st h = some r)  : q_Psi p l e R s m args below meth c cells slots Q D cA ad A nL pc L st h := by
  simp only [q_body, ha] at hr
  have hd := q_dec_of hc
  obtain ⟨x, t, hst, hq⟩ := q_l_inv hr
  subst hst
  replace hr := hq
  clear hq
  obtain ⟨h1, hr⟩ := q_b_inv hr
  exact qs_lstore hC hd (by rw [← hE]; exact Nat.le_of_ble_eq_true h1) (hk _ _ _ _ hr)
theorem qb_aload_n {n : Fin 4} (hC : q_Cx p l R s m args c D cA ad A X cc own nL) (hE : E.2.2.1 = nL) (ha : q_at2 none E.1 pc = some (.aload_n n, au, sw)) (hc : q_chk cc o Rf Rl pc (.aload_n n) au sw = true) (hk : ∀ (pc : Nat) (L : q_L) (st : List Value) (h : q_S), k pc L st h = some r → q_Psi p l e R s m args below meth c cells slots Q D cA ad A nL pc L st h) (hr : q_body E X O k pc L st h = some r)  : q_Psi p l e R s m args below meth c cells slots Q D cA ad A nL pc L st h := by
  simp only [q_body, ha] at hr
  have hd := q_dec_of hc
  obtain ⟨x, h1, hr⟩ := q_gr_inv hr
  exact qs_aload_n hC hd h1 (hk _ _ _ _ hr)
theorem qb_astore_n {n : Fin 4} (hC : q_Cx p l R s m args c D cA ad A X cc own nL) (hE : E.2.2.1 = nL) (ha : q_at2 none E.1 pc = some (.astore_n n, au, sw)) (hc : q_chk cc o Rf Rl pc (.astore_n n) au sw = true) (hk : ∀ (pc : Nat) (L : q_L) (st : List Value) (h : q_S), k pc L st h = some r → q_Psi p l e R s m args below meth c cells slots Q D cA ad A nL pc L st h) (hr : q_body E X O k pc L st h = some r)  : q_Psi p l e R s m args below meth c cells slots Q D cA ad A nL pc L st h := by
  simp only [q_body, ha] at hr
  have hd := q_dec_of hc
  obtain ⟨x, t, hst, hq⟩ := q_r_inv hr
  subst hst
  replace hr := hq
  clear hq
  obtain ⟨h1, hr⟩ := q_b_inv hr
  exact qs_astore_n hC hd (by rw [← hE]; exact Nat.le_of_ble_eq_true h1) (hk _ _ _ _ hr)
theorem qb_aload {n : Nat} (hC : q_Cx p l R s m args c D cA ad A X cc own nL) (hE : E.2.2.1 = nL) (ha : q_at2 none E.1 pc = some (.aload n, au, sw)) (hc : q_chk cc o Rf Rl pc (.aload n) au sw = true) (hk : ∀ (pc : Nat) (L : q_L) (st : List Value) (h : q_S), k pc L st h = some r → q_Psi p l e R s m args below meth c cells slots Q D cA ad A nL pc L st h) (hr : q_body E X O k pc L st h = some r)  : q_Psi p l e R s m args below meth c cells slots Q D cA ad A nL pc L st h := by
  simp only [q_body, ha] at hr
  have hd := q_dec_of hc
  obtain ⟨x, h1, hr⟩ := q_gr_inv hr
  exact qs_aload hC hd h1 (hk _ _ _ _ hr)
theorem qb_astore {n : Nat} (hC : q_Cx p l R s m args c D cA ad A X cc own nL) (hE : E.2.2.1 = nL) (ha : q_at2 none E.1 pc = some (.astore n, au, sw)) (hc : q_chk cc o Rf Rl pc (.astore n) au sw = true) (hk : ∀ (pc : Nat) (L : q_L) (st : List Value) (h : q_S), k pc L st h = some r → q_Psi p l e R s m args below meth c cells slots Q D cA ad A nL pc L st h) (hr : q_body E X O k pc L st h = some r)  : q_Psi p l e R s m args below meth c cells slots Q D cA ad A nL pc L st h := by
  simp only [q_body, ha] at hr
  have hd := q_dec_of hc
  obtain ⟨x, t, hst, hq⟩ := q_r_inv hr
  subst hst
  replace hr := hq
  clear hq
  obtain ⟨h1, hr⟩ := q_b_inv hr
  exact qs_astore hC hd (by rw [← hE]; exact Nat.le_of_ble_eq_true h1) (hk _ _ _ _ hr)
theorem qb_iconst {z : Int} (hC : q_Cx p l R s m args c D cA ad A X cc own nL) (hE : E.2.2.1 = nL) (ha : q_at2 none E.1 pc = some (.iconst z, au, sw)) (hc : q_chk cc o Rf Rl pc (.iconst z) au sw = true) (hk : ∀ (pc : Nat) (L : q_L) (st : List Value) (h : q_S), k pc L st h = some r → q_Psi p l e R s m args below meth c cells slots Q D cA ad A nL pc L st h) (hr : q_body E X O k pc L st h = some r)  : q_Psi p l e R s m args below meth c cells slots Q D cA ad A nL pc L st h := by
  simp only [q_body, ha] at hr
  simp only [q_chk, Bool.and_eq_true] at hc
  obtain ⟨hd, hc⟩ := hc
  have hd := q_dec_of hd
  split at hc
  · try simp only at hr
    exact qs_iconst hC hd (of_decide_eq_true hc) (hk _ _ _ _ hr)
  · cases hc
theorem qb_bipush {z : Int} (hC : q_Cx p l R s m args c D cA ad A X cc own nL) (hE : E.2.2.1 = nL) (ha : q_at2 none E.1 pc = some (.bipush z, au, sw)) (hc : q_chk cc o Rf Rl pc (.bipush z) au sw = true) (hk : ∀ (pc : Nat) (L : q_L) (st : List Value) (h : q_S), k pc L st h = some r → q_Psi p l e R s m args below meth c cells slots Q D cA ad A nL pc L st h) (hr : q_body E X O k pc L st h = some r)  : q_Psi p l e R s m args below meth c cells slots Q D cA ad A nL pc L st h := by
  simp only [q_body, ha] at hr
  simp only [q_chk, Bool.and_eq_true] at hc
  obtain ⟨hd, hc⟩ := hc
  have hd := q_dec_of hd
  split at hc
  · try simp only at hr
    exact qs_bipush hC hd (of_decide_eq_true hc) (hk _ _ _ _ hr)
  · cases hc
theorem qb_sipush {z : Int} (hC : q_Cx p l R s m args c D cA ad A X cc own nL) (hE : E.2.2.1 = nL) (ha : q_at2 none E.1 pc = some (.sipush z, au, sw)) (hc : q_chk cc o Rf Rl pc (.sipush z) au sw = true) (hk : ∀ (pc : Nat) (L : q_L) (st : List Value) (h : q_S), k pc L st h = some r → q_Psi p l e R s m args below meth c cells slots Q D cA ad A nL pc L st h) (hr : q_body E X O k pc L st h = some r)  : q_Psi p l e R s m args below meth c cells slots Q D cA ad A nL pc L st h := by
  simp only [q_body, ha] at hr
  simp only [q_chk, Bool.and_eq_true] at hc
  obtain ⟨hd, hc⟩ := hc
  have hd := q_dec_of hd
  split at hc
  · try simp only at hr
    exact qs_sipush hC hd (of_decide_eq_true hc) (hk _ _ _ _ hr)
  · cases hc
theorem qb_iinc {n : Nat} {z : Int} (hC : q_Cx p l R s m args c D cA ad A X cc own nL) (hE : E.2.2.1 = nL) (ha : q_at2 none E.1 pc = some (.iinc n z, au, sw)) (hc : q_chk cc o Rf Rl pc (.iinc n z) au sw = true) (hk : ∀ (pc : Nat) (L : q_L) (st : List Value) (h : q_S), k pc L st h = some r → q_Psi p l e R s m args below meth c cells slots Q D cA ad A nL pc L st h) (hr : q_body E X O k pc L st h = some r)  : q_Psi p l e R s m args below meth c cells slots Q D cA ad A nL pc L st h := by
  simp only [q_body, ha] at hr
  simp only [q_chk, Bool.and_eq_true] at hc
  obtain ⟨hd, hc⟩ := hc
  have hd := q_dec_of hd
  split at hc
  · try simp only at hr
    obtain ⟨x, h1, hr⟩ := q_gi_inv hr
    obtain ⟨h2, hr⟩ := q_b_inv hr
    exact qs_iinc hC hd h1 (of_decide_eq_true hc) (by rw [← hE]; exact Nat.le_of_ble_eq_true h2) (hk _ _ _ _ hr)
  · cases hc
theorem qb_lconst {n : Fin 2} (hC : q_Cx p l R s m args c D cA ad A X cc own nL) (hE : E.2.2.1 = nL) (ha : q_at2 none E.1 pc = some (.lconst n, au, sw)) (hc : q_chk cc o Rf Rl pc (.lconst n) au sw = true) (hk : ∀ (pc : Nat) (L : q_L) (st : List Value) (h : q_S), k pc L st h = some r → q_Psi p l e R s m args below meth c cells slots Q D cA ad A nL pc L st h) (hr : q_body E X O k pc L st h = some r)  : q_Psi p l e R s m args below meth c cells slots Q D cA ad A nL pc L st h := by
  simp only [q_body, ha] at hr
  have hd := q_dec_of hc
  exact qs_lconst hC hd (hk _ _ _ _ hr)
theorem qb_ldc2_w {i : Nat} (hC : q_Cx p l R s m args c D cA ad A X cc own nL) (hE : E.2.2.1 = nL) (ha : q_at2 none E.1 pc = some (.ldc2_w i, au, sw)) (hc : q_chk cc o Rf Rl pc (.ldc2_w i) au sw = true) (hk : ∀ (pc : Nat) (L : q_L) (st : List Value) (h : q_S), k pc L st h = some r → q_Psi p l e R s m args below meth c cells slots Q D cA ad A nL pc L st h) (hr : q_body E X O k pc L st h = some r) (ho : own = q_cs o) : q_Psi p l e R s m args below meth c cells slots Q D cA ad A nL pc L st h := by
  simp only [q_body, ha] at hr
  simp only [q_chk, Bool.and_eq_true] at hc
  obtain ⟨hd, hc⟩ := hc
  have hd := q_dec_of hd
  split at hc
  · try simp only at hr
    have hw := alLC o _ (of_decide_eq_true hc)
    exact qs_ldc2 hC hd (by rw [ho]; exact hw) (hk _ _ _ _ hr)
  · cases hc
theorem qb_goto {off : Int} (hC : q_Cx p l R s m args c D cA ad A X cc own nL) (hE : E.2.2.1 = nL) (ha : q_at2 none E.1 pc = some (.goto off, au, sw)) (hc : q_chk cc o Rf Rl pc (.goto off) au sw = true) (hk : ∀ (pc : Nat) (L : q_L) (st : List Value) (h : q_S), k pc L st h = some r → q_Psi p l e R s m args below meth c cells slots Q D cA ad A nL pc L st h) (hr : q_body E X O k pc L st h = some r)  : q_Psi p l e R s m args below meth c cells slots Q D cA ad A nL pc L st h := by
  simp only [q_body, ha] at hr
  simp only [q_chk, Bool.and_eq_true] at hc
  obtain ⟨hd, hc⟩ := hc
  have hd := q_dec_of hd
  split at hc
  · try simp only at hr
    exact qs_goto hC hd (of_decide_eq_true hc) (hk _ _ _ _ hr)
  · cases hc
theorem qb_ifCond {cd : Jvm.ClassFile.Cond} {off : Int} (hC : q_Cx p l R s m args c D cA ad A X cc own nL) (hE : E.2.2.1 = nL) (ha : q_at2 none E.1 pc = some (.ifCond cd off, au, sw)) (hc : q_chk cc o Rf Rl pc (.ifCond cd off) au sw = true) (hk : ∀ (pc : Nat) (L : q_L) (st : List Value) (h : q_S), k pc L st h = some r → q_Psi p l e R s m args below meth c cells slots Q D cA ad A nL pc L st h) (hr : q_body E X O k pc L st h = some r)  : q_Psi p l e R s m args below meth c cells slots Q D cA ad A nL pc L st h := by
  simp only [q_body, ha] at hr
  simp only [q_chk, Bool.and_eq_true] at hc
  obtain ⟨hd, hc⟩ := hc
  have hd := q_dec_of hd
  split at hc
  · try simp only at hr
    obtain ⟨x, t, hst, hq⟩ := q_i_inv hr
    subst hst
    replace hr := hq
    clear hq
    cases cd with
    | eq =>
      simp only at hr
      split at hr
      · rename_i q
        exact qs_if_eq hC hd (of_decide_eq_true hc) (fun _ => hk _ _ _ _ hr) (fun z => absurd q z)
      · rename_i q
        exact qs_if_eq hC hd (of_decide_eq_true hc) (fun z => absurd z q) (fun _ => hk _ _ _ _ hr)
    | ne =>
      simp only at hr
      split at hr
      · rename_i q
        exact qs_if_ne hC hd (of_decide_eq_true hc) (fun _ => hk _ _ _ _ hr) (fun z => absurd q z)
      · rename_i q
        exact qs_if_ne hC hd (of_decide_eq_true hc) (fun z => absurd z q) (fun _ => hk _ _ _ _ hr)
    | lt =>
      simp only at hr
      split at hr
      · rename_i q
        exact qs_if_lt hC hd (of_decide_eq_true hc) (fun _ => hk _ _ _ _ hr) (fun z => absurd q z)
      · rename_i q
        exact qs_if_lt hC hd (of_decide_eq_true hc) (fun z => absurd z q) (fun _ => hk _ _ _ _ hr)
    | ge =>
      simp only at hr
      split at hr
      · rename_i q
        exact qs_if_ge hC hd (of_decide_eq_true hc) (fun _ => hk _ _ _ _ hr) (fun z => absurd q z)
      · rename_i q
        exact qs_if_ge hC hd (of_decide_eq_true hc) (fun z => absurd z q) (fun _ => hk _ _ _ _ hr)
    | gt =>
      simp only at hr
      split at hr
      · rename_i q
        exact qs_if_gt hC hd (of_decide_eq_true hc) (fun _ => hk _ _ _ _ hr) (fun z => absurd q z)
      · rename_i q
        exact qs_if_gt hC hd (of_decide_eq_true hc) (fun z => absurd z q) (fun _ => hk _ _ _ _ hr)
    | le =>
      simp only at hr
      split at hr
      · rename_i q
        exact qs_if_le hC hd (of_decide_eq_true hc) (fun _ => hk _ _ _ _ hr) (fun z => absurd q z)
      · rename_i q
        exact qs_if_le hC hd (of_decide_eq_true hc) (fun z => absurd z q) (fun _ => hk _ _ _ _ hr)
  · cases hc
theorem qb_if_icmp {cd : Jvm.ClassFile.Cond} {off : Int} (hC : q_Cx p l R s m args c D cA ad A X cc own nL) (hE : E.2.2.1 = nL) (ha : q_at2 none E.1 pc = some (.if_icmp cd off, au, sw)) (hc : q_chk cc o Rf Rl pc (.if_icmp cd off) au sw = true) (hk : ∀ (pc : Nat) (L : q_L) (st : List Value) (h : q_S), k pc L st h = some r → q_Psi p l e R s m args below meth c cells slots Q D cA ad A nL pc L st h) (hr : q_body E X O k pc L st h = some r)  : q_Psi p l e R s m args below meth c cells slots Q D cA ad A nL pc L st h := by
  simp only [q_body, ha] at hr
  simp only [q_chk, Bool.and_eq_true] at hc
  obtain ⟨hd, hc⟩ := hc
  have hd := q_dec_of hd
  split at hc
  · try simp only at hr
    obtain ⟨x, y, t, hst, hq⟩ := q_ii_inv hr
    subst hst
    replace hr := hq
    clear hq
    cases cd with
    | eq =>
      simp only at hr
      split at hr
      · rename_i q
        exact qs_icmp_eq hC hd (of_decide_eq_true hc) (fun _ => hk _ _ _ _ hr) (fun z => absurd q z)
      · rename_i q
        exact qs_icmp_eq hC hd (of_decide_eq_true hc) (fun z => absurd z q) (fun _ => hk _ _ _ _ hr)
    | ne =>
      simp only at hr
      split at hr
      · rename_i q
        exact qs_icmp_ne hC hd (of_decide_eq_true hc) (fun _ => hk _ _ _ _ hr) (fun z => absurd q z)
      · rename_i q
        exact qs_icmp_ne hC hd (of_decide_eq_true hc) (fun z => absurd z q) (fun _ => hk _ _ _ _ hr)
    | lt =>
      simp only at hr
      split at hr
      · rename_i q
        exact qs_icmp_lt hC hd (of_decide_eq_true hc) (fun _ => hk _ _ _ _ hr) (fun z => absurd q z)
      · rename_i q
        exact qs_icmp_lt hC hd (of_decide_eq_true hc) (fun z => absurd z q) (fun _ => hk _ _ _ _ hr)
    | ge =>
      simp only at hr
      split at hr
      · rename_i q
        exact qs_icmp_ge hC hd (of_decide_eq_true hc) (fun _ => hk _ _ _ _ hr) (fun z => absurd q z)
      · rename_i q
        exact qs_icmp_ge hC hd (of_decide_eq_true hc) (fun z => absurd z q) (fun _ => hk _ _ _ _ hr)
    | gt =>
      simp only at hr
      split at hr
      · rename_i q
        exact qs_icmp_gt hC hd (of_decide_eq_true hc) (fun _ => hk _ _ _ _ hr) (fun z => absurd q z)
      · rename_i q
        exact qs_icmp_gt hC hd (of_decide_eq_true hc) (fun z => absurd z q) (fun _ => hk _ _ _ _ hr)
    | le =>
      simp only at hr
      split at hr
      · rename_i q
        exact qs_icmp_le hC hd (of_decide_eq_true hc) (fun _ => hk _ _ _ _ hr) (fun z => absurd q z)
      · rename_i q
        exact qs_icmp_le hC hd (of_decide_eq_true hc) (fun z => absurd z q) (fun _ => hk _ _ _ _ hr)
  · cases hc
theorem qb_ifnull {off : Int} (hC : q_Cx p l R s m args c D cA ad A X cc own nL) (hE : E.2.2.1 = nL) (ha : q_at2 none E.1 pc = some (.ifnull off, au, sw)) (hc : q_chk cc o Rf Rl pc (.ifnull off) au sw = true) (hk : ∀ (pc : Nat) (L : q_L) (st : List Value) (h : q_S), k pc L st h = some r → q_Psi p l e R s m args below meth c cells slots Q D cA ad A nL pc L st h) (hr : q_body E X O k pc L st h = some r)  : q_Psi p l e R s m args below meth c cells slots Q D cA ad A nL pc L st h := by
  simp only [q_body, ha] at hr
  simp only [q_chk, Bool.and_eq_true] at hc
  obtain ⟨hd, hc⟩ := hc
  have hd := q_dec_of hd
  split at hc
  · try simp only at hr
    split at hr
    · rename_i e1 e2
      injection e2 with e2
      subst e2
      exact qs_ifnullN hC hd (of_decide_eq_true hc) (hk _ _ _ _ hr)
    · exact qs_ifnullR hC hd (hk _ _ _ _ hr)
    · cases hr
  · cases hc
theorem qb_tableswitch {d lo hi : Int} {offs : Array Int} (hC : q_Cx p l R s m args c D cA ad A X cc own nL) (hE : E.2.2.1 = nL) (ha : q_at2 none E.1 pc = some (.tableswitch d lo hi offs, au, sw)) (hc : q_chk cc o Rf Rl pc (.tableswitch d lo hi offs) au sw = true) (hk : ∀ (pc : Nat) (L : q_L) (st : List Value) (h : q_S), k pc L st h = some r → q_Psi p l e R s m args below meth c cells slots Q D cA ad A nL pc L st h) (hr : q_body E X O k pc L st h = some r)  : q_Psi p l e R s m args below meth c cells slots Q D cA ad A nL pc L st h := by
  simp only [q_body, ha] at hr
  simp only [q_chk, Bool.and_eq_true] at hc
  obtain ⟨hd, hc⟩ := hc
  split at hd
  · rename_i j len hj
    have hj2 : decode cc pc = .ok (.tableswitch d lo hi offs, len) := by rw [hj, of_decide_eq_true hd]
    split at hc
    · simp only [Bool.and_eq_true, decide_eq_true_eq] at hc
      obtain ⟨h1, ⟨h2, h3, h4⟩, h5⟩ := hc
      simp only at hr
      obtain ⟨x, t, hst, hq⟩ := q_i_inv hr
      subst hst
      replace hr := hq
      clear hq
      refine qs_tsw hC hj2 h2 h3 h4 h1 (fun j q hq => ?_) (fun j q hq hx => ?_) (fun hx => ?_)
      · obtain ⟨a1, off, a2, a3⟩ := q_tswb_at h5 hq
        exact ⟨by rw [a1]; congr 2; omega, off, by rw [← Array.getElem?_toList]; exact a2, a3⟩
      · rcases q_sw_inv hr with ⟨j2, q2, b1, b2, b3⟩ | ⟨b1, b2⟩
        · obtain ⟨a1, -⟩ := q_tswb_at h5 hq
          obtain ⟨a2, -⟩ := q_tswb_at h5 b1
          have hlt := (List.getElem?_eq_some_iff.mp hq).1
          have hlt2 := (List.getElem?_eq_some_iff.mp b1).1
          have e := hx.symm.trans b2
          rw [a1, a2] at e
          have e2 := congrArg Int32.toInt e
          rw [Int32.toInt_ofInt_of_le (by omega) (by omega), Int32.toInt_ofInt_of_le (by omega) (by omega)] at e2
          have e3 : j = j2 := by omega
          subst e3
          rw [hq] at b1
          cases b1
          exact hk _ _ _ _ b3
        · exact absurd hx (b1 q (List.mem_of_getElem? hq))
      · rcases q_sw_inv hr with ⟨j2, q2, b1, b2, b3⟩ | ⟨b1, b2⟩
        · exact absurd b2 (hx q2 (List.mem_of_getElem? b1))
        · exact hk _ _ _ _ b2
    · cases hc
  · cases hd
theorem qb_lookupswitch {d : Int} {ps : Array (Int × Int)} (hC : q_Cx p l R s m args c D cA ad A X cc own nL) (hE : E.2.2.1 = nL) (ha : q_at2 none E.1 pc = some (.lookupswitch d ps, au, sw)) (hc : q_chk cc o Rf Rl pc (.lookupswitch d ps) au sw = true) (hk : ∀ (pc : Nat) (L : q_L) (st : List Value) (h : q_S), k pc L st h = some r → q_Psi p l e R s m args below meth c cells slots Q D cA ad A nL pc L st h) (hr : q_body E X O k pc L st h = some r)  : q_Psi p l e R s m args below meth c cells slots Q D cA ad A nL pc L st h := by
  simp only [q_body, ha] at hr
  simp only [q_chk, Bool.and_eq_true] at hc
  obtain ⟨hd, hc⟩ := hc
  split at hd
  · rename_i j len hj
    have hj2 : decode cc pc = .ok (.lookupswitch d ps, len) := by rw [hj, of_decide_eq_true hd]
    split at hc
    · simp only [Bool.and_eq_true, decide_eq_true_eq] at hc
      obtain ⟨h1, h2, h3⟩ := hc
      simp only at hr
      obtain ⟨x, t, hst, hq⟩ := q_i_inv hr
      subst hst
      replace hr := hq
      clear hq
      obtain ⟨a1, a2⟩ := q_lswb_at h3
      obtain ⟨tg, b1, b2⟩ := qs_lsw_off h1 a1 a2 hr
      exact qs_lsw hC hj2 h2 b1 (hk _ _ _ _ b2)
    · cases hc
  · cases hd
theorem qb_getstatic {i : Nat} (hC : q_Cx p l R s m args c D cA ad A X cc own nL) (hE : E.2.2.1 = nL) (ha : q_at2 none E.1 pc = some (.getstatic i, au, sw)) (hc : q_chk cc o Rf Rl pc (.getstatic i) au sw = true) (hk : ∀ (pc : Nat) (L : q_L) (st : List Value) (h : q_S), k pc L st h = some r → q_Psi p l e R s m args below meth c cells slots Q D cA ad A nL pc L st h) (hr : q_body E X O k pc L st h = some r) (ho : own = q_cs o) : q_Psi p l e R s m args below meth c cells slots Q D cA ad A nL pc L st h := by
  simp only [q_body, ha] at hr
  simp only [q_chk, Bool.and_eq_true] at hc
  obtain ⟨hd, hc⟩ := hc
  have hd := q_dec_of hd
  split at hc
  · try simp only at hr
    obtain ⟨hw, ha3⟩ := alLG o _ (of_decide_eq_true hc)
    obtain ⟨z1, z2, z3⟩ := hC.2.2.2.2.2.2.2.1.2
    refine qs_gets hC hd (by rw [ho]; exact hw) ?_ (hk _ _ _ _ hr)
    rcases ha3 with e1 | e1 | e1
    · simp only at e1
      subst e1
      exact z1
    · simp only at e1
      subst e1
      exact z2
    · simp only at e1
      subst e1
      exact z3.1
  · cases hc
theorem qb_getfield {i : Nat} (hC : q_Cx p l R s m args c D cA ad A X cc own nL) (hE : E.2.2.1 = nL) (ha : q_at2 none E.1 pc = some (.getfield i, au, sw)) (hc : q_chk cc o Rf Rl pc (.getfield i) au sw = true) (hk : ∀ (pc : Nat) (L : q_L) (st : List Value) (h : q_S), k pc L st h = some r → q_Psi p l e R s m args below meth c cells slots Q D cA ad A nL pc L st h) (hr : q_body E X O k pc L st h = some r) (ho : own = q_cs o) : q_Psi p l e R s m args below meth c cells slots Q D cA ad A nL pc L st h := by
  simp only [q_body, ha] at hr
  simp only [q_chk, Bool.and_eq_true] at hc
  obtain ⟨hd, hc⟩ := hc
  have hd := q_dec_of hd
  split at hc
  · try simp only at hr
    rename_i au0 Dn n tt
    have hf := alLF o _ (of_decide_eq_true hc)
    rw [← ho] at hf
    obtain ⟨a, t, hst, hq⟩ := q_r_inv hr
    subst hst
    replace hr := hq
    clear hq
    obtain ⟨hs, hr⟩ := q_b_inv hr
    refine qs_getf hC hd hf hs ?_
    rcases tt with _ | _ | tt
    · exact hk _ _ _ _ hr
    · exact hk _ _ _ _ hr
    · exact hk _ _ _ _ hr
  · cases hc
theorem qb_putfield {i : Nat} (hC : q_Cx p l R s m args c D cA ad A X cc own nL) (hE : E.2.2.1 = nL) (ha : q_at2 none E.1 pc = some (.putfield i, au, sw)) (hc : q_chk cc o Rf Rl pc (.putfield i) au sw = true) (hk : ∀ (pc : Nat) (L : q_L) (st : List Value) (h : q_S), k pc L st h = some r → q_Psi p l e R s m args below meth c cells slots Q D cA ad A nL pc L st h) (hr : q_body E X O k pc L st h = some r) (ho : own = q_cs o) : q_Psi p l e R s m args below meth c cells slots Q D cA ad A nL pc L st h := by
  simp only [q_body, ha] at hr
  simp only [q_chk, Bool.and_eq_true] at hc
  obtain ⟨hd, hc⟩ := hc
  have hd := q_dec_of hd
  split at hc
  · try simp only at hr
    rename_i au0 Dn n tt
    have hf := alLP o _ (of_decide_eq_true hc)
    rw [← ho] at hf
    by_cases t0 : tt = 0
    · subst t0
      obtain ⟨a, x, t, hst, hq⟩ := q_ri_inv hr
      subst hst
      obtain ⟨hs, hq⟩ := q_b_inv hq
      exact qs_puti hC hd hf hs (hk _ _ _ _ hq)
    by_cases t4 : tt = 4
    · subst t4
      obtain ⟨a, x, t, hst, hq⟩ := q_ri_inv hr
      subst hst
      obtain ⟨hs, hq⟩ := q_b_inv hq
      split at hq
      · rename_i hx
        exact qs_putz hC hd hf hs hx (hk _ _ _ _ hq)
      · cases hq
    have hf2 : q_pok own i Dn n (.object "WhirlShafts$Disc") := by
      have e : q_pty tt = .object "WhirlShafts$Disc" := by
        unfold q_pty
        split
        · exact absurd rfl t0
        · exact absurd rfl t4
        · rfl
      rw [← e]
      exact hf
    split at hr
    · exact absurd rfl t0
    · exact absurd rfl t4
    · obtain ⟨a, b, t, hst, hq⟩ := q_rr_inv hr
      subst hst
      obtain ⟨hs, hq⟩ := q_b_inv hq
      exact qs_putd hC hd hf2 hs (hk _ _ _ _ hq)
  · cases hc
theorem qb_iaload  (hC : q_Cx p l R s m args c D cA ad A X cc own nL) (hE : E.2.2.1 = nL) (ha : q_at2 none E.1 pc = some (.iaload, au, sw)) (hc : q_chk cc o Rf Rl pc (.iaload) au sw = true) (hk : ∀ (pc : Nat) (L : q_L) (st : List Value) (h : q_S), k pc L st h = some r → q_Psi p l e R s m args below meth c cells slots Q D cA ad A nL pc L st h) (hr : q_body E X O k pc L st h = some r)  : q_Psi p l e R s m args below meth c cells slots Q D cA ad A nL pc L st h := by
  simp only [q_body, ha] at hr
  have hd := q_dec_of hc
  obtain ⟨a, i, t, hst, hq⟩ := q_ri_inv hr
  subst hst
  replace hr := hq
  clear hq
  exact qs_iald hC hd hr (fun x q => hk _ _ _ _ q)
theorem qb_laload  (hC : q_Cx p l R s m args c D cA ad A X cc own nL) (hE : E.2.2.1 = nL) (ha : q_at2 none E.1 pc = some (.laload, au, sw)) (hc : q_chk cc o Rf Rl pc (.laload) au sw = true) (hk : ∀ (pc : Nat) (L : q_L) (st : List Value) (h : q_S), k pc L st h = some r → q_Psi p l e R s m args below meth c cells slots Q D cA ad A nL pc L st h) (hr : q_body E X O k pc L st h = some r)  : q_Psi p l e R s m args below meth c cells slots Q D cA ad A nL pc L st h := by
  simp only [q_body, ha] at hr
  have hd := q_dec_of hc
  obtain ⟨a, i, t, hst, hq⟩ := q_ri_inv hr
  subst hst
  replace hr := hq
  clear hq
  obtain ⟨h1, hr⟩ := q_b_inv hr
  obtain ⟨h2, hr⟩ := q_ix_inv hr
  exact qs_lald hC hd (Nat.eq_of_beq_eq_true h1) h2 (hk _ _ _ _ hr)
theorem qb_aaload  (hC : q_Cx p l R s m args c D cA ad A X cc own nL) (hE : E.2.2.1 = nL) (ha : q_at2 none E.1 pc = some (.aaload, au, sw)) (hc : q_chk cc o Rf Rl pc (.aaload) au sw = true) (hk : ∀ (pc : Nat) (L : q_L) (st : List Value) (h : q_S), k pc L st h = some r → q_Psi p l e R s m args below meth c cells slots Q D cA ad A nL pc L st h) (hr : q_body E X O k pc L st h = some r)  : q_Psi p l e R s m args below meth c cells slots Q D cA ad A nL pc L st h := by
  simp only [q_body, ha] at hr
  have hd := q_dec_of hc
  obtain ⟨a, i, t, hst, hq⟩ := q_ri_inv hr
  subst hst
  replace hr := hq
  clear hq
  obtain ⟨h1, hr⟩ := q_b_inv hr
  obtain ⟨h2, hr⟩ := q_ix_inv hr
  exact qs_aald hC hd (Nat.eq_of_beq_eq_true h1) h2 (hk _ _ _ _ hr)
theorem qb_iastore  (hC : q_Cx p l R s m args c D cA ad A X cc own nL) (hE : E.2.2.1 = nL) (ha : q_at2 none E.1 pc = some (.iastore, au, sw)) (hc : q_chk cc o Rf Rl pc (.iastore) au sw = true) (hk : ∀ (pc : Nat) (L : q_L) (st : List Value) (h : q_S), k pc L st h = some r → q_Psi p l e R s m args below meth c cells slots Q D cA ad A nL pc L st h) (hr : q_body E X O k pc L st h = some r)  : q_Psi p l e R s m args below meth c cells slots Q D cA ad A nL pc L st h := by
  simp only [q_body, ha] at hr
  have hd := q_dec_of hc
  obtain ⟨a, i, x, t, hst, hq⟩ := q_rii_inv hr
  subst hst
  replace hr := hq
  clear hq
  obtain ⟨h1, hr⟩ := q_b_inv hr
  obtain ⟨h2, hr⟩ := q_ix_inv hr
  exact qs_iast hC hd (Nat.eq_of_beq_eq_true h1) h2 (hk _ _ _ _ hr)
theorem qb_lastore  (hC : q_Cx p l R s m args c D cA ad A X cc own nL) (hE : E.2.2.1 = nL) (ha : q_at2 none E.1 pc = some (.lastore, au, sw)) (hc : q_chk cc o Rf Rl pc (.lastore) au sw = true) (hk : ∀ (pc : Nat) (L : q_L) (st : List Value) (h : q_S), k pc L st h = some r → q_Psi p l e R s m args below meth c cells slots Q D cA ad A nL pc L st h) (hr : q_body E X O k pc L st h = some r)  : q_Psi p l e R s m args below meth c cells slots Q D cA ad A nL pc L st h := by
  simp only [q_body, ha] at hr
  have hd := q_dec_of hc
  obtain ⟨a, i, x, t, hst, hq⟩ := q_ril_inv hr
  subst hst
  replace hr := hq
  clear hq
  obtain ⟨h1, hr⟩ := q_b_inv hr
  obtain ⟨h2, hr⟩ := q_ix_inv hr
  exact qs_last hC hd (Nat.eq_of_beq_eq_true h1) h2 (hk _ _ _ _ hr)
theorem qb_arraylength  (hC : q_Cx p l R s m args c D cA ad A X cc own nL) (hE : E.2.2.1 = nL) (ha : q_at2 none E.1 pc = some (.arraylength, au, sw)) (hc : q_chk cc o Rf Rl pc (.arraylength) au sw = true) (hk : ∀ (pc : Nat) (L : q_L) (st : List Value) (h : q_S), k pc L st h = some r → q_Psi p l e R s m args below meth c cells slots Q D cA ad A nL pc L st h) (hr : q_body E X O k pc L st h = some r)  : q_Psi p l e R s m args below meth c cells slots Q D cA ad A nL pc L st h := by
  simp only [q_body, ha] at hr
  have hd := q_dec_of hc
  obtain ⟨a, t, hst, hq⟩ := q_r_inv hr
  subst hst
  replace hr := hq
  clear hq
  exact qs_alen hC hd hr (fun x q => hk _ _ _ _ q)
theorem qb_invokestatic {i : Nat} (hC : q_Cx p l R s m args c D cA ad A X cc own nL) (hE : E.2.2.1 = nL) (ha : q_at2 none E.1 pc = some (.invokestatic i, au, sw)) (hc : q_chk cc o Rf Rl pc (.invokestatic i) au sw = true) (hk : ∀ (pc : Nat) (L : q_L) (st : List Value) (h : q_S), k pc L st h = some r → q_Psi p l e R s m args below meth c cells slots Q D cA ad A nL pc L st h) (hr : q_body E X O k pc L st h = some r) (ho : own = q_cs o) (hRf : Rf = R.frames) (hRl : Rl = R.locals) (hcs : cells ≤ R.cells ∧ slots ≤ R.slots) (hO : ∀ (y : Nat) (h : q_S) (as : List Value) (r' : q_S × Option Value), O y h as = some r' → q_Met l D cA ad y h as r') : q_Psi p l e R s m args below meth c cells slots Q D cA ad A nL pc L st h := by
  simp only [q_body, ha] at hr
  simp only [q_chk, Bool.and_eq_true] at hc
  obtain ⟨hd, hc⟩ := hc
  have hd := q_dec_of hd
  split at hc
  · simp only [Bool.and_eq_true, decide_eq_true_eq] at hc
    obtain ⟨h1, h2⟩ := hc
    have hw := alLS o _ h1
    rw [← ho] at hw
    obtain ⟨hy, hR⟩ := q_rmb_of hRf hRl h2
    simp only at hr
    obtain ⟨xs, t, hst, hn, hq⟩ := q_pop_inv hr
    subst hst
    replace hr := hq
    clear hq
    obtain ⟨h3, hr⟩ := q_b_inv hr
    obtain ⟨r2, e1, hr⟩ := q_cl_inv hr
    rw [List.append_nil] at e1
    exact qs_callS hC hd (q_okY_all _ hy) hw hR (hO _ _ _ _ e1) hn (Nat.le_of_ble_eq_true h3) hcs (hk _ _ _ _ hr)
  · simp only [Bool.and_eq_true, decide_eq_true_eq] at hc
    obtain ⟨h1, h2, h3⟩ := hc
    have hw := alLA o _ h1
    rw [← ho] at hw
    simp only at hr
    obtain ⟨a, sp, b, dp, n, t, hst, hq⟩ := q_ac_inv hr
    subst hst
    replace hr := hq
    clear hq
    obtain ⟨h4, hr⟩ := q_b_inv hr
    exact qs_arc hC hd hw hr (by rw [← hRf]; exact Nat.le_of_ble_eq_true h2) (by rw [← hRl]; exact Nat.le_of_ble_eq_true h3) (Nat.le_of_ble_eq_true h4) (fun h2 q => hk _ _ _ _ q)
  · cases hc
theorem q_cn_cs {c : Nat} (hc : c < 13) : ∃ T N, q_cn[c]? = some (q_cs c, T, N) := by
  rcases (show c = 0 ∨ c = 1 ∨ c = 2 ∨ c = 3 ∨ c = 4 ∨ c = 5 ∨ c = 6 ∨ c = 7 ∨ c = 8 ∨ c = 9 ∨ c = 10 ∨ c = 11 ∨ c = 12 by omega) with rfl | rfl | rfl | rfl | rfl | rfl | rfl | rfl | rfl | rfl | rfl | rfl | rfl <;> exact ⟨_, _, rfl⟩
theorem qb_invokespecial {i : Nat} (hC : q_Cx p l R s m args c D cA ad A X cc own nL) (hE : E.2.2.1 = nL) (ha : q_at2 none E.1 pc = some (.invokespecial i, au, sw)) (hc : q_chk cc o Rf Rl pc (.invokespecial i) au sw = true) (hk : ∀ (pc : Nat) (L : q_L) (st : List Value) (h : q_S), k pc L st h = some r → q_Psi p l e R s m args below meth c cells slots Q D cA ad A nL pc L st h) (hr : q_body E X O k pc L st h = some r) (ho : own = q_cs o) (hRf : Rf = R.frames) (hRl : Rl = R.locals) (hcs : cells ≤ R.cells ∧ slots ≤ R.slots) (hO : ∀ (y : Nat) (h : q_S) (as : List Value) (r' : q_S × Option Value), O y h as = some r' → q_Met l D cA ad y h as r') : q_Psi p l e R s m args below meth c cells slots Q D cA ad A nL pc L st h := by
  simp only [q_body, ha] at hr
  simp only [q_chk, Bool.and_eq_true] at hc
  obtain ⟨hd, hc⟩ := hc
  have hd := q_dec_of hd
  split at hc
  · simp only [Bool.and_eq_true, decide_eq_true_eq] at hc
    obtain ⟨h1, h2⟩ := hc
    have hw := alLI o _ h1
    rw [← ho] at hw
    obtain ⟨hy, hR⟩ := q_rmb_of hRf hRl h2
    simp only at hr
    obtain ⟨xs, t, hst, hn, hq⟩ := q_pop_inv hr
    subst hst
    replace hr := hq
    clear hq
    obtain ⟨b, t, hst, hq⟩ := q_r_inv hr
    subst hst
    replace hr := hq
    clear hq
    obtain ⟨h3, hr⟩ := q_b_inv hr
    obtain ⟨h3, h4⟩ := (Bool.and_eq_true _ _).mp h3
    obtain ⟨r2, e1, hr⟩ := q_cl_inv hr
    rw [List.append_nil] at e1
    obtain ⟨c1, c2, c3⟩ := q_sub_obj h3
    obtain ⟨T, N, hT⟩ := q_cn_cs c3
    exact qs_callP hC hd (q_okY_all _ hy) c2 hT hw hR (hO _ _ _ _ e1) hn (Nat.le_of_ble_eq_true h4) hcs (hk _ _ _ _ hr)
  · cases hc
theorem qb_invokevirtual {i : Nat} (hC : q_Cx p l R s m args c D cA ad A X cc own nL) (hE : E.2.2.1 = nL) (ha : q_at2 none E.1 pc = some (.invokevirtual i, au, sw)) (hc : q_chk cc o Rf Rl pc (.invokevirtual i) au sw = true) (hk : ∀ (pc : Nat) (L : q_L) (st : List Value) (h : q_S), k pc L st h = some r → q_Psi p l e R s m args below meth c cells slots Q D cA ad A nL pc L st h) (hr : q_body E X O k pc L st h = some r) (ho : own = q_cs o) (hRf : Rf = R.frames) (hRl : Rl = R.locals) (hcs : cells ≤ R.cells ∧ slots ≤ R.slots) (hO : ∀ (y : Nat) (h : q_S) (as : List Value) (r' : q_S × Option Value), O y h as = some r' → q_Met l D cA ad y h as r') : q_Psi p l e R s m args below meth c cells slots Q D cA ad A nL pc L st h := by
  simp only [q_body, ha] at hr
  simp only [q_chk, Bool.and_eq_true] at hc
  obtain ⟨hd, hc⟩ := hc
  have hd := q_dec_of hd
  split at hc
  · simp only [Bool.and_eq_true, decide_eq_true_eq] at hc
    obtain ⟨h1, h2⟩ := hc
    have hw := alLV o _ h1
    rw [← ho] at hw
    obtain ⟨hy, hR⟩ := q_rmb_of hRf hRl h2
    simp only at hr
    obtain ⟨xs, t, hst, hn, hq⟩ := q_pop_inv hr
    subst hst
    replace hr := hq
    clear hq
    obtain ⟨b, t, hst, hq⟩ := q_r_inv hr
    subst hst
    replace hr := hq
    clear hq
    obtain ⟨h3, hr⟩ := q_b_inv hr
    obtain ⟨h3, h4⟩ := (Bool.and_eq_true _ _).mp h3
    obtain ⟨r2, e1, hr⟩ := q_cl_inv hr
    rw [List.append_nil] at e1
    have e3 := Nat.eq_of_beq_eq_true h3
    have hD : ∀ w, w < 15 → ∀ e ∈ (q_LV[w]?).getD [], e.2.1 < 13 := by decide +kernel
    have ho15 : o < 15 := by
      rcases Nat.lt_or_ge o 15 with q | q
      · exact q
      · rw [List.getElem?_eq_none (by simp [q_LV]; omega)] at h1
        simp at h1
    have hc13 : q_cls b < 13 := by rw [e3]; exact hD o ho15 _ h1
    obtain ⟨c1, c2⟩ := q_cls_obj (a := b) (by omega)
    obtain ⟨T, N, hT⟩ := q_cn_cs hc13
    simp only at hw
    rw [← e3] at hw
    exact qs_callV hC hd (q_okY_all _ hy) c2 hT (q_ci_all _ hc13) hw hR (hO _ _ _ _ e1) hn (Nat.le_of_ble_eq_true h4) hcs (hk _ _ _ _ hr)
  · simp only at hr
    obtain ⟨xs, t, hst, hn, hq⟩ := q_pop_inv hr
    subst hst
    replace hr := hq
    clear hq
    obtain ⟨b, t, hst, hq⟩ := q_r_inv hr
    subst hst
    replace hr := hq
    clear hq
    split at hr
    · rename_i y hv
      obtain ⟨h3, hr⟩ := q_b_inv hr
      obtain ⟨h3, h4⟩ := (Bool.and_eq_true _ _).mp h3
      obtain ⟨r2, e1, hr⟩ := q_cl_inv hr
      rw [List.append_nil] at e1
      obtain ⟨c1, c2, c3⟩ := q_sub_obj h3
      obtain ⟨T, N, hT⟩ := q_cn_cs c3
      have h5 := List.all_eq_true.mp hc (q_cls b) (List.mem_range.mpr c3)
      rw [h3, hv] at h5
      simp only [Bool.not_true, Bool.false_or, Bool.and_eq_true, decide_eq_true_eq] at h5
      have hw := alLV o _ h5.1
      rw [← ho] at hw
      obtain ⟨hy, hR⟩ := q_rmb_of hRf hRl h5.2
      exact qs_callV hC hd (q_okY_all _ hy) c2 hT (q_ci_all _ c3) hw hR (hO _ _ _ _ e1) hn (Nat.le_of_ble_eq_true h4) hcs (hk _ _ _ _ hr)
    · cases hr
  · cases hc
theorem qb_ireturn  (hC : q_Cx p l R s m args c D cA ad A X cc own nL) (hE : E.2.2.1 = nL) (ha : q_at2 none E.1 pc = some (.ireturn, au, sw)) (hc : q_chk cc o Rf Rl pc (.ireturn) au sw = true) (hk : ∀ (pc : Nat) (L : q_L) (st : List Value) (h : q_S), k pc L st h = some r → q_Psi p l e R s m args below meth c cells slots Q D cA ad A nL pc L st h) (hr : q_body E X O k pc L st h = some r) (hret : ∀ (pc : Nat) (st : List Value) (H : Heap) (locs : List Loc) (ls : Array Slot), q_rtd cc pc E.2.1 r.2 st → va_P D q_cn (q_w ad cA r.1) H → va_S A s.heap H locs → W p l e R s m args below meth c H locs cells slots Q (F0 m pc ls (st.map (q_cv ad)))) : q_Psi p l e R s m args below meth c cells slots Q D cA ad A nL pc L st h := by
  simp only [q_body, ha] at hr
  have hd := q_dec_of hc
  split at hr
  · rename_i e1
    cases hr
    exact fun H locs ls hP hS hl => hret pc _ H locs ls (Or.inl ⟨e1, hd, _, rfl, rfl⟩) hP hS
  · rename_i e1
    split at hr
    · rename_i hx
      cases hr
      exact fun H locs ls hP hS hl => hret pc _ H locs ls (Or.inr (Or.inl ⟨e1, hd, _, rfl, rfl, hx⟩)) hP hS
    · cases hr
  · cases hr
theorem qb_lreturn  (hC : q_Cx p l R s m args c D cA ad A X cc own nL) (hE : E.2.2.1 = nL) (ha : q_at2 none E.1 pc = some (.lreturn, au, sw)) (hc : q_chk cc o Rf Rl pc (.lreturn) au sw = true) (hk : ∀ (pc : Nat) (L : q_L) (st : List Value) (h : q_S), k pc L st h = some r → q_Psi p l e R s m args below meth c cells slots Q D cA ad A nL pc L st h) (hr : q_body E X O k pc L st h = some r) (hret : ∀ (pc : Nat) (st : List Value) (H : Heap) (locs : List Loc) (ls : Array Slot), q_rtd cc pc E.2.1 r.2 st → va_P D q_cn (q_w ad cA r.1) H → va_S A s.heap H locs → W p l e R s m args below meth c H locs cells slots Q (F0 m pc ls (st.map (q_cv ad)))) : q_Psi p l e R s m args below meth c cells slots Q D cA ad A nL pc L st h := by
  simp only [q_body, ha] at hr
  have hd := q_dec_of hc
  split at hr
  · rename_i e1
    cases hr
    exact fun H locs ls hP hS hl => hret pc _ H locs ls (Or.inr (Or.inr (Or.inl ⟨e1, hd, _, rfl, rfl⟩))) hP hS
  · cases hr
theorem qb_return_  (hC : q_Cx p l R s m args c D cA ad A X cc own nL) (hE : E.2.2.1 = nL) (ha : q_at2 none E.1 pc = some (.return_, au, sw)) (hc : q_chk cc o Rf Rl pc (.return_) au sw = true) (hk : ∀ (pc : Nat) (L : q_L) (st : List Value) (h : q_S), k pc L st h = some r → q_Psi p l e R s m args below meth c cells slots Q D cA ad A nL pc L st h) (hr : q_body E X O k pc L st h = some r) (hret : ∀ (pc : Nat) (st : List Value) (H : Heap) (locs : List Loc) (ls : Array Slot), q_rtd cc pc E.2.1 r.2 st → va_P D q_cn (q_w ad cA r.1) H → va_S A s.heap H locs → W p l e R s m args below meth c H locs cells slots Q (F0 m pc ls (st.map (q_cv ad)))) : q_Psi p l e R s m args below meth c cells slots Q D cA ad A nL pc L st h := by
  simp only [q_body, ha] at hr
  have hd := q_dec_of hc
  split at hr
  · rename_i e1
    cases hr
    exact fun H locs ls hP hS hl => hret pc _ H locs ls (Or.inr (Or.inr (Or.inr ⟨e1, hd, rfl, rfl⟩))) hP hS
  · cases hr
theorem q_body_ok (hC : q_Cx p l R s m args c D cA ad A X cc own nL) (hE : E.2.2.1 = nL) (hM : q_chkM cc o Rf Rl 0 E.1 = true) (ho : own = q_cs o) (hRf : Rf = R.frames) (hRl : Rl = R.locals) (hcs : cells ≤ R.cells ∧ slots ≤ R.slots) (hO : ∀ (y : Nat) (h : q_S) (as : List Value) (r' : q_S × Option Value), O y h as = some r' → q_Met l D cA ad y h as r') (hret : ∀ (pc : Nat) (st : List Value) (H : Heap) (locs : List Loc) (ls : Array Slot), q_rtd cc pc E.2.1 r.2 st → va_P D q_cn (q_w ad cA r.1) H → va_S A s.heap H locs → W p l e R s m args below meth c H locs cells slots Q (F0 m pc ls (st.map (q_cv ad)))) (hk : ∀ (pc : Nat) (L : q_L) (st : List Value) (h : q_S), k pc L st h = some r → q_Psi p l e R s m args below meth c cells slots Q D cA ad A nL pc L st h) (hr : q_body E X O k pc L st h = some r) : q_Psi p l e R s m args below meth c cells slots Q D cA ad A nL pc L st h := by
  cases ha : q_at2 none E.1 pc with
  | none => simp [q_body, ha] at hr
  | some x =>
    obtain ⟨i, au, sw⟩ := x
    have hc := q_chk_at hM ha
    cases i with
    | iadd => exact qb_iadd hC hE ha hc hk hr
    | isub => exact qb_isub hC hE ha hc hk hr
    | imul => exact qb_imul hC hE ha hc hk hr
    | iand => exact qb_iand hC hE ha hc hk hr
    | ior => exact qb_ior hC hE ha hc hk hr
    | ixor => exact qb_ixor hC hE ha hc hk hr
    | ishl => exact qb_ishl hC hE ha hc hk hr
    | ishr => exact qb_ishr hC hE ha hc hk hr
    | ladd => exact qb_ladd hC hE ha hc hk hr
    | lsub => exact qb_lsub hC hE ha hc hk hr
    | lmul => exact qb_lmul hC hE ha hc hk hr
    | land => exact qb_land hC hE ha hc hk hr
    | lor => exact qb_lor hC hE ha hc hk hr
    | lxor => exact qb_lxor hC hE ha hc hk hr
    | lcmp => exact qb_lcmp hC hE ha hc hk hr
    | lshl => exact qb_lshl hC hE ha hc hk hr
    | lshr => exact qb_lshr hC hE ha hc hk hr
    | idiv => exact qb_idiv hC hE ha hc hk hr
    | irem => exact qb_irem hC hE ha hc hk hr
    | ldiv => exact qb_ldiv hC hE ha hc hk hr
    | lrem => exact qb_lrem hC hE ha hc hk hr
    | ineg => exact qb_ineg hC hE ha hc hk hr
    | i2l => exact qb_i2l hC hE ha hc hk hr
    | i2b => exact qb_i2b hC hE ha hc hk hr
    | l2i => exact qb_l2i hC hE ha hc hk hr
    | dup => exact qb_dup hC hE ha hc hk hr
    | pop => exact qb_pop hC hE ha hc hk hr
    | dup_x1 => exact qb_dup_x1 hC hE ha hc hk hr
    | dup2 => exact qb_dup2 hC hE ha hc hk hr
    | iload_n => exact qb_iload_n hC hE ha hc hk hr
    | iload => exact qb_iload hC hE ha hc hk hr
    | lload_n => exact qb_lload_n hC hE ha hc hk hr
    | lload => exact qb_lload hC hE ha hc hk hr
    | aload_n => exact qb_aload_n hC hE ha hc hk hr
    | aload => exact qb_aload hC hE ha hc hk hr
    | istore_n => exact qb_istore_n hC hE ha hc hk hr
    | istore => exact qb_istore hC hE ha hc hk hr
    | lstore_n => exact qb_lstore_n hC hE ha hc hk hr
    | lstore => exact qb_lstore hC hE ha hc hk hr
    | astore_n => exact qb_astore_n hC hE ha hc hk hr
    | astore => exact qb_astore hC hE ha hc hk hr
    | iconst => exact qb_iconst hC hE ha hc hk hr
    | bipush => exact qb_bipush hC hE ha hc hk hr
    | sipush => exact qb_sipush hC hE ha hc hk hr
    | iinc => exact qb_iinc hC hE ha hc hk hr
    | lconst => exact qb_lconst hC hE ha hc hk hr
    | goto => exact qb_goto hC hE ha hc hk hr
    | ifCond => exact qb_ifCond hC hE ha hc hk hr
    | if_icmp => exact qb_if_icmp hC hE ha hc hk hr
    | ifnull => exact qb_ifnull hC hE ha hc hk hr
    | tableswitch => exact qb_tableswitch hC hE ha hc hk hr
    | lookupswitch => exact qb_lookupswitch hC hE ha hc hk hr
    | iaload => exact qb_iaload hC hE ha hc hk hr
    | laload => exact qb_laload hC hE ha hc hk hr
    | aaload => exact qb_aaload hC hE ha hc hk hr
    | iastore => exact qb_iastore hC hE ha hc hk hr
    | lastore => exact qb_lastore hC hE ha hc hk hr
    | arraylength => exact qb_arraylength hC hE ha hc hk hr
    | ldc2_w => exact qb_ldc2_w hC hE ha hc hk hr ho
    | getstatic => exact qb_getstatic hC hE ha hc hk hr ho
    | getfield => exact qb_getfield hC hE ha hc hk hr ho
    | putfield => exact qb_putfield hC hE ha hc hk hr ho
    | invokestatic => exact qb_invokestatic hC hE ha hc hk hr ho hRf hRl hcs hO
    | invokespecial => exact qb_invokespecial hC hE ha hc hk hr ho hRf hRl hcs hO
    | invokevirtual => exact qb_invokevirtual hC hE ha hc hk hr ho hRf hRl hcs hO
    | ireturn => exact qb_ireturn hC hE ha hc hk hr hret
    | lreturn => exact qb_lreturn hC hE ha hc hk hr hret
    | return_ => exact qb_return_ hC hE ha hc hk hr hret
    | _ => cases hc
theorem q_ex_ok {K : q_K} (hC : q_Cx p l R s m args c D cA ad A X cc own nL) (hE : E.2.2.1 = nL) (hM : q_chkM cc o Rf Rl 0 E.1 = true) (ho : own = q_cs o) (hRf : Rf = R.frames) (hRl : Rl = R.locals) (hcs : cells ≤ R.cells ∧ slots ≤ R.slots) (hO : ∀ (y : Nat) (h : q_S) (as : List Value) (r' : q_S × Option Value), O y h as = some r' → q_Met l D cA ad y h as r') (hret : ∀ (pc : Nat) (st : List Value) (H : Heap) (locs : List Loc) (ls : Array Slot), q_rtd cc pc E.2.1 r.2 st → va_P D q_cn (q_w ad cA r.1) H → va_S A s.heap H locs → W p l e R s m args below meth c H locs cells slots Q (F0 m pc ls (st.map (q_cv ad)))) (hK : ∀ (pc : Nat) (L : q_L) (st : List Value) (h : q_S), K pc L st h = some r → q_Psi p l e R s m args below meth c cells slots Q D cA ad A nL pc L st h) : ∀ (n pc : Nat) (L : q_L) (st : List Value) (h : q_S), q_ex E X O K n pc L st h = some r → q_Psi p l e R s m args below meth c cells slots Q D cA ad A nL pc L st h := by
  intro n
  induction n with
  | zero =>
    intro pc L st h hr
    cases hr
  | succ n ih =>
    intro pc L st h hr
    unfold q_ex at hr
    split at hr
    · intro H locs ls hP hS hl
      exact hK _ _ _ _ hr H locs ls hP hS (q_nrm_ls hl)
    · exact q_body_ok hC hE hM ho hRf hRl hcs hO hret ih hr
theorem q_go_ok (hC : q_Cx p l R s m args c D cA ad A X cc own nL) (hE : E.2.2.1 = nL) (hM : q_chkM cc o Rf Rl 0 E.1 = true) (ho : own = q_cs o) (hRf : Rf = R.frames) (hRl : Rl = R.locals) (hcs : cells ≤ R.cells ∧ slots ≤ R.slots) (hO : ∀ (y : Nat) (h : q_S) (as : List Value) (r' : q_S × Option Value), O y h as = some r' → q_Met l D cA ad y h as r') (hret : ∀ (pc : Nat) (st : List Value) (H : Heap) (locs : List Loc) (ls : Array Slot), q_rtd cc pc E.2.1 r.2 st → va_P D q_cn (q_w ad cA r.1) H → va_S A s.heap H locs → W p l e R s m args below meth c H locs cells slots Q (F0 m pc ls (st.map (q_cv ad)))) : ∀ (n pc : Nat) (L : q_L) (st : List Value) (h : q_S), q_go E X O n pc L st h = some r → q_Psi p l e R s m args below meth c cells slots Q D cA ad A nL pc L st h := by
  intro n
  induction n with
  | zero =>
    intro pc L st h hr
    cases hr
  | succ n ih =>
    intro pc L st h hr
    unfold q_go at hr
    exact q_body_ok hC hE hM ho hRf hRl hcs hO hret (q_ex_ok hC hE hM ho hRf hRl hcs hO hret ih 500) hr
end QB
