/-! ===== a method changes only what it can reach ===== -/
def qz_v (Z : Nat → Prop) (v : Value) : Prop := ∀ a, v = .ref a → Z a
/-- the references at hand lie in Z; so does the one that moves, if it may be used -/
def qz_s (Z : Nat → Prop) (B : Prop) (L : q_L) (st : List Value) (h : q_S) : Prop := (∀ q ∈ L, qz_v Z q.2) ∧ (∀ v ∈ st, qz_v Z v) ∧ (B → qz_v Z (q_rv h.2.2))
def qz_fr (Z : Nat → Prop) (B : Prop) (h h2 : q_S) : Prop := (∀ a, ¬ Z a → h2.1 a = h.1 a ∧ h2.2.1 a = h.2.1 a) ∧ (¬ B → h2.2.2 = h.2.2) ∧ (B → qz_v Z (q_rv h.2.2) → qz_v Z (q_rv h2.2.2))
def qz_H (Z : Nat → Prop) (B : Prop) : Prop := (∀ a n, Z a → q_cls a < 13 → n < q_nf (q_cls a) → (q_ft (q_cls a) n = 1 → Z (q_rf a n)) ∧ (q_ft (q_cls a) n = 2 → B)) ∧ (∀ a j, Z a → q_ty a = 2 → j < q_ln a → Z (q_rf a j)) ∧ Z 102 ∧ Z 103 ∧ Z 104
theorem qz_rf (Z : Nat → Prop) (B : Prop) (h : q_S) : qz_fr Z B h h := ⟨fun _ _ => ⟨rfl, rfl⟩, fun _ => rfl, fun _ q => q⟩
theorem qz_tr {Z : Nat → Prop} {B : Prop} {a b c : q_S} (h1 : qz_fr Z B a b) (h2 : qz_fr Z B b c) : qz_fr Z B a c := ⟨fun x hx => ⟨(h2.1 x hx).1.trans (h1.1 x hx).1, (h2.1 x hx).2.trans (h1.1 x hx).2⟩, fun q => (h2.2.1 q).trans (h1.2.1 q), fun q p => h2.2.2 q (h1.2.2 q p)⟩
theorem qz_si {Z : Nat → Prop} {B : Prop} {h : q_S} {a i : Nat} {x : Int32} (ha : Z a) : qz_fr Z B h (q_si h a i x) := by
  refine ⟨fun b hb => ⟨?_, rfl⟩, fun _ => rfl, fun _ q => q⟩
  funext j
  have : b ≠ a := fun e => hb (e ▸ ha)
  simp [q_si, this]
theorem qz_sl {Z : Nat → Prop} {B : Prop} {h : q_S} {a i : Nat} {x : Int64} (ha : Z a) : qz_fr Z B h (q_sl h a i x) := by
  refine ⟨fun b hb => ⟨rfl, ?_⟩, fun _ => rfl, fun _ q => q⟩
  funext j
  have : b ≠ a := fun e => hb (e ▸ ha)
  simp [q_sl, this]
theorem qz_cpi {Z : Nat → Prop} {B : Prop} {h : q_S} {a sp b dp n : Nat} (hb : Z b) : qz_fr Z B h (q_cpi h a sp b dp n) := by
  refine ⟨fun c hc => ⟨?_, rfl⟩, fun _ => rfl, fun _ q => q⟩
  funext j
  have : c ≠ b := fun e => hc (e ▸ hb)
  simp [q_cpi, this]
theorem qz_cpl {Z : Nat → Prop} {B : Prop} {h : q_S} {a sp b dp n : Nat} (hb : Z b) : qz_fr Z B h (q_cpl h a sp b dp n) := by
  refine ⟨fun c hc => ⟨rfl, ?_⟩, fun _ => rfl, fun _ q => q⟩
  funext j
  have : c ≠ b := fun e => hc (e ▸ hb)
  simp [q_cpl, this]
theorem qz_int {Z : Nat → Prop} (x : Int32) : qz_v Z (.int x) := fun _ h => by cases h
theorem qz_long {Z : Nat → Prop} (x : Int64) : qz_v Z (.long x) := fun _ h => by cases h
theorem qz_ref {Z : Nat → Prop} {a : Nat} (h : Z a) : qz_v Z (.ref a) := fun b e => by cases e; exact h
theorem qz_of {Z : Nat → Prop} {a : Nat} (h : qz_v Z (.ref a)) : Z a := h a rfl
theorem qz_push {Z : Nat → Prop} {v : Value} {st : List Value} (h : qz_v Z v) (hs : ∀ v ∈ st, qz_v Z v) : ∀ w ∈ v :: st, qz_v Z w := by
  intro w hw
  rcases List.mem_cons.mp hw with e | e
  · rw [e]; exact h
  · exact hs w e
theorem qz_hd {Z : Nat → Prop} {v : Value} {st : List Value} (hs : ∀ w ∈ v :: st, qz_v Z w) : qz_v Z v := hs v List.mem_cons_self
theorem qz_tl {Z : Nat → Prop} {v : Value} {st : List Value} (hs : ∀ w ∈ v :: st, qz_v Z w) : ∀ w ∈ st, qz_v Z w := fun w hw => hs w (List.mem_cons_of_mem _ hw)
theorem qz_st1 {Z : Nat → Prop} {L : q_L} {i : Nat} {v : Value} (h : qz_v Z v) (hL : ∀ q ∈ L, qz_v Z q.2) : ∀ q ∈ q_st1 L i v, qz_v Z q.2 := by
  intro q hq
  rcases List.mem_cons.mp hq with e | e
  · rw [e]; exact h
  · exact hL q (List.mem_filter.mp e).1
theorem qz_st2 {Z : Nat → Prop} {L : q_L} {i : Nat} {v : Value} (h : qz_v Z v) (hL : ∀ q ∈ L, qz_v Z q.2) : ∀ q ∈ q_st2 L i v, qz_v Z q.2 := by
  intro q hq
  rcases List.mem_cons.mp hq with e | e
  · rw [e]; exact h
  · exact hL q (List.mem_filter.mp e).1
theorem qz_nrm {Z : Nat → Prop} {L : q_L} {ks : List Nat} (hL : ∀ q ∈ L, qz_v Z q.2) : ∀ q ∈ q_nrm ks L, qz_v Z q.2 := fun q hq => hL q (q_nrm_mem hq)
theorem qz_mv {Z : Nat → Prop} {B : Prop} {L : q_L} {st : List Value} {h h2 : q_S} (hz : qz_s Z B L st h) (hf : qz_fr Z B h h2) : qz_s Z B L st h2 := ⟨hz.1, hz.2.1, fun b => hf.2.2 b (hz.2.2 b)⟩
section QZ
variable {Z : Nat → Prop} {B : Prop} {E : q_E} {X : q_X} {O : q_O} {k : q_K} {pc : Nat} {L : q_L} {st : List Value} {h : q_S} {r : q_S × Option Value} {au : List Nat} {sw : List (Int32 × Nat)} {cc : ByteArray} {o Rf Rl : Nat}
theorem qz_b_iadd  (hZ : qz_H Z B) (ha : q_at2 none E.1 pc = some (.iadd, au, sw)) (hc : q_chk cc o Rf Rl pc (.iadd) au sw = true) (hk : ∀ (pc : Nat) (L : q_L) (st : List Value) (h : q_S), qz_s Z B L st h → k pc L st h = some r → qz_fr Z B h r.1) (hz : qz_s Z B L st h) (hr : q_body E X O k pc L st h = some r)  : qz_fr Z B h r.1 := by
  simp only [q_body, ha] at hr
  obtain ⟨zL, zS, zB⟩ := hz
  obtain ⟨x, y, t, hst, hq⟩ := q_ii_inv hr
  subst hst
  exact hk _ _ _ _ ⟨zL, qz_push (qz_int _) (qz_tl (qz_tl zS)), zB⟩ hq
theorem qz_b_isub  (hZ : qz_H Z B) (ha : q_at2 none E.1 pc = some (.isub, au, sw)) (hc : q_chk cc o Rf Rl pc (.isub) au sw = true) (hk : ∀ (pc : Nat) (L : q_L) (st : List Value) (h : q_S), qz_s Z B L st h → k pc L st h = some r → qz_fr Z B h r.1) (hz : qz_s Z B L st h) (hr : q_body E X O k pc L st h = some r)  : qz_fr Z B h r.1 := by
  simp only [q_body, ha] at hr
  obtain ⟨zL, zS, zB⟩ := hz
  obtain ⟨x, y, t, hst, hq⟩ := q_ii_inv hr
  subst hst
  exact hk _ _ _ _ ⟨zL, qz_push (qz_int _) (qz_tl (qz_tl zS)), zB⟩ hq
theorem qz_b_imul  (hZ : qz_H Z B) (ha : q_at2 none E.1 pc = some (.imul, au, sw)) (hc : q_chk cc o Rf Rl pc (.imul) au sw = true) (hk : ∀ (pc : Nat) (L : q_L) (st : List Value) (h : q_S), qz_s Z B L st h → k pc L st h = some r → qz_fr Z B h r.1) (hz : qz_s Z B L st h) (hr : q_body E X O k pc L st h = some r)  : qz_fr Z B h r.1 := by
  simp only [q_body, ha] at hr
  obtain ⟨zL, zS, zB⟩ := hz
  obtain ⟨x, y, t, hst, hq⟩ := q_ii_inv hr
  subst hst
  exact hk _ _ _ _ ⟨zL, qz_push (qz_int _) (qz_tl (qz_tl zS)), zB⟩ hq
theorem qz_b_iand  (hZ : qz_H Z B) (ha : q_at2 none E.1 pc = some (.iand, au, sw)) (hc : q_chk cc o Rf Rl pc (.iand) au sw = true) (hk : ∀ (pc : Nat) (L : q_L) (st : List Value) (h : q_S), qz_s Z B L st h → k pc L st h = some r → qz_fr Z B h r.1) (hz : qz_s Z B L st h) (hr : q_body E X O k pc L st h = some r)  : qz_fr Z B h r.1 := by
  simp only [q_body, ha] at hr
  obtain ⟨zL, zS, zB⟩ := hz
  obtain ⟨x, y, t, hst, hq⟩ := q_ii_inv hr
  subst hst
  exact hk _ _ _ _ ⟨zL, qz_push (qz_int _) (qz_tl (qz_tl zS)), zB⟩ hq
theorem qz_b_ior  (hZ : qz_H Z B) (ha : q_at2 none E.1 pc = some (.ior, au, sw)) (hc : q_chk cc o Rf Rl pc (.ior) au sw = true) (hk : ∀ (pc : Nat) (L : q_L) (st : List Value) (h : q_S), qz_s Z B L st h → k pc L st h = some r → qz_fr Z B h r.1) (hz : qz_s Z B L st h) (hr : q_body E X O k pc L st h = some r)  : qz_fr Z B h r.1 := by
  simp only [q_body, ha] at hr
  obtain ⟨zL, zS, zB⟩ := hz
  obtain ⟨x, y, t, hst, hq⟩ := q_ii_inv hr
  subst hst
  exact hk _ _ _ _ ⟨zL, qz_push (qz_int _) (qz_tl (qz_tl zS)), zB⟩ hq
theorem qz_b_ixor  (hZ : qz_H Z B) (ha : q_at2 none E.1 pc = some (.ixor, au, sw)) (hc : q_chk cc o Rf Rl pc (.ixor) au sw = true) (hk : ∀ (pc : Nat) (L : q_L) (st : List Value) (h : q_S), qz_s Z B L st h → k pc L st h = some r → qz_fr Z B h r.1) (hz : qz_s Z B L st h) (hr : q_body E X O k pc L st h = some r)  : qz_fr Z B h r.1 := by
  simp only [q_body, ha] at hr
  obtain ⟨zL, zS, zB⟩ := hz
  obtain ⟨x, y, t, hst, hq⟩ := q_ii_inv hr
  subst hst
  exact hk _ _ _ _ ⟨zL, qz_push (qz_int _) (qz_tl (qz_tl zS)), zB⟩ hq
theorem qz_b_ishl  (hZ : qz_H Z B) (ha : q_at2 none E.1 pc = some (.ishl, au, sw)) (hc : q_chk cc o Rf Rl pc (.ishl) au sw = true) (hk : ∀ (pc : Nat) (L : q_L) (st : List Value) (h : q_S), qz_s Z B L st h → k pc L st h = some r → qz_fr Z B h r.1) (hz : qz_s Z B L st h) (hr : q_body E X O k pc L st h = some r)  : qz_fr Z B h r.1 := by
  simp only [q_body, ha] at hr
  obtain ⟨zL, zS, zB⟩ := hz
  obtain ⟨x, y, t, hst, hq⟩ := q_ii_inv hr
  subst hst
  exact hk _ _ _ _ ⟨zL, qz_push (qz_int _) (qz_tl (qz_tl zS)), zB⟩ hq
theorem qz_b_ishr  (hZ : qz_H Z B) (ha : q_at2 none E.1 pc = some (.ishr, au, sw)) (hc : q_chk cc o Rf Rl pc (.ishr) au sw = true) (hk : ∀ (pc : Nat) (L : q_L) (st : List Value) (h : q_S), qz_s Z B L st h → k pc L st h = some r → qz_fr Z B h r.1) (hz : qz_s Z B L st h) (hr : q_body E X O k pc L st h = some r)  : qz_fr Z B h r.1 := by
  simp only [q_body, ha] at hr
  obtain ⟨zL, zS, zB⟩ := hz
  obtain ⟨x, y, t, hst, hq⟩ := q_ii_inv hr
  subst hst
  exact hk _ _ _ _ ⟨zL, qz_push (qz_int _) (qz_tl (qz_tl zS)), zB⟩ hq
theorem qz_b_ladd  (hZ : qz_H Z B) (ha : q_at2 none E.1 pc = some (.ladd, au, sw)) (hc : q_chk cc o Rf Rl pc (.ladd) au sw = true) (hk : ∀ (pc : Nat) (L : q_L) (st : List Value) (h : q_S), qz_s Z B L st h → k pc L st h = some r → qz_fr Z B h r.1) (hz : qz_s Z B L st h) (hr : q_body E X O k pc L st h = some r)  : qz_fr Z B h r.1 := by
  simp only [q_body, ha] at hr
  obtain ⟨zL, zS, zB⟩ := hz
  obtain ⟨x, y, t, hst, hq⟩ := q_ll_inv hr
  subst hst
  exact hk _ _ _ _ ⟨zL, qz_push (qz_long _) (qz_tl (qz_tl zS)), zB⟩ hq
theorem qz_b_lsub  (hZ : qz_H Z B) (ha : q_at2 none E.1 pc = some (.lsub, au, sw)) (hc : q_chk cc o Rf Rl pc (.lsub) au sw = true) (hk : ∀ (pc : Nat) (L : q_L) (st : List Value) (h : q_S), qz_s Z B L st h → k pc L st h = some r → qz_fr Z B h r.1) (hz : qz_s Z B L st h) (hr : q_body E X O k pc L st h = some r)  : qz_fr Z B h r.1 := by
  simp only [q_body, ha] at hr
  obtain ⟨zL, zS, zB⟩ := hz
  obtain ⟨x, y, t, hst, hq⟩ := q_ll_inv hr
  subst hst
  exact hk _ _ _ _ ⟨zL, qz_push (qz_long _) (qz_tl (qz_tl zS)), zB⟩ hq
theorem qz_b_lmul  (hZ : qz_H Z B) (ha : q_at2 none E.1 pc = some (.lmul, au, sw)) (hc : q_chk cc o Rf Rl pc (.lmul) au sw = true) (hk : ∀ (pc : Nat) (L : q_L) (st : List Value) (h : q_S), qz_s Z B L st h → k pc L st h = some r → qz_fr Z B h r.1) (hz : qz_s Z B L st h) (hr : q_body E X O k pc L st h = some r)  : qz_fr Z B h r.1 := by
  simp only [q_body, ha] at hr
  obtain ⟨zL, zS, zB⟩ := hz
  obtain ⟨x, y, t, hst, hq⟩ := q_ll_inv hr
  subst hst
  exact hk _ _ _ _ ⟨zL, qz_push (qz_long _) (qz_tl (qz_tl zS)), zB⟩ hq
theorem qz_b_land  (hZ : qz_H Z B) (ha : q_at2 none E.1 pc = some (.land, au, sw)) (hc : q_chk cc o Rf Rl pc (.land) au sw = true) (hk : ∀ (pc : Nat) (L : q_L) (st : List Value) (h : q_S), qz_s Z B L st h → k pc L st h = some r → qz_fr Z B h r.1) (hz : qz_s Z B L st h) (hr : q_body E X O k pc L st h = some r)  : qz_fr Z B h r.1 := by
  simp only [q_body, ha] at hr
  obtain ⟨zL, zS, zB⟩ := hz
  obtain ⟨x, y, t, hst, hq⟩ := q_ll_inv hr
  subst hst
  exact hk _ _ _ _ ⟨zL, qz_push (qz_long _) (qz_tl (qz_tl zS)), zB⟩ hq
theorem qz_b_lor  (hZ : qz_H Z B) (ha : q_at2 none E.1 pc = some (.lor, au, sw)) (hc : q_chk cc o Rf Rl pc (.lor) au sw = true) (hk : ∀ (pc : Nat) (L : q_L) (st : List Value) (h : q_S), qz_s Z B L st h → k pc L st h = some r → qz_fr Z B h r.1) (hz : qz_s Z B L st h) (hr : q_body E X O k pc L st h = some r)  : qz_fr Z B h r.1 := by
  simp only [q_body, ha] at hr
  obtain ⟨zL, zS, zB⟩ := hz
  obtain ⟨x, y, t, hst, hq⟩ := q_ll_inv hr
  subst hst
  exact hk _ _ _ _ ⟨zL, qz_push (qz_long _) (qz_tl (qz_tl zS)), zB⟩ hq
theorem qz_b_lxor  (hZ : qz_H Z B) (ha : q_at2 none E.1 pc = some (.lxor, au, sw)) (hc : q_chk cc o Rf Rl pc (.lxor) au sw = true) (hk : ∀ (pc : Nat) (L : q_L) (st : List Value) (h : q_S), qz_s Z B L st h → k pc L st h = some r → qz_fr Z B h r.1) (hz : qz_s Z B L st h) (hr : q_body E X O k pc L st h = some r)  : qz_fr Z B h r.1 := by
  simp only [q_body, ha] at hr
  obtain ⟨zL, zS, zB⟩ := hz
  obtain ⟨x, y, t, hst, hq⟩ := q_ll_inv hr
  subst hst
  exact hk _ _ _ _ ⟨zL, qz_push (qz_long _) (qz_tl (qz_tl zS)), zB⟩ hq
theorem qz_b_lcmp  (hZ : qz_H Z B) (ha : q_at2 none E.1 pc = some (.lcmp, au, sw)) (hc : q_chk cc o Rf Rl pc (.lcmp) au sw = true) (hk : ∀ (pc : Nat) (L : q_L) (st : List Value) (h : q_S), qz_s Z B L st h → k pc L st h = some r → qz_fr Z B h r.1) (hz : qz_s Z B L st h) (hr : q_body E X O k pc L st h = some r)  : qz_fr Z B h r.1 := by
  simp only [q_body, ha] at hr
  obtain ⟨zL, zS, zB⟩ := hz
  obtain ⟨x, y, t, hst, hq⟩ := q_ll_inv hr
  subst hst
  exact hk _ _ _ _ ⟨zL, qz_push (qz_int _) (qz_tl (qz_tl zS)), zB⟩ hq
theorem qz_b_lshl  (hZ : qz_H Z B) (ha : q_at2 none E.1 pc = some (.lshl, au, sw)) (hc : q_chk cc o Rf Rl pc (.lshl) au sw = true) (hk : ∀ (pc : Nat) (L : q_L) (st : List Value) (h : q_S), qz_s Z B L st h → k pc L st h = some r → qz_fr Z B h r.1) (hz : qz_s Z B L st h) (hr : q_body E X O k pc L st h = some r)  : qz_fr Z B h r.1 := by
  simp only [q_body, ha] at hr
  obtain ⟨zL, zS, zB⟩ := hz
  obtain ⟨x, y, t, hst, hq⟩ := q_li_inv hr
  subst hst
  exact hk _ _ _ _ ⟨zL, qz_push (qz_long _) (qz_tl (qz_tl zS)), zB⟩ hq
theorem qz_b_lshr  (hZ : qz_H Z B) (ha : q_at2 none E.1 pc = some (.lshr, au, sw)) (hc : q_chk cc o Rf Rl pc (.lshr) au sw = true) (hk : ∀ (pc : Nat) (L : q_L) (st : List Value) (h : q_S), qz_s Z B L st h → k pc L st h = some r → qz_fr Z B h r.1) (hz : qz_s Z B L st h) (hr : q_body E X O k pc L st h = some r)  : qz_fr Z B h r.1 := by
  simp only [q_body, ha] at hr
  obtain ⟨zL, zS, zB⟩ := hz
  obtain ⟨x, y, t, hst, hq⟩ := q_li_inv hr
  subst hst
  exact hk _ _ _ _ ⟨zL, qz_push (qz_long _) (qz_tl (qz_tl zS)), zB⟩ hq
theorem qz_b_idiv  (hZ : qz_H Z B) (ha : q_at2 none E.1 pc = some (.idiv, au, sw)) (hc : q_chk cc o Rf Rl pc (.idiv) au sw = true) (hk : ∀ (pc : Nat) (L : q_L) (st : List Value) (h : q_S), qz_s Z B L st h → k pc L st h = some r → qz_fr Z B h r.1) (hz : qz_s Z B L st h) (hr : q_body E X O k pc L st h = some r)  : qz_fr Z B h r.1 := by
  simp only [q_body, ha] at hr
  obtain ⟨zL, zS, zB⟩ := hz
  obtain ⟨x, y, t, hst, hq⟩ := q_ii_inv hr
  subst hst
  split at hq
  · cases hq
  · exact hk _ _ _ _ ⟨zL, qz_push (qz_int _) (qz_tl (qz_tl zS)), zB⟩ hq
theorem qz_b_irem  (hZ : qz_H Z B) (ha : q_at2 none E.1 pc = some (.irem, au, sw)) (hc : q_chk cc o Rf Rl pc (.irem) au sw = true) (hk : ∀ (pc : Nat) (L : q_L) (st : List Value) (h : q_S), qz_s Z B L st h → k pc L st h = some r → qz_fr Z B h r.1) (hz : qz_s Z B L st h) (hr : q_body E X O k pc L st h = some r)  : qz_fr Z B h r.1 := by
  simp only [q_body, ha] at hr
  obtain ⟨zL, zS, zB⟩ := hz
  obtain ⟨x, y, t, hst, hq⟩ := q_ii_inv hr
  subst hst
  split at hq
  · cases hq
  · exact hk _ _ _ _ ⟨zL, qz_push (qz_int _) (qz_tl (qz_tl zS)), zB⟩ hq
theorem qz_b_ldiv  (hZ : qz_H Z B) (ha : q_at2 none E.1 pc = some (.ldiv, au, sw)) (hc : q_chk cc o Rf Rl pc (.ldiv) au sw = true) (hk : ∀ (pc : Nat) (L : q_L) (st : List Value) (h : q_S), qz_s Z B L st h → k pc L st h = some r → qz_fr Z B h r.1) (hz : qz_s Z B L st h) (hr : q_body E X O k pc L st h = some r)  : qz_fr Z B h r.1 := by
  simp only [q_body, ha] at hr
  obtain ⟨zL, zS, zB⟩ := hz
  obtain ⟨x, y, t, hst, hq⟩ := q_ll_inv hr
  subst hst
  split at hq
  · cases hq
  · exact hk _ _ _ _ ⟨zL, qz_push (qz_long _) (qz_tl (qz_tl zS)), zB⟩ hq
theorem qz_b_lrem  (hZ : qz_H Z B) (ha : q_at2 none E.1 pc = some (.lrem, au, sw)) (hc : q_chk cc o Rf Rl pc (.lrem) au sw = true) (hk : ∀ (pc : Nat) (L : q_L) (st : List Value) (h : q_S), qz_s Z B L st h → k pc L st h = some r → qz_fr Z B h r.1) (hz : qz_s Z B L st h) (hr : q_body E X O k pc L st h = some r)  : qz_fr Z B h r.1 := by
  simp only [q_body, ha] at hr
  obtain ⟨zL, zS, zB⟩ := hz
  obtain ⟨x, y, t, hst, hq⟩ := q_ll_inv hr
  subst hst
  split at hq
  · cases hq
  · exact hk _ _ _ _ ⟨zL, qz_push (qz_long _) (qz_tl (qz_tl zS)), zB⟩ hq
theorem qz_b_ineg  (hZ : qz_H Z B) (ha : q_at2 none E.1 pc = some (.ineg, au, sw)) (hc : q_chk cc o Rf Rl pc (.ineg) au sw = true) (hk : ∀ (pc : Nat) (L : q_L) (st : List Value) (h : q_S), qz_s Z B L st h → k pc L st h = some r → qz_fr Z B h r.1) (hz : qz_s Z B L st h) (hr : q_body E X O k pc L st h = some r)  : qz_fr Z B h r.1 := by
  simp only [q_body, ha] at hr
  obtain ⟨zL, zS, zB⟩ := hz
  obtain ⟨x, t, hst, hq⟩ := q_i_inv hr
  subst hst
  exact hk _ _ _ _ ⟨zL, qz_push (qz_int _) (qz_tl zS), zB⟩ hq
theorem qz_b_i2l  (hZ : qz_H Z B) (ha : q_at2 none E.1 pc = some (.i2l, au, sw)) (hc : q_chk cc o Rf Rl pc (.i2l) au sw = true) (hk : ∀ (pc : Nat) (L : q_L) (st : List Value) (h : q_S), qz_s Z B L st h → k pc L st h = some r → qz_fr Z B h r.1) (hz : qz_s Z B L st h) (hr : q_body E X O k pc L st h = some r)  : qz_fr Z B h r.1 := by
  simp only [q_body, ha] at hr
  obtain ⟨zL, zS, zB⟩ := hz
  obtain ⟨x, t, hst, hq⟩ := q_i_inv hr
  subst hst
  exact hk _ _ _ _ ⟨zL, qz_push (qz_long _) (qz_tl zS), zB⟩ hq
theorem qz_b_i2b  (hZ : qz_H Z B) (ha : q_at2 none E.1 pc = some (.i2b, au, sw)) (hc : q_chk cc o Rf Rl pc (.i2b) au sw = true) (hk : ∀ (pc : Nat) (L : q_L) (st : List Value) (h : q_S), qz_s Z B L st h → k pc L st h = some r → qz_fr Z B h r.1) (hz : qz_s Z B L st h) (hr : q_body E X O k pc L st h = some r)  : qz_fr Z B h r.1 := by
  simp only [q_body, ha] at hr
  obtain ⟨zL, zS, zB⟩ := hz
  obtain ⟨x, t, hst, hq⟩ := q_i_inv hr
  subst hst
  exact hk _ _ _ _ ⟨zL, qz_push (qz_int _) (qz_tl zS), zB⟩ hq
theorem qz_b_l2i  (hZ : qz_H Z B) (ha : q_at2 none E.1 pc = some (.l2i, au, sw)) (hc : q_chk cc o Rf Rl pc (.l2i) au sw = true) (hk : ∀ (pc : Nat) (L : q_L) (st : List Value) (h : q_S), qz_s Z B L st h → k pc L st h = some r → qz_fr Z B h r.1) (hz : qz_s Z B L st h) (hr : q_body E X O k pc L st h = some r)  : qz_fr Z B h r.1 := by
  simp only [q_body, ha] at hr
  obtain ⟨zL, zS, zB⟩ := hz
  obtain ⟨x, t, hst, hq⟩ := q_l_inv hr
  subst hst
  exact hk _ _ _ _ ⟨zL, qz_push (qz_int _) (qz_tl zS), zB⟩ hq
theorem qz_b_dup  (hZ : qz_H Z B) (ha : q_at2 none E.1 pc = some (.dup, au, sw)) (hc : q_chk cc o Rf Rl pc (.dup) au sw = true) (hk : ∀ (pc : Nat) (L : q_L) (st : List Value) (h : q_S), qz_s Z B L st h → k pc L st h = some r → qz_fr Z B h r.1) (hz : qz_s Z B L st h) (hr : q_body E X O k pc L st h = some r)  : qz_fr Z B h r.1 := by
  simp only [q_body, ha] at hr
  obtain ⟨zL, zS, zB⟩ := hz
  obtain ⟨v, t, hst, h1, hq⟩ := q_v_inv hr
  subst hst
  exact hk _ _ _ _ ⟨zL, qz_push (qz_hd zS) zS, zB⟩ hq
theorem qz_b_pop  (hZ : qz_H Z B) (ha : q_at2 none E.1 pc = some (.pop, au, sw)) (hc : q_chk cc o Rf Rl pc (.pop) au sw = true) (hk : ∀ (pc : Nat) (L : q_L) (st : List Value) (h : q_S), qz_s Z B L st h → k pc L st h = some r → qz_fr Z B h r.1) (hz : qz_s Z B L st h) (hr : q_body E X O k pc L st h = some r)  : qz_fr Z B h r.1 := by
  simp only [q_body, ha] at hr
  obtain ⟨zL, zS, zB⟩ := hz
  obtain ⟨v, t, hst, h1, hq⟩ := q_v_inv hr
  subst hst
  exact hk _ _ _ _ ⟨zL, qz_tl zS, zB⟩ hq
theorem qz_b_dup_x1  (hZ : qz_H Z B) (ha : q_at2 none E.1 pc = some (.dup_x1, au, sw)) (hc : q_chk cc o Rf Rl pc (.dup_x1) au sw = true) (hk : ∀ (pc : Nat) (L : q_L) (st : List Value) (h : q_S), qz_s Z B L st h → k pc L st h = some r → qz_fr Z B h r.1) (hz : qz_s Z B L st h) (hr : q_body E X O k pc L st h = some r)  : qz_fr Z B h r.1 := by
  simp only [q_body, ha] at hr
  obtain ⟨zL, zS, zB⟩ := hz
  obtain ⟨v, w, t, hst, h1, h2, hq⟩ := q_vv_inv hr
  subst hst
  exact hk _ _ _ _ ⟨zL, qz_push (qz_hd zS) (qz_push (qz_hd (qz_tl zS)) (qz_push (qz_hd zS) (qz_tl (qz_tl zS)))), zB⟩ hq
theorem qz_b_dup2  (hZ : qz_H Z B) (ha : q_at2 none E.1 pc = some (.dup2, au, sw)) (hc : q_chk cc o Rf Rl pc (.dup2) au sw = true) (hk : ∀ (pc : Nat) (L : q_L) (st : List Value) (h : q_S), qz_s Z B L st h → k pc L st h = some r → qz_fr Z B h r.1) (hz : qz_s Z B L st h) (hr : q_body E X O k pc L st h = some r)  : qz_fr Z B h r.1 := by
  simp only [q_body, ha] at hr
  obtain ⟨zL, zS, zB⟩ := hz
  obtain ⟨v, w, t, hst, h1, h2, hq⟩ := q_vv_inv hr
  subst hst
  exact hk _ _ _ _ ⟨zL, qz_push (qz_hd zS) (qz_push (qz_hd (qz_tl zS)) zS), zB⟩ hq
theorem qz_b_iload_n {n : Fin 4} (hZ : qz_H Z B) (ha : q_at2 none E.1 pc = some (.iload_n n, au, sw)) (hc : q_chk cc o Rf Rl pc (.iload_n n) au sw = true) (hk : ∀ (pc : Nat) (L : q_L) (st : List Value) (h : q_S), qz_s Z B L st h → k pc L st h = some r → qz_fr Z B h r.1) (hz : qz_s Z B L st h) (hr : q_body E X O k pc L st h = some r)  : qz_fr Z B h r.1 := by
  simp only [q_body, ha] at hr
  obtain ⟨zL, zS, zB⟩ := hz
  obtain ⟨x, h1, hq⟩ := q_gi_inv hr
  exact hk _ _ _ _ ⟨zL, qz_push (qz_int _) zS, zB⟩ hq
theorem qz_b_istore_n {n : Fin 4} (hZ : qz_H Z B) (ha : q_at2 none E.1 pc = some (.istore_n n, au, sw)) (hc : q_chk cc o Rf Rl pc (.istore_n n) au sw = true) (hk : ∀ (pc : Nat) (L : q_L) (st : List Value) (h : q_S), qz_s Z B L st h → k pc L st h = some r → qz_fr Z B h r.1) (hz : qz_s Z B L st h) (hr : q_body E X O k pc L st h = some r)  : qz_fr Z B h r.1 := by
  simp only [q_body, ha] at hr
  obtain ⟨zL, zS, zB⟩ := hz
  obtain ⟨x, t, hst, hq⟩ := q_i_inv hr
  subst hst
  obtain ⟨h1, hq⟩ := q_b_inv hq
  exact hk _ _ _ _ ⟨qz_st1 (qz_int _) zL, qz_tl zS, zB⟩ hq
theorem qz_b_iload {n : Nat} (hZ : qz_H Z B) (ha : q_at2 none E.1 pc = some (.iload n, au, sw)) (hc : q_chk cc o Rf Rl pc (.iload n) au sw = true) (hk : ∀ (pc : Nat) (L : q_L) (st : List Value) (h : q_S), qz_s Z B L st h → k pc L st h = some r → qz_fr Z B h r.1) (hz : qz_s Z B L st h) (hr : q_body E X O k pc L st h = some r)  : qz_fr Z B h r.1 := by
  simp only [q_body, ha] at hr
  obtain ⟨zL, zS, zB⟩ := hz
  obtain ⟨x, h1, hq⟩ := q_gi_inv hr
  exact hk _ _ _ _ ⟨zL, qz_push (qz_int _) zS, zB⟩ hq
theorem qz_b_istore {n : Nat} (hZ : qz_H Z B) (ha : q_at2 none E.1 pc = some (.istore n, au, sw)) (hc : q_chk cc o Rf Rl pc (.istore n) au sw = true) (hk : ∀ (pc : Nat) (L : q_L) (st : List Value) (h : q_S), qz_s Z B L st h → k pc L st h = some r → qz_fr Z B h r.1) (hz : qz_s Z B L st h) (hr : q_body E X O k pc L st h = some r)  : qz_fr Z B h r.1 := by
  simp only [q_body, ha] at hr
  obtain ⟨zL, zS, zB⟩ := hz
  obtain ⟨x, t, hst, hq⟩ := q_i_inv hr
  subst hst
  obtain ⟨h1, hq⟩ := q_b_inv hq
  exact hk _ _ _ _ ⟨qz_st1 (qz_int _) zL, qz_tl zS, zB⟩ hq
theorem qz_b_lload_n {n : Fin 4} (hZ : qz_H Z B) (ha : q_at2 none E.1 pc = some (.lload_n n, au, sw)) (hc : q_chk cc o Rf Rl pc (.lload_n n) au sw = true) (hk : ∀ (pc : Nat) (L : q_L) (st : List Value) (h : q_S), qz_s Z B L st h → k pc L st h = some r → qz_fr Z B h r.1) (hz : qz_s Z B L st h) (hr : q_body E X O k pc L st h = some r)  : qz_fr Z B h r.1 := by
  simp only [q_body, ha] at hr
  obtain ⟨zL, zS, zB⟩ := hz
  obtain ⟨x, h1, hq⟩ := q_gl_inv hr
  exact hk _ _ _ _ ⟨zL, qz_push (qz_long _) zS, zB⟩ hq
theorem qz_b_lstore_n {n : Fin 4} (hZ : qz_H Z B) (ha : q_at2 none E.1 pc = some (.lstore_n n, au, sw)) (hc : q_chk cc o Rf Rl pc (.lstore_n n) au sw = true) (hk : ∀ (pc : Nat) (L : q_L) (st : List Value) (h : q_S), qz_s Z B L st h → k pc L st h = some r → qz_fr Z B h r.1) (hz : qz_s Z B L st h) (hr : q_body E X O k pc L st h = some r)  : qz_fr Z B h r.1 := by
  simp only [q_body, ha] at hr
  obtain ⟨zL, zS, zB⟩ := hz
  obtain ⟨x, t, hst, hq⟩ := q_l_inv hr
  subst hst
  obtain ⟨h1, hq⟩ := q_b_inv hq
  exact hk _ _ _ _ ⟨qz_st2 (qz_long _) zL, qz_tl zS, zB⟩ hq
theorem qz_b_lload {n : Nat} (hZ : qz_H Z B) (ha : q_at2 none E.1 pc = some (.lload n, au, sw)) (hc : q_chk cc o Rf Rl pc (.lload n) au sw = true) (hk : ∀ (pc : Nat) (L : q_L) (st : List Value) (h : q_S), qz_s Z B L st h → k pc L st h = some r → qz_fr Z B h r.1) (hz : qz_s Z B L st h) (hr : q_body E X O k pc L st h = some r)  : qz_fr Z B h r.1 := by
  simp only [q_body, ha] at hr
  obtain ⟨zL, zS, zB⟩ := hz
  obtain ⟨x, h1, hq⟩ := q_gl_inv hr
  exact hk _ _ _ _ ⟨zL, qz_push (qz_long _) zS, zB⟩ hq
theorem qz_b_lstore {n : Nat} (hZ : qz_H Z B) (ha : q_at2 none E.1 pc = some (.lstore n, au, sw)) (hc : q_chk cc o Rf Rl pc (.lstore n) au sw = true) (hk : ∀ (pc : Nat) (L : q_L) (st : List Value) (h : q_S), qz_s Z B L st h → k pc L st h = some r → qz_fr Z B h r.1) (hz : qz_s Z B L st h) (hr : q_body E X O k pc L st h = some r)  : qz_fr Z B h r.1 := by
  simp only [q_body, ha] at hr
  obtain ⟨zL, zS, zB⟩ := hz
  obtain ⟨x, t, hst, hq⟩ := q_l_inv hr
  subst hst
  obtain ⟨h1, hq⟩ := q_b_inv hq
  exact hk _ _ _ _ ⟨qz_st2 (qz_long _) zL, qz_tl zS, zB⟩ hq
theorem qz_b_aload_n {n : Fin 4} (hZ : qz_H Z B) (ha : q_at2 none E.1 pc = some (.aload_n n, au, sw)) (hc : q_chk cc o Rf Rl pc (.aload_n n) au sw = true) (hk : ∀ (pc : Nat) (L : q_L) (st : List Value) (h : q_S), qz_s Z B L st h → k pc L st h = some r → qz_fr Z B h r.1) (hz : qz_s Z B L st h) (hr : q_body E X O k pc L st h = some r)  : qz_fr Z B h r.1 := by
  simp only [q_body, ha] at hr
  obtain ⟨zL, zS, zB⟩ := hz
  obtain ⟨x, h1, hq⟩ := q_gr_inv hr
  exact hk _ _ _ _ ⟨zL, qz_push (zL _ (q_lk_mem h1)) zS, zB⟩ hq
theorem qz_b_astore_n {n : Fin 4} (hZ : qz_H Z B) (ha : q_at2 none E.1 pc = some (.astore_n n, au, sw)) (hc : q_chk cc o Rf Rl pc (.astore_n n) au sw = true) (hk : ∀ (pc : Nat) (L : q_L) (st : List Value) (h : q_S), qz_s Z B L st h → k pc L st h = some r → qz_fr Z B h r.1) (hz : qz_s Z B L st h) (hr : q_body E X O k pc L st h = some r)  : qz_fr Z B h r.1 := by
  simp only [q_body, ha] at hr
  obtain ⟨zL, zS, zB⟩ := hz
  obtain ⟨x, t, hst, hq⟩ := q_r_inv hr
  subst hst
  obtain ⟨h1, hq⟩ := q_b_inv hq
  exact hk _ _ _ _ ⟨qz_st1 (qz_hd zS) zL, qz_tl zS, zB⟩ hq
theorem qz_b_aload {n : Nat} (hZ : qz_H Z B) (ha : q_at2 none E.1 pc = some (.aload n, au, sw)) (hc : q_chk cc o Rf Rl pc (.aload n) au sw = true) (hk : ∀ (pc : Nat) (L : q_L) (st : List Value) (h : q_S), qz_s Z B L st h → k pc L st h = some r → qz_fr Z B h r.1) (hz : qz_s Z B L st h) (hr : q_body E X O k pc L st h = some r)  : qz_fr Z B h r.1 := by
  simp only [q_body, ha] at hr
  obtain ⟨zL, zS, zB⟩ := hz
  obtain ⟨x, h1, hq⟩ := q_gr_inv hr
  exact hk _ _ _ _ ⟨zL, qz_push (zL _ (q_lk_mem h1)) zS, zB⟩ hq
theorem qz_b_astore {n : Nat} (hZ : qz_H Z B) (ha : q_at2 none E.1 pc = some (.astore n, au, sw)) (hc : q_chk cc o Rf Rl pc (.astore n) au sw = true) (hk : ∀ (pc : Nat) (L : q_L) (st : List Value) (h : q_S), qz_s Z B L st h → k pc L st h = some r → qz_fr Z B h r.1) (hz : qz_s Z B L st h) (hr : q_body E X O k pc L st h = some r)  : qz_fr Z B h r.1 := by
  simp only [q_body, ha] at hr
  obtain ⟨zL, zS, zB⟩ := hz
  obtain ⟨x, t, hst, hq⟩ := q_r_inv hr
  subst hst
  obtain ⟨h1, hq⟩ := q_b_inv hq
  exact hk _ _ _ _ ⟨qz_st1 (qz_hd zS) zL, qz_tl zS, zB⟩ hq
theorem qz_b_iconst {zz : Int} (hZ : qz_H Z B) (ha : q_at2 none E.1 pc = some (.iconst zz, au, sw)) (hc : q_chk cc o Rf Rl pc (.iconst zz) au sw = true) (hk : ∀ (pc : Nat) (L : q_L) (st : List Value) (h : q_S), qz_s Z B L st h → k pc L st h = some r → qz_fr Z B h r.1) (hz : qz_s Z B L st h) (hr : q_body E X O k pc L st h = some r)  : qz_fr Z B h r.1 := by
  simp only [q_body, ha] at hr
  obtain ⟨zL, zS, zB⟩ := hz
  split at hr
  · exact hk _ _ _ _ ⟨zL, qz_push (qz_int _) zS, zB⟩ hr
  · cases hr
theorem qz_b_bipush {zz : Int} (hZ : qz_H Z B) (ha : q_at2 none E.1 pc = some (.bipush zz, au, sw)) (hc : q_chk cc o Rf Rl pc (.bipush zz) au sw = true) (hk : ∀ (pc : Nat) (L : q_L) (st : List Value) (h : q_S), qz_s Z B L st h → k pc L st h = some r → qz_fr Z B h r.1) (hz : qz_s Z B L st h) (hr : q_body E X O k pc L st h = some r)  : qz_fr Z B h r.1 := by
  simp only [q_body, ha] at hr
  obtain ⟨zL, zS, zB⟩ := hz
  split at hr
  · exact hk _ _ _ _ ⟨zL, qz_push (qz_int _) zS, zB⟩ hr
  · cases hr
theorem qz_b_sipush {zz : Int} (hZ : qz_H Z B) (ha : q_at2 none E.1 pc = some (.sipush zz, au, sw)) (hc : q_chk cc o Rf Rl pc (.sipush zz) au sw = true) (hk : ∀ (pc : Nat) (L : q_L) (st : List Value) (h : q_S), qz_s Z B L st h → k pc L st h = some r → qz_fr Z B h r.1) (hz : qz_s Z B L st h) (hr : q_body E X O k pc L st h = some r)  : qz_fr Z B h r.1 := by
  simp only [q_body, ha] at hr
  obtain ⟨zL, zS, zB⟩ := hz
  split at hr
  · exact hk _ _ _ _ ⟨zL, qz_push (qz_int _) zS, zB⟩ hr
  · cases hr
theorem qz_b_iinc {n : Nat} {zz : Int} (hZ : qz_H Z B) (ha : q_at2 none E.1 pc = some (.iinc n zz, au, sw)) (hc : q_chk cc o Rf Rl pc (.iinc n zz) au sw = true) (hk : ∀ (pc : Nat) (L : q_L) (st : List Value) (h : q_S), qz_s Z B L st h → k pc L st h = some r → qz_fr Z B h r.1) (hz : qz_s Z B L st h) (hr : q_body E X O k pc L st h = some r)  : qz_fr Z B h r.1 := by
  simp only [q_body, ha] at hr
  obtain ⟨zL, zS, zB⟩ := hz
  split at hr
  · obtain ⟨x, h1, hq⟩ := q_gi_inv hr
    obtain ⟨h2, hq⟩ := q_b_inv hq
    exact hk _ _ _ _ ⟨qz_st1 (qz_int _) zL, zS, zB⟩ hq
  · cases hr
theorem qz_b_lconst {n : Fin 2} (hZ : qz_H Z B) (ha : q_at2 none E.1 pc = some (.lconst n, au, sw)) (hc : q_chk cc o Rf Rl pc (.lconst n) au sw = true) (hk : ∀ (pc : Nat) (L : q_L) (st : List Value) (h : q_S), qz_s Z B L st h → k pc L st h = some r → qz_fr Z B h r.1) (hz : qz_s Z B L st h) (hr : q_body E X O k pc L st h = some r)  : qz_fr Z B h r.1 := by
  simp only [q_body, ha] at hr
  obtain ⟨zL, zS, zB⟩ := hz
  exact hk _ _ _ _ ⟨zL, qz_push (qz_long _) zS, zB⟩ hr
theorem qz_b_ldc2_w {i : Nat} (hZ : qz_H Z B) (ha : q_at2 none E.1 pc = some (.ldc2_w i, au, sw)) (hc : q_chk cc o Rf Rl pc (.ldc2_w i) au sw = true) (hk : ∀ (pc : Nat) (L : q_L) (st : List Value) (h : q_S), qz_s Z B L st h → k pc L st h = some r → qz_fr Z B h r.1) (hz : qz_s Z B L st h) (hr : q_body E X O k pc L st h = some r)  : qz_fr Z B h r.1 := by
  simp only [q_body, ha] at hr
  obtain ⟨zL, zS, zB⟩ := hz
  split at hr
  · exact hk _ _ _ _ ⟨zL, qz_push (qz_long _) zS, zB⟩ hr
  · cases hr
theorem qz_b_goto {off : Int} (hZ : qz_H Z B) (ha : q_at2 none E.1 pc = some (.goto off, au, sw)) (hc : q_chk cc o Rf Rl pc (.goto off) au sw = true) (hk : ∀ (pc : Nat) (L : q_L) (st : List Value) (h : q_S), qz_s Z B L st h → k pc L st h = some r → qz_fr Z B h r.1) (hz : qz_s Z B L st h) (hr : q_body E X O k pc L st h = some r)  : qz_fr Z B h r.1 := by
  simp only [q_body, ha] at hr
  obtain ⟨zL, zS, zB⟩ := hz
  split at hr
  · exact hk _ _ _ _ ⟨zL, zS, zB⟩ hr
  · cases hr
theorem qz_b_ifCond {cd : Jvm.ClassFile.Cond} {off : Int} (hZ : qz_H Z B) (ha : q_at2 none E.1 pc = some (.ifCond cd off, au, sw)) (hc : q_chk cc o Rf Rl pc (.ifCond cd off) au sw = true) (hk : ∀ (pc : Nat) (L : q_L) (st : List Value) (h : q_S), qz_s Z B L st h → k pc L st h = some r → qz_fr Z B h r.1) (hz : qz_s Z B L st h) (hr : q_body E X O k pc L st h = some r)  : qz_fr Z B h r.1 := by
  simp only [q_body, ha] at hr
  obtain ⟨zL, zS, zB⟩ := hz
  split at hr
  · obtain ⟨x, t, hst, hq⟩ := q_i_inv hr
    subst hst
    cases cd <;> (simp only at hq; split at hq <;> exact hk _ _ _ _ ⟨zL, qz_tl zS, zB⟩ hq)
  · cases hr
theorem qz_b_if_icmp {cd : Jvm.ClassFile.Cond} {off : Int} (hZ : qz_H Z B) (ha : q_at2 none E.1 pc = some (.if_icmp cd off, au, sw)) (hc : q_chk cc o Rf Rl pc (.if_icmp cd off) au sw = true) (hk : ∀ (pc : Nat) (L : q_L) (st : List Value) (h : q_S), qz_s Z B L st h → k pc L st h = some r → qz_fr Z B h r.1) (hz : qz_s Z B L st h) (hr : q_body E X O k pc L st h = some r)  : qz_fr Z B h r.1 := by
  simp only [q_body, ha] at hr
  obtain ⟨zL, zS, zB⟩ := hz
  split at hr
  · obtain ⟨x, y, t, hst, hq⟩ := q_ii_inv hr
    subst hst
    cases cd <;> (simp only at hq; split at hq <;> exact hk _ _ _ _ ⟨zL, qz_tl (qz_tl zS), zB⟩ hq)
  · cases hr
theorem qz_b_ifnull {off : Int} (hZ : qz_H Z B) (ha : q_at2 none E.1 pc = some (.ifnull off, au, sw)) (hc : q_chk cc o Rf Rl pc (.ifnull off) au sw = true) (hk : ∀ (pc : Nat) (L : q_L) (st : List Value) (h : q_S), qz_s Z B L st h → k pc L st h = some r → qz_fr Z B h r.1) (hz : qz_s Z B L st h) (hr : q_body E X O k pc L st h = some r)  : qz_fr Z B h r.1 := by
  simp only [q_body, ha] at hr
  obtain ⟨zL, zS, zB⟩ := hz
  split at hr
  · exact hk _ _ _ _ ⟨zL, qz_tl zS, zB⟩ hr
  · exact hk _ _ _ _ ⟨zL, qz_tl zS, zB⟩ hr
  · cases hr
theorem qz_b_tableswitch {d lo hi : Int} {offs : Array Int} (hZ : qz_H Z B) (ha : q_at2 none E.1 pc = some (.tableswitch d lo hi offs, au, sw)) (hc : q_chk cc o Rf Rl pc (.tableswitch d lo hi offs) au sw = true) (hk : ∀ (pc : Nat) (L : q_L) (st : List Value) (h : q_S), qz_s Z B L st h → k pc L st h = some r → qz_fr Z B h r.1) (hz : qz_s Z B L st h) (hr : q_body E X O k pc L st h = some r)  : qz_fr Z B h r.1 := by
  simp only [q_body, ha] at hr
  obtain ⟨zL, zS, zB⟩ := hz
  split at hr
  · obtain ⟨x, t, hst, hq⟩ := q_i_inv hr
    subst hst
    rcases q_sw_inv hq with ⟨j, q, h1, h2, h3⟩ | ⟨h1, h2⟩
    · exact hk _ _ _ _ ⟨zL, qz_tl zS, zB⟩ h3
    · exact hk _ _ _ _ ⟨zL, qz_tl zS, zB⟩ h2
  · cases hr
theorem qz_b_lookupswitch {d : Int} {ps : Array (Int × Int)} (hZ : qz_H Z B) (ha : q_at2 none E.1 pc = some (.lookupswitch d ps, au, sw)) (hc : q_chk cc o Rf Rl pc (.lookupswitch d ps) au sw = true) (hk : ∀ (pc : Nat) (L : q_L) (st : List Value) (h : q_S), qz_s Z B L st h → k pc L st h = some r → qz_fr Z B h r.1) (hz : qz_s Z B L st h) (hr : q_body E X O k pc L st h = some r)  : qz_fr Z B h r.1 := by
  simp only [q_body, ha] at hr
  obtain ⟨zL, zS, zB⟩ := hz
  split at hr
  · obtain ⟨x, t, hst, hq⟩ := q_i_inv hr
    subst hst
    rcases q_sw_inv hq with ⟨j, q, h1, h2, h3⟩ | ⟨h1, h2⟩
    · exact hk _ _ _ _ ⟨zL, qz_tl zS, zB⟩ h3
    · exact hk _ _ _ _ ⟨zL, qz_tl zS, zB⟩ h2
  · cases hr
theorem qz_b_getstatic {i : Nat} (hZ : qz_H Z B) (ha : q_at2 none E.1 pc = some (.getstatic i, au, sw)) (hc : q_chk cc o Rf Rl pc (.getstatic i) au sw = true) (hk : ∀ (pc : Nat) (L : q_L) (st : List Value) (h : q_S), qz_s Z B L st h → k pc L st h = some r → qz_fr Z B h r.1) (hz : qz_s Z B L st h) (hr : q_body E X O k pc L st h = some r)  : qz_fr Z B h r.1 := by
  simp only [q_body, ha] at hr
  obtain ⟨zL, zS, zB⟩ := hz
  simp only [q_chk, Bool.and_eq_true] at hc
  split at hr
  · obtain ⟨-, hw⟩ := alLG o _ (of_decide_eq_true hc.2)
    refine hk _ _ _ _ ⟨zL, qz_push (qz_ref ?_) zS, zB⟩ hr
    rcases hw with e | e | e
    · simp only at e; rw [e]; exact hZ.2.2.1
    · simp only at e; rw [e]; exact hZ.2.2.2.1
    · simp only at e; rw [e]; exact hZ.2.2.2.2
  · cases hr
theorem qz_b_getfield {i : Nat} (hZ : qz_H Z B) (ha : q_at2 none E.1 pc = some (.getfield i, au, sw)) (hc : q_chk cc o Rf Rl pc (.getfield i) au sw = true) (hk : ∀ (pc : Nat) (L : q_L) (st : List Value) (h : q_S), qz_s Z B L st h → k pc L st h = some r → qz_fr Z B h r.1) (hz : qz_s Z B L st h) (hr : q_body E X O k pc L st h = some r)  : qz_fr Z B h r.1 := by
  simp only [q_body, ha] at hr
  obtain ⟨zL, zS, zB⟩ := hz
  simp only [q_chk, Bool.and_eq_true] at hc
  split at hr
  · rename_i au0 Dn n tt
    obtain ⟨a, t, hst, hq⟩ := q_r_inv hr
    subst hst
    obtain ⟨hs, hq⟩ := q_b_inv hq
    obtain ⟨C, T, hcn, hn, -, hft⟩ := alLF o _ (of_decide_eq_true hc.2) _ hs
    obtain ⟨c1, c2, c3⟩ := q_sub_obj hs
    have hza := qz_of (qz_hd zS)
    have hh := hZ.1 a n hza c3 hn
    have hft : q_ft (q_cls a) n = tt := hft
    rcases tt with _ | _ | tt
    · exact hk _ _ _ _ ⟨zL, qz_push (qz_int _) (qz_tl zS), zB⟩ hq
    · exact hk _ _ _ _ ⟨zL, qz_push (qz_ref (hh.1 hft)) (qz_tl zS), zB⟩ hq
    · have t2 : tt = 0 := by
        have t1 : ∀ c, c < 13 → ∀ i, i < 47 → i < q_nf c → q_ft c i ≤ 2 := by decide +kernel
        have hn47 : ∀ c, c < 13 → q_nf c ≤ 47 := by decide +kernel
        have hn : n < q_nf (q_cls a) := hn
        have := t1 _ c3 n (Nat.lt_of_lt_of_le hn (hn47 _ c3)) hn
        omega
      subst t2
      exact hk _ _ _ _ ⟨zL, qz_push (zB (hh.2 hft)) (qz_tl zS), zB⟩ hq
  · cases hr
theorem qz_b_putfield {i : Nat} (hZ : qz_H Z B) (ha : q_at2 none E.1 pc = some (.putfield i, au, sw)) (hc : q_chk cc o Rf Rl pc (.putfield i) au sw = true) (hk : ∀ (pc : Nat) (L : q_L) (st : List Value) (h : q_S), qz_s Z B L st h → k pc L st h = some r → qz_fr Z B h r.1) (hz : qz_s Z B L st h) (hr : q_body E X O k pc L st h = some r)  : qz_fr Z B h r.1 := by
  simp only [q_body, ha] at hr
  obtain ⟨zL, zS, zB⟩ := hz
  simp only [q_chk, Bool.and_eq_true] at hc
  split at hr
  · rename_i au0 Dn n tt
    have hf := alLP o _ (of_decide_eq_true hc.2)
    by_cases t0 : tt = 0
    · subst t0
      obtain ⟨a, x, t, hst, hq⟩ := q_ri_inv hr
      subst hst
      obtain ⟨hs, hq⟩ := q_b_inv hq
      have hm := qz_si (B := B) (h := h) (i := n) (x := x) (qz_of (qz_hd (qz_tl zS)))
      exact qz_tr hm (hk _ _ _ _ (qz_mv ⟨zL, qz_tl (qz_tl zS), zB⟩ hm) hq)
    by_cases t4 : tt = 4
    · subst t4
      obtain ⟨a, x, t, hst, hq⟩ := q_ri_inv hr
      subst hst
      obtain ⟨hs, hq⟩ := q_b_inv hq
      split at hq
      · have hm := qz_si (B := B) (h := h) (i := n) (x := x) (qz_of (qz_hd (qz_tl zS)))
        exact qz_tr hm (hk _ _ _ _ (qz_mv ⟨zL, qz_tl (qz_tl zS), zB⟩ hm) hq)
      · cases hq
    have e : q_pty tt = .object "WhirlShafts$Disc" := by
      unfold q_pty
      split
      · exact absurd rfl t0
      · exact absurd rfl t4
      · rfl
    split at hr
    · exact absurd rfl t0
    · exact absurd rfl t4
    · obtain ⟨a, b, t, hst, hq⟩ := q_rr_inv hr
      subst hst
      obtain ⟨hs, hq⟩ := q_b_inv hq
      simp only [e] at hf
      obtain ⟨C, T, hcn, hn, -, -, -, hft⟩ := hf _ hs
      obtain ⟨c1, c2, c3⟩ := q_sub_obj hs
      have hB := (hZ.1 a n (qz_of (qz_hd (qz_tl zS))) c3 hn).2 hft
      have hm : qz_fr Z B h (h.1, h.2.1, some b) := ⟨fun _ _ => ⟨rfl, rfl⟩, fun q => absurd hB q, fun _ _ => qz_hd zS⟩
      exact qz_tr hm (hk _ _ _ _ (qz_mv ⟨zL, qz_tl (qz_tl zS), zB⟩ hm) hq)
  · cases hr
theorem qz_b_iaload  (hZ : qz_H Z B) (ha : q_at2 none E.1 pc = some (.iaload, au, sw)) (hc : q_chk cc o Rf Rl pc (.iaload) au sw = true) (hk : ∀ (pc : Nat) (L : q_L) (st : List Value) (h : q_S), qz_s Z B L st h → k pc L st h = some r → qz_fr Z B h r.1) (hz : qz_s Z B L st h) (hr : q_body E X O k pc L st h = some r)  : qz_fr Z B h r.1 := by
  simp only [q_body, ha] at hr
  obtain ⟨zL, zS, zB⟩ := hz
  obtain ⟨a, i, t, hst, hq⟩ := q_ri_inv hr
  subst hst
  unfold q_ald at hq
  split at hq
  · obtain ⟨h2, hq⟩ := q_ix_inv hq
    exact hk _ _ _ _ ⟨zL, qz_push (qz_int _) (qz_tl (qz_tl zS)), zB⟩ hq
  · split at hq
    · obtain ⟨h2, hq⟩ := q_ix_inv hq
      exact hk _ _ _ _ ⟨zL, qz_push (qz_int _) (qz_tl (qz_tl zS)), zB⟩ hq
    · cases hq
  · cases hq
theorem qz_b_laload  (hZ : qz_H Z B) (ha : q_at2 none E.1 pc = some (.laload, au, sw)) (hc : q_chk cc o Rf Rl pc (.laload) au sw = true) (hk : ∀ (pc : Nat) (L : q_L) (st : List Value) (h : q_S), qz_s Z B L st h → k pc L st h = some r → qz_fr Z B h r.1) (hz : qz_s Z B L st h) (hr : q_body E X O k pc L st h = some r)  : qz_fr Z B h r.1 := by
  simp only [q_body, ha] at hr
  obtain ⟨zL, zS, zB⟩ := hz
  obtain ⟨a, i, t, hst, hq⟩ := q_ri_inv hr
  subst hst
  obtain ⟨h1, hq⟩ := q_b_inv hq
  obtain ⟨h2, hq⟩ := q_ix_inv hq
  exact hk _ _ _ _ ⟨zL, qz_push (qz_long _) (qz_tl (qz_tl zS)), zB⟩ hq
theorem qz_b_aaload  (hZ : qz_H Z B) (ha : q_at2 none E.1 pc = some (.aaload, au, sw)) (hc : q_chk cc o Rf Rl pc (.aaload) au sw = true) (hk : ∀ (pc : Nat) (L : q_L) (st : List Value) (h : q_S), qz_s Z B L st h → k pc L st h = some r → qz_fr Z B h r.1) (hz : qz_s Z B L st h) (hr : q_body E X O k pc L st h = some r)  : qz_fr Z B h r.1 := by
  simp only [q_body, ha] at hr
  obtain ⟨zL, zS, zB⟩ := hz
  obtain ⟨a, i, t, hst, hq⟩ := q_ri_inv hr
  subst hst
  obtain ⟨h1, hq⟩ := q_b_inv hq
  obtain ⟨h2, hq⟩ := q_ix_inv hq
  have hlt : i.toNatClampNeg < q_ln a := Nat.not_le.mp fun q => h2 (Or.inr q)
  exact hk _ _ _ _ ⟨zL, qz_push (qz_ref (hZ.2.1 a _ (qz_of (qz_hd (qz_tl zS))) (Nat.eq_of_beq_eq_true h1) hlt)) (qz_tl (qz_tl zS)), zB⟩ hq
theorem qz_b_iastore  (hZ : qz_H Z B) (ha : q_at2 none E.1 pc = some (.iastore, au, sw)) (hc : q_chk cc o Rf Rl pc (.iastore) au sw = true) (hk : ∀ (pc : Nat) (L : q_L) (st : List Value) (h : q_S), qz_s Z B L st h → k pc L st h = some r → qz_fr Z B h r.1) (hz : qz_s Z B L st h) (hr : q_body E X O k pc L st h = some r)  : qz_fr Z B h r.1 := by
  simp only [q_body, ha] at hr
  obtain ⟨zL, zS, zB⟩ := hz
  obtain ⟨a, i, x, t, hst, hq⟩ := q_rii_inv hr
  subst hst
  obtain ⟨h1, hq⟩ := q_b_inv hq
  obtain ⟨h2, hq⟩ := q_ix_inv hq
  have hm := qz_si (B := B) (h := h) (i := i.toNatClampNeg) (x := x) (qz_of (qz_hd (qz_tl (qz_tl zS))))
  exact qz_tr hm (hk _ _ _ _ (qz_mv ⟨zL, qz_tl (qz_tl (qz_tl zS)), zB⟩ hm) hq)
theorem qz_b_lastore  (hZ : qz_H Z B) (ha : q_at2 none E.1 pc = some (.lastore, au, sw)) (hc : q_chk cc o Rf Rl pc (.lastore) au sw = true) (hk : ∀ (pc : Nat) (L : q_L) (st : List Value) (h : q_S), qz_s Z B L st h → k pc L st h = some r → qz_fr Z B h r.1) (hz : qz_s Z B L st h) (hr : q_body E X O k pc L st h = some r)  : qz_fr Z B h r.1 := by
  simp only [q_body, ha] at hr
  obtain ⟨zL, zS, zB⟩ := hz
  obtain ⟨a, i, x, t, hst, hq⟩ := q_ril_inv hr
  subst hst
  obtain ⟨h1, hq⟩ := q_b_inv hq
  obtain ⟨h2, hq⟩ := q_ix_inv hq
  have hm := qz_sl (B := B) (h := h) (i := i.toNatClampNeg) (x := x) (qz_of (qz_hd (qz_tl (qz_tl zS))))
  exact qz_tr hm (hk _ _ _ _ (qz_mv ⟨zL, qz_tl (qz_tl (qz_tl zS)), zB⟩ hm) hq)
theorem qz_b_arraylength  (hZ : qz_H Z B) (ha : q_at2 none E.1 pc = some (.arraylength, au, sw)) (hc : q_chk cc o Rf Rl pc (.arraylength) au sw = true) (hk : ∀ (pc : Nat) (L : q_L) (st : List Value) (h : q_S), qz_s Z B L st h → k pc L st h = some r → qz_fr Z B h r.1) (hz : qz_s Z B L st h) (hr : q_body E X O k pc L st h = some r)  : qz_fr Z B h r.1 := by
  simp only [q_body, ha] at hr
  obtain ⟨zL, zS, zB⟩ := hz
  obtain ⟨a, t, hst, hq⟩ := q_r_inv hr
  subst hst
  unfold q_len at hq
  split at hq
  · exact hk _ _ _ _ ⟨zL, qz_push (qz_int _) (qz_tl zS), zB⟩ hq
  · exact hk _ _ _ _ ⟨zL, qz_push (qz_int _) (qz_tl zS), zB⟩ hq
  · exact hk _ _ _ _ ⟨zL, qz_push (qz_int _) (qz_tl zS), zB⟩ hq
  · split at hq
    · exact hk _ _ _ _ ⟨zL, qz_push (qz_int _) (qz_tl zS), zB⟩ hq
    · cases hq
  · cases hq
theorem qz_cl_inv {rk : Nat} {a : q_A} {st : List Value} {f : List Value → q_S → q_A} {r : q_S × Option Value} (h : q_cl rk a st f = some r) : ∃ r', a = some r' ∧ f (r'.2.toList ++ st) r'.1 = some r ∧ ∀ v ∈ r'.2.toList, qz_v Z v := by
  unfold q_cl at h
  split at h
  · unfold q_c0 at h
    split at h
    · exact ⟨_, rfl, h, by simp⟩
    · cases h
  · unfold q_c1 at h
    split at h
    · exact ⟨_, rfl, h, by simp [qz_int]⟩
    · cases h
  · unfold q_c3 at h
    split at h
    · exact ⟨_, rfl, h, by simp [qz_long]⟩
    · cases h
theorem qz_call (hk : ∀ (pc : Nat) (L : q_L) (st : List Value) (h : q_S), qz_s Z B L st h → k pc L st h = some r → qz_fr Z B h r.1) (hO : ∀ (y : Nat) (h : q_S) (as : List Value) (r' : q_S × Option Value), O y h as = some r' → (∀ v ∈ as, qz_v Z v) → (B → qz_v Z (q_rv h.2.2)) → qz_fr Z B h r'.1) {y rk pc2 : Nat} {as t : List Value} (hz : qz_s Z B L t h) (has : ∀ v ∈ as, qz_v Z v) (hr : q_cl rk (O y h as) t (fun s h => k pc2 L s h) = some r) : qz_fr Z B h r.1 := by
  obtain ⟨r2, e1, hq, g2⟩ := qz_cl_inv (Z := Z) hr
  have g1 := hO _ _ _ _ e1 has hz.2.2
  refine qz_tr g1 (hk _ _ _ _ ⟨hz.1, fun v hv => ?_, fun b => g1.2.2 b (hz.2.2 b)⟩ hq)
  rcases List.mem_append.mp hv with q | q
  · exact g2 v q
  · exact hz.2.1 v q
theorem qz_b_invokestatic {i : Nat} (hZ : qz_H Z B) (ha : q_at2 none E.1 pc = some (.invokestatic i, au, sw)) (hc : q_chk cc o Rf Rl pc (.invokestatic i) au sw = true) (hk : ∀ (pc : Nat) (L : q_L) (st : List Value) (h : q_S), qz_s Z B L st h → k pc L st h = some r → qz_fr Z B h r.1) (hz : qz_s Z B L st h) (hr : q_body E X O k pc L st h = some r) (hO : ∀ (y : Nat) (h : q_S) (as : List Value) (r' : q_S × Option Value), O y h as = some r' → (∀ v ∈ as, qz_v Z v) → (B → qz_v Z (q_rv h.2.2)) → qz_fr Z B h r'.1) : qz_fr Z B h r.1 := by
  simp only [q_body, ha] at hr
  obtain ⟨zL, zS, zB⟩ := hz
  split at hr
  · obtain ⟨xs, t, hst, hn, hq⟩ := q_pop_inv hr
    subst hst
    obtain ⟨h3, hq⟩ := q_b_inv hq
    exact qz_call hk hO ⟨zL, fun v hv => zS v (List.mem_append_right _ hv), zB⟩ (fun v hv => zS v (List.mem_append_left _ (by simpa using hv))) hq
  · obtain ⟨a, sp, b, dp, n, t, hst, hq⟩ := q_ac_inv hr
    subst hst
    obtain ⟨h4, hq⟩ := q_b_inv hq
    unfold q_arc at hq
    split at hq
    · cases hq
    · split at hq
      · have hm := qz_cpi (B := B) (h := h) (a := a) (sp := sp.toNatClampNeg) (dp := dp.toNatClampNeg) (n := n.toNatClampNeg) (qz_of (qz_hd (qz_tl (qz_tl zS))))
        exact qz_tr hm (hk _ _ _ _ (qz_mv ⟨zL, qz_tl (qz_tl (qz_tl (qz_tl (qz_tl zS)))), zB⟩ hm) hq)
      · have hm := qz_cpl (B := B) (h := h) (a := a) (sp := sp.toNatClampNeg) (dp := dp.toNatClampNeg) (n := n.toNatClampNeg) (qz_of (qz_hd (qz_tl (qz_tl zS))))
        exact qz_tr hm (hk _ _ _ _ (qz_mv ⟨zL, qz_tl (qz_tl (qz_tl (qz_tl (qz_tl zS)))), zB⟩ hm) hq)
      · cases hq
  · cases hr
theorem qz_b_invokespecial {i : Nat} (hZ : qz_H Z B) (ha : q_at2 none E.1 pc = some (.invokespecial i, au, sw)) (hc : q_chk cc o Rf Rl pc (.invokespecial i) au sw = true) (hk : ∀ (pc : Nat) (L : q_L) (st : List Value) (h : q_S), qz_s Z B L st h → k pc L st h = some r → qz_fr Z B h r.1) (hz : qz_s Z B L st h) (hr : q_body E X O k pc L st h = some r) (hO : ∀ (y : Nat) (h : q_S) (as : List Value) (r' : q_S × Option Value), O y h as = some r' → (∀ v ∈ as, qz_v Z v) → (B → qz_v Z (q_rv h.2.2)) → qz_fr Z B h r'.1) : qz_fr Z B h r.1 := by
  simp only [q_body, ha] at hr
  obtain ⟨zL, zS, zB⟩ := hz
  split at hr
  · obtain ⟨xs, t, hst, hn, hq⟩ := q_pop_inv hr
    subst hst
    obtain ⟨b, t2, hst2, hq2⟩ := q_r_inv hq
    subst hst2
    have zb : qz_v Z (.ref b) := zS _ (List.mem_append_right _ List.mem_cons_self)
    have zt : ∀ v ∈ t2, qz_v Z v := fun v hv => zS v (List.mem_append_right _ (List.mem_cons_of_mem _ hv))
    have zx : ∀ v ∈ Value.ref b :: (xs ++ []), qz_v Z v := qz_push zb (fun v hv => zS v (List.mem_append_left _ (by simpa using hv)))
    obtain ⟨h3, hq2⟩ := q_b_inv hq2
    exact qz_call hk hO ⟨zL, zt, zB⟩ zx hq2
  · cases hr
theorem qz_b_invokevirtual {i : Nat} (hZ : qz_H Z B) (ha : q_at2 none E.1 pc = some (.invokevirtual i, au, sw)) (hc : q_chk cc o Rf Rl pc (.invokevirtual i) au sw = true) (hk : ∀ (pc : Nat) (L : q_L) (st : List Value) (h : q_S), qz_s Z B L st h → k pc L st h = some r → qz_fr Z B h r.1) (hz : qz_s Z B L st h) (hr : q_body E X O k pc L st h = some r) (hO : ∀ (y : Nat) (h : q_S) (as : List Value) (r' : q_S × Option Value), O y h as = some r' → (∀ v ∈ as, qz_v Z v) → (B → qz_v Z (q_rv h.2.2)) → qz_fr Z B h r'.1) : qz_fr Z B h r.1 := by
  simp only [q_body, ha] at hr
  obtain ⟨zL, zS, zB⟩ := hz
  split at hr
  · obtain ⟨xs, t, hst, hn, hq⟩ := q_pop_inv hr
    subst hst
    obtain ⟨b, t2, hst2, hq2⟩ := q_r_inv hq
    subst hst2
    have zb : qz_v Z (.ref b) := zS _ (List.mem_append_right _ List.mem_cons_self)
    have zt : ∀ v ∈ t2, qz_v Z v := fun v hv => zS v (List.mem_append_right _ (List.mem_cons_of_mem _ hv))
    have zx : ∀ v ∈ Value.ref b :: (xs ++ []), qz_v Z v := qz_push zb (fun v hv => zS v (List.mem_append_left _ (by simpa using hv)))
    obtain ⟨h3, hq2⟩ := q_b_inv hq2
    exact qz_call hk hO ⟨zL, zt, zB⟩ zx hq2
  · obtain ⟨xs, t, hst, hn, hq⟩ := q_pop_inv hr
    subst hst
    obtain ⟨b, t2, hst2, hq2⟩ := q_r_inv hq
    subst hst2
    have zb : qz_v Z (.ref b) := zS _ (List.mem_append_right _ List.mem_cons_self)
    have zt : ∀ v ∈ t2, qz_v Z v := fun v hv => zS v (List.mem_append_right _ (List.mem_cons_of_mem _ hv))
    have zx : ∀ v ∈ Value.ref b :: (xs ++ []), qz_v Z v := qz_push zb (fun v hv => zS v (List.mem_append_left _ (by simpa using hv)))
    split at hq2
    · obtain ⟨h3, hq2⟩ := q_b_inv hq2
      exact qz_call hk hO ⟨zL, zt, zB⟩ zx hq2
    · cases hq2
  · cases hr
theorem qz_b_ireturn  (hZ : qz_H Z B) (ha : q_at2 none E.1 pc = some (.ireturn, au, sw)) (hc : q_chk cc o Rf Rl pc (.ireturn) au sw = true) (hk : ∀ (pc : Nat) (L : q_L) (st : List Value) (h : q_S), qz_s Z B L st h → k pc L st h = some r → qz_fr Z B h r.1) (hz : qz_s Z B L st h) (hr : q_body E X O k pc L st h = some r)  : qz_fr Z B h r.1 := by
  simp only [q_body, ha] at hr
  obtain ⟨zL, zS, zB⟩ := hz
  split at hr
  · cases hr
    exact qz_rf ..
  · split at hr
    · cases hr
      exact qz_rf ..
    · cases hr
  · cases hr
theorem qz_b_lreturn  (hZ : qz_H Z B) (ha : q_at2 none E.1 pc = some (.lreturn, au, sw)) (hc : q_chk cc o Rf Rl pc (.lreturn) au sw = true) (hk : ∀ (pc : Nat) (L : q_L) (st : List Value) (h : q_S), qz_s Z B L st h → k pc L st h = some r → qz_fr Z B h r.1) (hz : qz_s Z B L st h) (hr : q_body E X O k pc L st h = some r)  : qz_fr Z B h r.1 := by
  simp only [q_body, ha] at hr
  obtain ⟨zL, zS, zB⟩ := hz
  split at hr
  · cases hr
    exact qz_rf ..
  · cases hr
theorem qz_b_return_  (hZ : qz_H Z B) (ha : q_at2 none E.1 pc = some (.return_, au, sw)) (hc : q_chk cc o Rf Rl pc (.return_) au sw = true) (hk : ∀ (pc : Nat) (L : q_L) (st : List Value) (h : q_S), qz_s Z B L st h → k pc L st h = some r → qz_fr Z B h r.1) (hz : qz_s Z B L st h) (hr : q_body E X O k pc L st h = some r)  : qz_fr Z B h r.1 := by
  simp only [q_body, ha] at hr
  obtain ⟨zL, zS, zB⟩ := hz
  split at hr
  · cases hr
    exact qz_rf ..
  · cases hr
theorem qz_body (hZ : qz_H Z B) (hM : q_chkM cc o Rf Rl 0 E.1 = true) (hO : ∀ (y : Nat) (h : q_S) (as : List Value) (r' : q_S × Option Value), O y h as = some r' → (∀ v ∈ as, qz_v Z v) → (B → qz_v Z (q_rv h.2.2)) → qz_fr Z B h r'.1) (hk : ∀ (pc : Nat) (L : q_L) (st : List Value) (h : q_S), qz_s Z B L st h → k pc L st h = some r → qz_fr Z B h r.1) (hz : qz_s Z B L st h) (hr : q_body E X O k pc L st h = some r) : qz_fr Z B h r.1 := by
  cases ha : q_at2 none E.1 pc with
  | none => simp [q_body, ha] at hr
  | some x =>
    obtain ⟨i, au, sw⟩ := x
    have hc := q_chk_at hM ha
    cases i with
    | iadd => exact qz_b_iadd hZ ha hc hk hz hr
    | isub => exact qz_b_isub hZ ha hc hk hz hr
    | imul => exact qz_b_imul hZ ha hc hk hz hr
    | iand => exact qz_b_iand hZ ha hc hk hz hr
    | ior => exact qz_b_ior hZ ha hc hk hz hr
    | ixor => exact qz_b_ixor hZ ha hc hk hz hr
    | ishl => exact qz_b_ishl hZ ha hc hk hz hr
    | ishr => exact qz_b_ishr hZ ha hc hk hz hr
    | ladd => exact qz_b_ladd hZ ha hc hk hz hr
    | lsub => exact qz_b_lsub hZ ha hc hk hz hr
    | lmul => exact qz_b_lmul hZ ha hc hk hz hr
    | land => exact qz_b_land hZ ha hc hk hz hr
    | lor => exact qz_b_lor hZ ha hc hk hz hr
    | lxor => exact qz_b_lxor hZ ha hc hk hz hr
    | lcmp => exact qz_b_lcmp hZ ha hc hk hz hr
    | lshl => exact qz_b_lshl hZ ha hc hk hz hr
    | lshr => exact qz_b_lshr hZ ha hc hk hz hr
    | idiv => exact qz_b_idiv hZ ha hc hk hz hr
    | irem => exact qz_b_irem hZ ha hc hk hz hr
    | ldiv => exact qz_b_ldiv hZ ha hc hk hz hr
    | lrem => exact qz_b_lrem hZ ha hc hk hz hr
    | ineg => exact qz_b_ineg hZ ha hc hk hz hr
    | i2l => exact qz_b_i2l hZ ha hc hk hz hr
    | i2b => exact qz_b_i2b hZ ha hc hk hz hr
    | l2i => exact qz_b_l2i hZ ha hc hk hz hr
    | dup => exact qz_b_dup hZ ha hc hk hz hr
    | pop => exact qz_b_pop hZ ha hc hk hz hr
    | dup_x1 => exact qz_b_dup_x1 hZ ha hc hk hz hr
    | dup2 => exact qz_b_dup2 hZ ha hc hk hz hr
    | iload_n => exact qz_b_iload_n hZ ha hc hk hz hr
    | iload => exact qz_b_iload hZ ha hc hk hz hr
    | lload_n => exact qz_b_lload_n hZ ha hc hk hz hr
    | lload => exact qz_b_lload hZ ha hc hk hz hr
    | aload_n => exact qz_b_aload_n hZ ha hc hk hz hr
    | aload => exact qz_b_aload hZ ha hc hk hz hr
    | istore_n => exact qz_b_istore_n hZ ha hc hk hz hr
    | istore => exact qz_b_istore hZ ha hc hk hz hr
    | lstore_n => exact qz_b_lstore_n hZ ha hc hk hz hr
    | lstore => exact qz_b_lstore hZ ha hc hk hz hr
    | astore_n => exact qz_b_astore_n hZ ha hc hk hz hr
    | astore => exact qz_b_astore hZ ha hc hk hz hr
    | iconst => exact qz_b_iconst hZ ha hc hk hz hr
    | bipush => exact qz_b_bipush hZ ha hc hk hz hr
    | sipush => exact qz_b_sipush hZ ha hc hk hz hr
    | iinc => exact qz_b_iinc hZ ha hc hk hz hr
    | lconst => exact qz_b_lconst hZ ha hc hk hz hr
    | goto => exact qz_b_goto hZ ha hc hk hz hr
    | ifCond => exact qz_b_ifCond hZ ha hc hk hz hr
    | if_icmp => exact qz_b_if_icmp hZ ha hc hk hz hr
    | ifnull => exact qz_b_ifnull hZ ha hc hk hz hr
    | tableswitch => exact qz_b_tableswitch hZ ha hc hk hz hr
    | lookupswitch => exact qz_b_lookupswitch hZ ha hc hk hz hr
    | iaload => exact qz_b_iaload hZ ha hc hk hz hr
    | laload => exact qz_b_laload hZ ha hc hk hz hr
    | aaload => exact qz_b_aaload hZ ha hc hk hz hr
    | iastore => exact qz_b_iastore hZ ha hc hk hz hr
    | lastore => exact qz_b_lastore hZ ha hc hk hz hr
    | arraylength => exact qz_b_arraylength hZ ha hc hk hz hr
    | ldc2_w => exact qz_b_ldc2_w hZ ha hc hk hz hr
    | getstatic => exact qz_b_getstatic hZ ha hc hk hz hr
    | getfield => exact qz_b_getfield hZ ha hc hk hz hr
    | putfield => exact qz_b_putfield hZ ha hc hk hz hr
    | ireturn => exact qz_b_ireturn hZ ha hc hk hz hr
    | lreturn => exact qz_b_lreturn hZ ha hc hk hz hr
    | return_ => exact qz_b_return_ hZ ha hc hk hz hr
    | invokestatic => exact qz_b_invokestatic hZ ha hc hk hz hr hO
    | invokespecial => exact qz_b_invokespecial hZ ha hc hk hz hr hO
    | invokevirtual => exact qz_b_invokevirtual hZ ha hc hk hz hr hO
    | _ => cases hc
theorem qz_ex {K : q_K} (hZ : qz_H Z B) (hM : q_chkM cc o Rf Rl 0 E.1 = true) (hO : ∀ (y : Nat) (h : q_S) (as : List Value) (r' : q_S × Option Value), O y h as = some r' → (∀ v ∈ as, qz_v Z v) → (B → qz_v Z (q_rv h.2.2)) → qz_fr Z B h r'.1) (hK : ∀ (pc : Nat) (L : q_L) (st : List Value) (h : q_S), qz_s Z B L st h → K pc L st h = some r → qz_fr Z B h r.1) : ∀ (n pc : Nat) (L : q_L) (st : List Value) (h : q_S), qz_s Z B L st h → q_ex E X O K n pc L st h = some r → qz_fr Z B h r.1 := by
  intro n
  induction n with
  | zero =>
    intro pc L st h hz hr
    cases hr
  | succ n ih =>
    intro pc L st h hz hr
    unfold q_ex at hr
    split at hr
    · exact hK _ _ _ _ ⟨qz_nrm hz.1, hz.2⟩ hr
    · exact qz_body hZ hM hO ih hz hr
theorem qz_go (hZ : qz_H Z B) (hM : q_chkM cc o Rf Rl 0 E.1 = true) (hO : ∀ (y : Nat) (h : q_S) (as : List Value) (r' : q_S × Option Value), O y h as = some r' → (∀ v ∈ as, qz_v Z v) → (B → qz_v Z (q_rv h.2.2)) → qz_fr Z B h r'.1) : ∀ (n pc : Nat) (L : q_L) (st : List Value) (h : q_S), qz_s Z B L st h → q_go E X O n pc L st h = some r → qz_fr Z B h r.1 := by
  intro n
  induction n with
  | zero =>
    intro pc L st h hz hr
    cases hr
  | succ n ih =>
    intro pc L st h hz hr
    unfold q_go at hr
    exact qz_body hZ hM hO (qz_ex hZ hM hO ih 500) hz hr
end QZ
theorem qz_args {Z : Nat → Prop} : ∀ (as : List Value) (i : Nat), (∀ v ∈ as, qz_v Z v) → ∀ q ∈ lv_args i as, qz_v Z q.2 := by
  intro as
  induction as with
  | nil =>
    intro i _ q hq
    simp [lv_args] at hq
  | cons v t ih =>
    intro i h q hq
    cases v <;> (simp only [lv_args, List.mem_cons] at hq; rcases hq with e | e <;> first | (rw [e]; exact qz_hd h) | exact ih _ (qz_tl h) q e)
theorem qz_sem {Z : Nat → Prop} {B : Prop} (hZ : qz_H Z B) : ∀ (d y : Nat) (h : q_S) (as : List Value) (r : q_S × Option Value), q_sem d y h as = some r → (∀ v ∈ as, qz_v Z v) → (B → qz_v Z (q_rv h.2.2)) → qz_fr Z B h r.1 := by
  intro d
  induction d with
  | zero =>
    intro y h as r hr
    cases hr
  | succ d ih =>
    intro y h as r hr ha hb
    rw [q_sem] at hr
    dsimp only at hr
    split at hr
    · rename_i hya
      exact qz_go hZ (ck_all y hya.1) ih 1000 0 _ _ _ ⟨qz_args as 0 ha, fun (v : Value) (hv : v ∈ []) => (List.not_mem_nil hv).elim, hb⟩ hr
    · cases hr
abbrev qz_C (a : Nat) : Prop := a < 67 ∨ 102 ≤ a
abbrev qz_R (a : Nat) : Prop := 67 ≤ a
theorem qz_cls {a : Nat} (h : q_cls a < 13) : a < 102 := by
  rcases Nat.lt_or_ge a 112 with q | q
  · have t : ∀ a, a < 112 → q_cls a < 13 → a < 102 := by decide +kernel
    exact t a q h
  · unfold q_cls at h
    rw [q_at2_out q] at h
    cases Nat.not_lt.mpr (by decide : 13 ≤ 99) h
theorem qz_ty2 {a : Nat} (h : q_ty a = 2) : a < 102 := by
  rcases Nat.lt_or_ge a 112 with q | q
  · have t : ∀ a, a < 112 → q_ty a = 2 → a < 102 := by decide +kernel
    exact t a q h
  · unfold q_ty at h
    rw [q_at2_out q] at h
    cases h
theorem qz_nf : ∀ c, c < 13 → q_nf c ≤ 47 := by decide +kernel
theorem qz_ln2 : ∀ a, a < 102 → q_ty a = 2 → q_ln a ≤ 9 := by decide +kernel
theorem qz_HC : qz_H qz_C True := by
  refine ⟨fun a n ha hc hn => ⟨?_, fun _ => trivial⟩, ?_, Or.inr (by decide), Or.inr (by decide), Or.inr (by decide)⟩
  · have t : ∀ a, a < 102 → ∀ n, n < 47 → (((a < 67 ∨ 102 ≤ a) ∧ q_cls a < 13) ∧ n < q_nf (q_cls a)) ∧ q_ft (q_cls a) n = 1 → (q_rf a n < 67 ∨ 102 ≤ q_rf a n) := by decide +kernel
    intro q
    exact t a (qz_cls hc) n (Nat.lt_of_lt_of_le hn (qz_nf _ hc)) ⟨⟨⟨ha, hc⟩, hn⟩, q⟩
  · intro a j ha h2 hj
    have t : ∀ a, a < 102 → ∀ j, j < 9 → ((a < 67 ∨ 102 ≤ a) ∧ q_ty a = 2) ∧ j < q_ln a → (q_rf a j < 67 ∨ 102 ≤ q_rf a j) := by decide +kernel
    exact t a (qz_ty2 h2) j (Nat.lt_of_lt_of_le hj (qz_ln2 _ (qz_ty2 h2) h2)) ⟨⟨ha, h2⟩, hj⟩
theorem qz_HR : qz_H qz_R False := by
  refine ⟨fun a n ha hc hn => ?_, ?_, by unfold qz_R; decide, by unfold qz_R; decide, by unfold qz_R; decide⟩
  · have t : ∀ a, a < 102 → ∀ n, n < 47 → (67 ≤ a ∧ q_cls a < 13) ∧ n < q_nf (q_cls a) → (q_ft (q_cls a) n = 1 → 67 ≤ q_rf a n) ∧ (q_ft (q_cls a) n = 2 → False) := by decide +kernel
    exact t a (qz_cls hc) n (Nat.lt_of_lt_of_le hn (qz_nf _ hc)) ⟨⟨ha, hc⟩, hn⟩
  · intro a j ha h2 hj
    have t : ∀ a, a < 102 → ∀ j, j < 9 → (67 ≤ a ∧ q_ty a = 2) ∧ j < q_ln a → 67 ≤ q_rf a j := by decide +kernel
    exact t a (qz_ty2 h2) j (Nat.lt_of_lt_of_le hj (qz_ln2 _ (qz_ty2 h2) h2)) ⟨⟨ha, h2⟩, hj⟩
/-- a method of the class leaves the reference alone -/
theorem qz_cm {d y : Nat} {h : q_S} {as : List Value} {r : q_S × Option Value} (hr : q_sem d y h as = some r) (ha : ∀ v ∈ as, qz_v qz_C v) (hl : qz_v qz_C (q_rv h.2.2)) : (∀ a, 67 ≤ a → a < 102 → r.1.1 a = h.1 a ∧ r.1.2.1 a = h.2.1 a) ∧ qz_v qz_C (q_rv r.1.2.2) := by
  have g := qz_sem qz_HC d y h as r hr ha fun _ => hl
  exact ⟨fun a h1 h2 => g.1 a (by unfold qz_C; omega), g.2.2 trivial hl⟩
/-- a method of the reference leaves the class alone -/
theorem qz_rm {d y : Nat} {h : q_S} {as : List Value} {r : q_S × Option Value} (hr : q_sem d y h as = some r) (ha : ∀ v ∈ as, qz_v qz_R v) : (∀ a, a < 67 → r.1.1 a = h.1 a ∧ r.1.2.1 a = h.2.1 a) ∧ r.1.2.2 = h.2.2 := by
  have g := qz_sem qz_HR d y h as r hr ha fun b => b.elim
  exact ⟨fun a h1 => g.1 a (by unfold qz_R; omega), g.2.1 fun b => b.elim⟩
