/-! ===== the small machine is the machine: instruction by instruction ===== -/
def q_ml (ad : Nat → Nat) (L : q_L) : List (Nat × Value) := L.map (fun q => (q.1, q_cv ad q.2))
def q_X0 : q_X := fun a => if a = 102 then some (5, fun j => (([-1, 0, 0, 1, 2] : List Int32)[j]?).getD 0) else if a = 103 then some (6, fun j => (([1, 1, 0, 1, 0, 0] : List Int32)[j]?).getD 0) else if a = 104 then some (6, fun j => (([99, 99, 99, 6, 9, 2] : List Int32)[j]?).getD 0) else none
def q_inR : MethodName := ⟨"WhirlShafts", "inRange", "(II)Z"⟩
/-- what holds of the tables and of what isn't ours -/
def q_Wd (D : va_G) (cA : Nat → ClassId) (ad : Nat → Nat) (A : Nat → Prop) (U : State) : Prop :=
  va_K D q_cn (q_tys cA) U ∧ va_Z "WhirlShafts" "ABOVE" "[I" (.ref (ad 102)) A U U.heap ∧ va_Z "WhirlShafts" "LEAST" "[I" (.ref (ad 103)) A U U.heap ∧ va_Z "WhirlShafts" "MOST" "[I" (.ref (ad 104)) A U U.heap ∧
  (∀ (a n : Nat) (f : Nat → Int32), q_X0 a = some (n, f) → va_T .int (ad a) n (fun j => .int (f j)) A U U.heap) ∧ va_Nw (.methodLinkNest "WhirlShafts$Line" 58 q_inR "WhirlShafts") U
def q_Cx (p : Program) (l : Launch) (R : Room) (s : State) (m : MethodId) (args : Array Value) (c : Code) (D : va_G) (cA : Nat → ClassId) (ad : Nat → Nat) (A : Nat → Prop) (X : q_X) (cc : ByteArray) (own : String) (nL : Nat) : Prop :=
  p.tables.exec = Jvm.exec ∧ c.code = cc ∧ c.maxLocals = nL ∧ s.vm.findClass own = some m.cls ∧ (∀ w ∈ q_TW, w.before args s = true) ∧ (∀ h, va_D A (q_w ad cA h)) ∧ (∀ q, s.heap.size ≤ q → A q) ∧ q_Wd D cA ad A s ∧ (∀ (a n : Nat) (f : Nat → Int32), X a = some (n, f) → va_T .int (ad a) n (fun j => .int (f j)) A s s.heap)
def q_Psi (p : Program) (l : Launch) (e : Env) (R : Room) (s : State) (m : MethodId) (args : Array Value) (below : List Frame) (meth : Method) (c : Code) (cells slots : Nat) (Q : State → Prop) (D : va_G) (cA : Nat → ClassId) (ad : Nat → Nat) (A : Nat → Prop) (nL : Nat) (pc : Nat) (L : q_L) (st : List Value) (h : q_S) : Prop :=
  ∀ (H : Heap) (locs : List Loc) (ls : Array Slot), va_P D q_cn (q_w ad cA h) H → va_S A s.heap H locs → lv_has ls nL (q_ml ad L) → W p l e R s m args below meth c H locs cells slots Q (F0 m pc ls (st.map (q_cv ad)))
theorem q_lk_mem {i : Nat} {v : Value} : ∀ {L : q_L}, q_lk i L = some v → (i, v) ∈ L
  | [], h => by simp [q_lk] at h
  | q :: t, h => by
    unfold q_lk at h
    cases hb : Nat.beq q.1 i with
    | true =>
      rw [hb] at h
      have e1 : q.1 = i := Nat.eq_of_beq_eq_true hb
      have e2 : q.2 = v := Option.some.inj h
      have : q = (i, v) := by cases q; simp_all
      rw [this]
      exact List.mem_cons_self
    | false =>
      rw [hb] at h
      exact List.mem_cons_of_mem _ (q_lk_mem h)
theorem q_lk_ls {ad : Nat → Nat} {ls : Array Slot} {nL i : Nat} {L : q_L} {v : Value} (hl : lv_has ls nL (q_ml ad L)) (h : q_lk i L = some v) : ls[i]? = some (.val (q_cv ad v)) := hl.2.2 (i, q_cv ad v) (List.mem_map.mpr ⟨(i, v), q_lk_mem h, rfl⟩)
theorem q_ml_st1 (ad : Nat → Nat) (L : q_L) (i : Nat) (v : Value) : (i, q_cv ad v) :: (q_ml ad L).filter (fun q => !(q.1 == i) && !(q.1 + 1 == i && q.2.category == 2)) = q_ml ad (q_st1 L i v) := by
  unfold q_ml q_st1
  rw [List.map_cons, List.filter_map]
  congr 2
  refine List.filter_congr fun q _ => ?_
  simp only [Function.comp, q_cv_cat]
theorem q_ml_st2 (ad : Nat → Nat) (L : q_L) (i : Nat) (v : Value) : (i, q_cv ad v) :: (q_ml ad L).filter (fun q => !(q.1 == i) && (!(q.1 == i + 1) && !(q.1 + 1 == i && q.2.category == 2))) = q_ml ad (q_st2 L i v) := by
  unfold q_ml q_st2
  rw [List.map_cons, List.filter_map]
  congr 2
  refine List.filter_congr fun q _ => ?_
  simp only [Function.comp, q_cv_cat]
theorem q_nrm_mem {q : Nat × Value} : ∀ {ks : List Nat} {L : q_L}, q ∈ q_nrm ks L → q ∈ L
  | [], L, h => by simp [q_nrm] at h
  | i :: r, L, h => by
    unfold q_nrm at h
    cases hb : q_lk i L with
    | none =>
      rw [hb] at h
      exact q_nrm_mem h
    | some v =>
      rw [hb] at h
      rcases List.mem_cons.mp h with e | e
      · rw [e]
        exact q_lk_mem hb
      · exact q_nrm_mem e
theorem q_nrm_ls {ad : Nat → Nat} {ls : Array Slot} {nL : Nat} {L : q_L} {ks : List Nat} (hl : lv_has ls nL (q_ml ad L)) : lv_has ls nL (q_ml ad (q_nrm ks L)) := by
  refine ⟨hl.1, hl.2.1, fun q hq => ?_⟩
  obtain ⟨x, hx, rfl⟩ := List.mem_map.mp hq
  exact hl.2.2 _ (List.mem_map.mpr ⟨x, q_nrm_mem hx, rfl⟩)
-- what a combinator says when it answers
theorem q_i_inv {st : List Value} {f : Int32 → List Value → q_A} {r : q_S × Option Value} (h : q_i st f = some r) : ∃ x t, st = .int x :: t ∧ f x t = some r := by
  unfold q_i at h
  split at h
  · exact ⟨_, _, rfl, h⟩
  · cases h
theorem q_ii_inv {st : List Value} {f : Int32 → Int32 → List Value → q_A} {r : q_S × Option Value} (h : q_ii st f = some r) : ∃ x y t, st = .int y :: .int x :: t ∧ f x y t = some r := by
  unfold q_ii at h
  split at h
  · exact ⟨_, _, _, rfl, h⟩
  · cases h
theorem q_l_inv {st : List Value} {f : Int64 → List Value → q_A} {r : q_S × Option Value} (h : q_l st f = some r) : ∃ x t, st = .long x :: t ∧ f x t = some r := by
  unfold q_l at h
  split at h
  · exact ⟨_, _, rfl, h⟩
  · cases h
theorem q_ll_inv {st : List Value} {f : Int64 → Int64 → List Value → q_A} {r : q_S × Option Value} (h : q_ll st f = some r) : ∃ x y t, st = .long y :: .long x :: t ∧ f x y t = some r := by
  unfold q_ll at h
  split at h
  · exact ⟨_, _, _, rfl, h⟩
  · cases h
theorem q_li_inv {st : List Value} {f : Int64 → Int32 → List Value → q_A} {r : q_S × Option Value} (h : q_li st f = some r) : ∃ x y t, st = .int y :: .long x :: t ∧ f x y t = some r := by
  unfold q_li at h
  split at h
  · exact ⟨_, _, _, rfl, h⟩
  · cases h
theorem q_r_inv {st : List Value} {f : Nat → List Value → q_A} {r : q_S × Option Value} (h : q_r st f = some r) : ∃ x t, st = .ref x :: t ∧ f x t = some r := by
  unfold q_r at h
  split at h
  · exact ⟨_, _, rfl, h⟩
  · cases h
theorem q_ri_inv {st : List Value} {f : Nat → Int32 → List Value → q_A} {r : q_S × Option Value} (h : q_ri st f = some r) : ∃ a i t, st = .int i :: .ref a :: t ∧ f a i t = some r := by
  unfold q_ri at h
  split at h
  · exact ⟨_, _, _, rfl, h⟩
  · cases h
theorem q_rr_inv {st : List Value} {f : Nat → Nat → List Value → q_A} {r : q_S × Option Value} (h : q_rr st f = some r) : ∃ a b t, st = .ref b :: .ref a :: t ∧ f a b t = some r := by
  unfold q_rr at h
  split at h
  · exact ⟨_, _, _, rfl, h⟩
  · cases h
theorem q_rii_inv {st : List Value} {f : Nat → Int32 → Int32 → List Value → q_A} {r : q_S × Option Value} (h : q_rii st f = some r) : ∃ a i x t, st = .int x :: .int i :: .ref a :: t ∧ f a i x t = some r := by
  unfold q_rii at h
  split at h
  · exact ⟨_, _, _, _, rfl, h⟩
  · cases h
theorem q_ril_inv {st : List Value} {f : Nat → Int32 → Int64 → List Value → q_A} {r : q_S × Option Value} (h : q_ril st f = some r) : ∃ a i x t, st = .long x :: .int i :: .ref a :: t ∧ f a i x t = some r := by
  unfold q_ril at h
  split at h
  · exact ⟨_, _, _, _, rfl, h⟩
  · cases h
theorem q_ac_inv {st : List Value} {f : Nat → Int32 → Nat → Int32 → Int32 → List Value → q_A} {r : q_S × Option Value} (h : q_ac st f = some r) : ∃ a sp b dp n t, st = .int n :: .int dp :: .ref b :: .int sp :: .ref a :: t ∧ f a sp b dp n t = some r := by
  unfold q_ac at h
  split at h
  · exact ⟨_, _, _, _, _, _, rfl, h⟩
  · cases h
theorem q_b_inv {b : Bool} {f : q_A} {r : q_S × Option Value} (h : q_b b f = some r) : b = true ∧ f = some r := by
  cases b with
  | true => exact ⟨rfl, h⟩
  | false => cases h
theorem q_v_inv {st : List Value} {f : Value → List Value → q_A} {r : q_S × Option Value} (h : q_v st f = some r) : ∃ v t, st = v :: t ∧ v.category = 1 ∧ f v t = some r := by
  unfold q_v at h
  split at h
  · split at h
    · rename_i hb
      exact ⟨_, _, rfl, Nat.eq_of_beq_eq_true hb, h⟩
    · cases h
  · cases h
theorem q_vv_inv {st : List Value} {f : Value → Value → List Value → q_A} {r : q_S × Option Value} (h : q_vv st f = some r) : ∃ v w t, st = v :: w :: t ∧ v.category = 1 ∧ w.category = 1 ∧ f v w t = some r := by
  unfold q_vv at h
  split at h
  · split at h
    · rename_i hb
      have hb := (Bool.and_eq_true _ _).mp hb
      exact ⟨_, _, _, rfl, Nat.eq_of_beq_eq_true hb.1, Nat.eq_of_beq_eq_true hb.2, h⟩
    · cases h
  · cases h
theorem q_gi_inv {L : q_L} {i : Nat} {f : Int32 → q_A} {r : q_S × Option Value} (h : q_gi L i f = some r) : ∃ x, q_lk i L = some (.int x) ∧ f x = some r := by
  unfold q_gi at h
  split at h
  · rename_i hb
    exact ⟨_, hb, h⟩
  · cases h
theorem q_gl_inv {L : q_L} {i : Nat} {f : Int64 → q_A} {r : q_S × Option Value} (h : q_gl L i f = some r) : ∃ x, q_lk i L = some (.long x) ∧ f x = some r := by
  unfold q_gl at h
  split at h
  · rename_i hb
    exact ⟨_, hb, h⟩
  · cases h
theorem q_gr_inv {L : q_L} {i : Nat} {f : Nat → q_A} {r : q_S × Option Value} (h : q_gr L i f = some r) : ∃ x, q_lk i L = some (.ref x) ∧ f x = some r := by
  unfold q_gr at h
  split at h
  · rename_i hb
    exact ⟨_, hb, h⟩
  · cases h
theorem q_ix_inv {i : Int32} {n : Nat} {f : Nat → q_A} {r : q_S × Option Value} (h : q_ix i n f = some r) : vp_in i n ∧ f i.toNatClampNeg = some r := by
  unfold q_ix at h
  split at h
  · cases h
  · rename_i hb
    exact ⟨hb, h⟩
theorem q_sw_inv {x : Int32} {f : Nat → q_A} {r : q_S × Option Value} {d : Nat} : ∀ {sw : List (Int32 × Nat)}, q_sw sw d x f = some r → (∃ (j : Nat) (q : Int32 × Nat), sw[j]? = some q ∧ x = q.1 ∧ f q.2 = some r) ∨ ((∀ q ∈ sw, x ≠ q.1) ∧ f d = some r)
  | [], h => Or.inr ⟨fun q hq => (by cases hq), h⟩
  | q :: t, h => by
    unfold q_sw at h
    split at h
    · rename_i hb
      exact Or.inl ⟨0, q, rfl, hb, h⟩
    · rename_i hb
      rcases q_sw_inv h with ⟨j, q', h1, h2, h3⟩ | ⟨h1, h2⟩
      · exact Or.inl ⟨j + 1, q', h1, h2, h3⟩
      · refine Or.inr ⟨fun y hy => ?_, h2⟩
        rcases List.mem_cons.mp hy with e | e
        · rw [e]; exact hb
        · exact h1 y e
theorem q_pop_inv {f : List Value → List Value → q_A} {r : q_S × Option Value} : ∀ {n : Nat} {as st : List Value}, q_pop n as st f = some r → ∃ xs t, st = xs.reverse ++ t ∧ xs.length = n ∧ f (xs ++ as) t = some r
  | 0, as, st, h => ⟨[], st, rfl, rfl, h⟩
  | n + 1, as, [], h => by cases h
  | n + 1, as, v :: st, h => by
    obtain ⟨xs, t, h1, h2, h3⟩ := q_pop_inv (n := n) (as := v :: as) (st := st) h
    exact ⟨xs ++ [v], t, by simp [h1], by simp [h2], by simpa using h3⟩
theorem q_ca_sum (ad : Nat → Nat) : ∀ st : List Value, ((st.map (q_cv ad)).map fun v => v.category).sum = q_ca st
  | [] => rfl
  | v :: r => by
    rw [List.map_cons, List.map_cons, List.sum_cons, q_ca_sum ad r, q_cv_cat]
    rfl

section QS
variable {p : Program} {l : Launch} {e : Env} {R : Room} {s : State} {m : MethodId} {args : Array Value} {below : List Frame} {meth : Method} {c : Code} {cells slots : Nat} {Q : State → Prop} {D : va_G} {cA : Nat → ClassId} {ad : Nat → Nat} {A : Nat → Prop} {X : q_X} {cc : ByteArray} {own : String} {nL : Nat}
variable {E : q_E} {O : q_O} {k : q_K} {pc : Nat} {L : q_L} {st : List Value} {h : q_S} {r : q_S × Option Value} {au : List Nat} {sw : List (Int32 × Nat)}
theorem qs_iadd {x y : Int32} (hC : q_Cx p l R s m args c D cA ad A X cc own nL) (hd : decode cc pc = .ok (.iadd, 1))  (k : q_Psi p l e R s m args below meth c cells slots Q D cA ad A nL (pc + 1) L (.int (x + y) :: st) h) : q_Psi p l e R s m args below meth c cells slots Q D cA ad A nL pc L (.int y :: .int x :: st) h := by
  intro H locs ls hP hS hl
  exact lv_iadd hC.1 hC.2.1 hd (k H locs ls hP hS hl)
theorem qs_isub {x y : Int32} (hC : q_Cx p l R s m args c D cA ad A X cc own nL) (hd : decode cc pc = .ok (.isub, 1))  (k : q_Psi p l e R s m args below meth c cells slots Q D cA ad A nL (pc + 1) L (.int (x - y) :: st) h) : q_Psi p l e R s m args below meth c cells slots Q D cA ad A nL pc L (.int y :: .int x :: st) h := by
  intro H locs ls hP hS hl
  exact lv_isub hC.1 hC.2.1 hd (k H locs ls hP hS hl)
theorem qs_imul {x y : Int32} (hC : q_Cx p l R s m args c D cA ad A X cc own nL) (hd : decode cc pc = .ok (.imul, 1))  (k : q_Psi p l e R s m args below meth c cells slots Q D cA ad A nL (pc + 1) L (.int (x * y) :: st) h) : q_Psi p l e R s m args below meth c cells slots Q D cA ad A nL pc L (.int y :: .int x :: st) h := by
  intro H locs ls hP hS hl
  exact lv_imul hC.1 hC.2.1 hd (k H locs ls hP hS hl)
theorem qs_iand {x y : Int32} (hC : q_Cx p l R s m args c D cA ad A X cc own nL) (hd : decode cc pc = .ok (.iand, 1))  (k : q_Psi p l e R s m args below meth c cells slots Q D cA ad A nL (pc + 1) L (.int (x &&& y) :: st) h) : q_Psi p l e R s m args below meth c cells slots Q D cA ad A nL pc L (.int y :: .int x :: st) h := by
  intro H locs ls hP hS hl
  exact lv_iand hC.1 hC.2.1 hd (k H locs ls hP hS hl)
theorem qs_ior {x y : Int32} (hC : q_Cx p l R s m args c D cA ad A X cc own nL) (hd : decode cc pc = .ok (.ior, 1))  (k : q_Psi p l e R s m args below meth c cells slots Q D cA ad A nL (pc + 1) L (.int (x ||| y) :: st) h) : q_Psi p l e R s m args below meth c cells slots Q D cA ad A nL pc L (.int y :: .int x :: st) h := by
  intro H locs ls hP hS hl
  exact lv_ior hC.1 hC.2.1 hd (k H locs ls hP hS hl)
theorem qs_ixor {x y : Int32} (hC : q_Cx p l R s m args c D cA ad A X cc own nL) (hd : decode cc pc = .ok (.ixor, 1))  (k : q_Psi p l e R s m args below meth c cells slots Q D cA ad A nL (pc + 1) L (.int (x ^^^ y) :: st) h) : q_Psi p l e R s m args below meth c cells slots Q D cA ad A nL pc L (.int y :: .int x :: st) h := by
  intro H locs ls hP hS hl
  exact lv_ixor hC.1 hC.2.1 hd (k H locs ls hP hS hl)
theorem qs_ladd {x y : Int64} (hC : q_Cx p l R s m args c D cA ad A X cc own nL) (hd : decode cc pc = .ok (.ladd, 1))  (k : q_Psi p l e R s m args below meth c cells slots Q D cA ad A nL (pc + 1) L (.long (x + y) :: st) h) : q_Psi p l e R s m args below meth c cells slots Q D cA ad A nL pc L (.long y :: .long x :: st) h := by
  intro H locs ls hP hS hl
  exact lv_ladd hC.1 hC.2.1 hd (k H locs ls hP hS hl)
theorem qs_lsub {x y : Int64} (hC : q_Cx p l R s m args c D cA ad A X cc own nL) (hd : decode cc pc = .ok (.lsub, 1))  (k : q_Psi p l e R s m args below meth c cells slots Q D cA ad A nL (pc + 1) L (.long (x - y) :: st) h) : q_Psi p l e R s m args below meth c cells slots Q D cA ad A nL pc L (.long y :: .long x :: st) h := by
  intro H locs ls hP hS hl
  exact lv_lsub hC.1 hC.2.1 hd (k H locs ls hP hS hl)
theorem qs_lmul {x y : Int64} (hC : q_Cx p l R s m args c D cA ad A X cc own nL) (hd : decode cc pc = .ok (.lmul, 1))  (k : q_Psi p l e R s m args below meth c cells slots Q D cA ad A nL (pc + 1) L (.long (x * y) :: st) h) : q_Psi p l e R s m args below meth c cells slots Q D cA ad A nL pc L (.long y :: .long x :: st) h := by
  intro H locs ls hP hS hl
  exact lv_lmul hC.1 hC.2.1 hd (k H locs ls hP hS hl)
theorem qs_land {x y : Int64} (hC : q_Cx p l R s m args c D cA ad A X cc own nL) (hd : decode cc pc = .ok (.land, 1))  (k : q_Psi p l e R s m args below meth c cells slots Q D cA ad A nL (pc + 1) L (.long (x &&& y) :: st) h) : q_Psi p l e R s m args below meth c cells slots Q D cA ad A nL pc L (.long y :: .long x :: st) h := by
  intro H locs ls hP hS hl
  exact lv_land hC.1 hC.2.1 hd (k H locs ls hP hS hl)
theorem qs_lor {x y : Int64} (hC : q_Cx p l R s m args c D cA ad A X cc own nL) (hd : decode cc pc = .ok (.lor, 1))  (k : q_Psi p l e R s m args below meth c cells slots Q D cA ad A nL (pc + 1) L (.long (x ||| y) :: st) h) : q_Psi p l e R s m args below meth c cells slots Q D cA ad A nL pc L (.long y :: .long x :: st) h := by
  intro H locs ls hP hS hl
  exact lv_lor hC.1 hC.2.1 hd (k H locs ls hP hS hl)
theorem qs_lxor {x y : Int64} (hC : q_Cx p l R s m args c D cA ad A X cc own nL) (hd : decode cc pc = .ok (.lxor, 1))  (k : q_Psi p l e R s m args below meth c cells slots Q D cA ad A nL (pc + 1) L (.long (x ^^^ y) :: st) h) : q_Psi p l e R s m args below meth c cells slots Q D cA ad A nL pc L (.long y :: .long x :: st) h := by
  intro H locs ls hP hS hl
  exact lv_lxor hC.1 hC.2.1 hd (k H locs ls hP hS hl)
theorem qs_idiv {x y : Int32} (hC : q_Cx p l R s m args c D cA ad A X cc own nL) (hd : decode cc pc = .ok (.idiv, 1)) (hne : ¬ y = 0) (k : q_Psi p l e R s m args below meth c cells slots Q D cA ad A nL (pc + 1) L (.int (x / y) :: st) h) : q_Psi p l e R s m args below meth c cells slots Q D cA ad A nL pc L (.int y :: .int x :: st) h := by
  intro H locs ls hP hS hl
  exact lv_idiv hC.1 hC.2.1 hd hne (k H locs ls hP hS hl)
theorem qs_irem {x y : Int32} (hC : q_Cx p l R s m args c D cA ad A X cc own nL) (hd : decode cc pc = .ok (.irem, 1)) (hne : ¬ y = 0) (k : q_Psi p l e R s m args below meth c cells slots Q D cA ad A nL (pc + 1) L (.int (x - x / y * y) :: st) h) : q_Psi p l e R s m args below meth c cells slots Q D cA ad A nL pc L (.int y :: .int x :: st) h := by
  intro H locs ls hP hS hl
  exact lv_irem hC.1 hC.2.1 hd hne (k H locs ls hP hS hl)
theorem qs_ldiv {x y : Int64} (hC : q_Cx p l R s m args c D cA ad A X cc own nL) (hd : decode cc pc = .ok (.ldiv, 1)) (hne : ¬ y = 0) (k : q_Psi p l e R s m args below meth c cells slots Q D cA ad A nL (pc + 1) L (.long (x / y) :: st) h) : q_Psi p l e R s m args below meth c cells slots Q D cA ad A nL pc L (.long y :: .long x :: st) h := by
  intro H locs ls hP hS hl
  exact lv_ldiv hC.1 hC.2.1 hd hne (k H locs ls hP hS hl)
theorem qs_lrem {x y : Int64} (hC : q_Cx p l R s m args c D cA ad A X cc own nL) (hd : decode cc pc = .ok (.lrem, 1)) (hne : ¬ y = 0) (k : q_Psi p l e R s m args below meth c cells slots Q D cA ad A nL (pc + 1) L (.long (x - x / y * y) :: st) h) : q_Psi p l e R s m args below meth c cells slots Q D cA ad A nL pc L (.long y :: .long x :: st) h := by
  intro H locs ls hP hS hl
  exact lv_lrem hC.1 hC.2.1 hd hne (k H locs ls hP hS hl)
theorem qs_ineg {x : Int32} (hC : q_Cx p l R s m args c D cA ad A X cc own nL) (hd : decode cc pc = .ok (.ineg, 1))  (k : q_Psi p l e R s m args below meth c cells slots Q D cA ad A nL (pc + 1) L (.int (-x) :: st) h) : q_Psi p l e R s m args below meth c cells slots Q D cA ad A nL pc L (.int x :: st) h := by
  intro H locs ls hP hS hl
  exact lv_ineg hC.1 hC.2.1 hd (k H locs ls hP hS hl)
theorem qs_ishl {x y : Int32} (hC : q_Cx p l R s m args c D cA ad A X cc own nL) (hd : decode cc pc = .ok (.ishl, 1))  (k : q_Psi p l e R s m args below meth c cells slots Q D cA ad A nL (pc + 1) L (.int (x <<< (y &&& 31)) :: st) h) : q_Psi p l e R s m args below meth c cells slots Q D cA ad A nL pc L (.int y :: .int x :: st) h := by
  intro H locs ls hP hS hl
  exact lv_ishl hC.1 hC.2.1 hd (k H locs ls hP hS hl)
theorem qs_ishr {x y : Int32} (hC : q_Cx p l R s m args c D cA ad A X cc own nL) (hd : decode cc pc = .ok (.ishr, 1))  (k : q_Psi p l e R s m args below meth c cells slots Q D cA ad A nL (pc + 1) L (.int (x >>> (y &&& 31)) :: st) h) : q_Psi p l e R s m args below meth c cells slots Q D cA ad A nL pc L (.int y :: .int x :: st) h := by
  intro H locs ls hP hS hl
  exact lv_ishr hC.1 hC.2.1 hd (k H locs ls hP hS hl)
theorem qs_lshl {x : Int64} {y : Int32} (hC : q_Cx p l R s m args c D cA ad A X cc own nL) (hd : decode cc pc = .ok (.lshl, 1))  (k : q_Psi p l e R s m args below meth c cells slots Q D cA ad A nL (pc + 1) L (.long (x <<< (y.toInt64 &&& 63)) :: st) h) : q_Psi p l e R s m args below meth c cells slots Q D cA ad A nL pc L (.int y :: .long x :: st) h := by
  intro H locs ls hP hS hl
  exact lv_lshl hC.1 hC.2.1 hd rfl (k H locs ls hP hS hl)
theorem qs_lshr {x : Int64} {y : Int32} (hC : q_Cx p l R s m args c D cA ad A X cc own nL) (hd : decode cc pc = .ok (.lshr, 1))  (k : q_Psi p l e R s m args below meth c cells slots Q D cA ad A nL (pc + 1) L (.long (x >>> (y.toInt64 &&& 63)) :: st) h) : q_Psi p l e R s m args below meth c cells slots Q D cA ad A nL pc L (.int y :: .long x :: st) h := by
  intro H locs ls hP hS hl
  exact lv_lshr hC.1 hC.2.1 hd rfl (k H locs ls hP hS hl)
theorem qs_lcmp {x y : Int64} (hC : q_Cx p l R s m args c D cA ad A X cc own nL) (hd : decode cc pc = .ok (.lcmp, 1))  (k : q_Psi p l e R s m args below meth c cells slots Q D cA ad A nL (pc + 1) L (.int (lg_cmp x y) :: st) h) : q_Psi p l e R s m args below meth c cells slots Q D cA ad A nL pc L (.long y :: .long x :: st) h := by
  intro H locs ls hP hS hl
  exact W.lcmp hC.1 hC.2.1 hd (k H locs ls hP hS hl)
theorem qs_i2l {x : Int32} (hC : q_Cx p l R s m args c D cA ad A X cc own nL) (hd : decode cc pc = .ok (.i2l, 1))  (k : q_Psi p l e R s m args below meth c cells slots Q D cA ad A nL (pc + 1) L (.long x.toInt64 :: st) h) : q_Psi p l e R s m args below meth c cells slots Q D cA ad A nL pc L (.int x :: st) h := by
  intro H locs ls hP hS hl
  exact lv_i2l hC.1 hC.2.1 hd rfl (k H locs ls hP hS hl)
theorem qs_l2i {x : Int64} (hC : q_Cx p l R s m args c D cA ad A X cc own nL) (hd : decode cc pc = .ok (.l2i, 1))  (k : q_Psi p l e R s m args below meth c cells slots Q D cA ad A nL (pc + 1) L (.int x.toInt32 :: st) h) : q_Psi p l e R s m args below meth c cells slots Q D cA ad A nL pc L (.long x :: st) h := by
  intro H locs ls hP hS hl
  exact lv_l2i hC.1 hC.2.1 hd rfl (k H locs ls hP hS hl)
theorem qs_i2b {x : Int32} (hC : q_Cx p l R s m args c D cA ad A X cc own nL) (hd : decode cc pc = .ok (.i2b, 1))  (k : q_Psi p l e R s m args below meth c cells slots Q D cA ad A nL (pc + 1) L (.int x.toInt8.toInt32 :: st) h) : q_Psi p l e R s m args below meth c cells slots Q D cA ad A nL pc L (.int x :: st) h := by
  intro H locs ls hP hS hl
  exact lv_i2b hC.1 hC.2.1 hd rfl (k H locs ls hP hS hl)
theorem qs_dup {v : Value} (hC : q_Cx p l R s m args c D cA ad A X cc own nL) (hd : decode cc pc = .ok (.dup, 1)) (h1 : v.category = 1) (k : q_Psi p l e R s m args below meth c cells slots Q D cA ad A nL (pc + 1) L (v :: v :: st) h) : q_Psi p l e R s m args below meth c cells slots Q D cA ad A nL pc L (v :: st) h := by
  intro H locs ls hP hS hl
  exact lv_dup hC.1 hC.2.1 hd (by rw [q_cv_cat]; exact h1) (k H locs ls hP hS hl)
theorem qs_dup_x1 {v w : Value} (hC : q_Cx p l R s m args c D cA ad A X cc own nL) (hd : decode cc pc = .ok (.dup_x1, 1)) (h1 : v.category = 1) (h2 : w.category = 1) (k : q_Psi p l e R s m args below meth c cells slots Q D cA ad A nL (pc + 1) L (v :: w :: v :: st) h) : q_Psi p l e R s m args below meth c cells slots Q D cA ad A nL pc L (v :: w :: st) h := by
  intro H locs ls hP hS hl
  exact lv_dup_x1 hC.1 hC.2.1 hd (by rw [q_cv_cat]; exact h1) (by rw [q_cv_cat]; exact h2) (k H locs ls hP hS hl)
theorem qs_dup2 {v w : Value} (hC : q_Cx p l R s m args c D cA ad A X cc own nL) (hd : decode cc pc = .ok (.dup2, 1)) (h1 : v.category = 1) (h2 : w.category = 1) (k : q_Psi p l e R s m args below meth c cells slots Q D cA ad A nL (pc + 1) L (v :: w :: v :: w :: st) h) : q_Psi p l e R s m args below meth c cells slots Q D cA ad A nL pc L (v :: w :: st) h := by
  intro H locs ls hP hS hl
  exact lv_dup2_11 hC.1 hC.2.1 hd (by rw [q_cv_cat]; exact h1) (by rw [q_cv_cat]; exact h2) (k H locs ls hP hS hl)
theorem qs_pop {v : Value} (hC : q_Cx p l R s m args c D cA ad A X cc own nL) (hd : decode cc pc = .ok (.pop, 1)) (h1 : v.category = 1) (k : q_Psi p l e R s m args below meth c cells slots Q D cA ad A nL (pc + 1) L (st) h) : q_Psi p l e R s m args below meth c cells slots Q D cA ad A nL pc L (v :: st) h := by
  intro H locs ls hP hS hl
  exact lv_pop hC.1 hC.2.1 hd (by rw [q_cv_cat]; exact h1) (k H locs ls hP hS hl)
theorem qs_iconst {n : Int} {v : Int32} (hC : q_Cx p l R s m args c D cA ad A X cc own nL) (hd : decode cc pc = .ok (.iconst n, 1)) (hv : Int32.ofInt n = v) (k : q_Psi p l e R s m args below meth c cells slots Q D cA ad A nL (pc + 1) L (.int v :: st) h) : q_Psi p l e R s m args below meth c cells slots Q D cA ad A nL pc L (st) h := by
  intro H locs ls hP hS hl
  exact lv_iconst hC.1 hC.2.1 hd hv (k H locs ls hP hS hl)
theorem qs_bipush {n : Int} {v : Int32} (hC : q_Cx p l R s m args c D cA ad A X cc own nL) (hd : decode cc pc = .ok (.bipush n, 2)) (hv : (Int8.ofInt n).toInt32 = v) (k : q_Psi p l e R s m args below meth c cells slots Q D cA ad A nL (pc + 2) L (.int v :: st) h) : q_Psi p l e R s m args below meth c cells slots Q D cA ad A nL pc L (st) h := by
  intro H locs ls hP hS hl
  exact lv_bipush hC.1 hC.2.1 hd hv (k H locs ls hP hS hl)
theorem qs_sipush {n : Int} {v : Int32} (hC : q_Cx p l R s m args c D cA ad A X cc own nL) (hd : decode cc pc = .ok (.sipush n, 3)) (hv : (Int16.ofInt n).toInt32 = v) (k : q_Psi p l e R s m args below meth c cells slots Q D cA ad A nL (pc + 3) L (.int v :: st) h) : q_Psi p l e R s m args below meth c cells slots Q D cA ad A nL pc L (st) h := by
  intro H locs ls hP hS hl
  exact lv_sipush hC.1 hC.2.1 hd hv (k H locs ls hP hS hl)
theorem qs_lconst {n : Fin 2} (hC : q_Cx p l R s m args c D cA ad A X cc own nL) (hd : decode cc pc = .ok (.lconst n, 1))  (k : q_Psi p l e R s m args below meth c cells slots Q D cA ad A nL (pc + 1) L (.long (Int64.ofNat n.val) :: st) h) : q_Psi p l e R s m args below meth c cells slots Q D cA ad A nL pc L (st) h := by
  intro H locs ls hP hS hl
  exact lv_lconst hC.1 hC.2.1 hd rfl (k H locs ls hP hS hl)
theorem qs_ldc2 {i : Nat} {v : Int64} (hC : q_Cx p l R s m args c D cA ad A X cc own nL) (hd : decode cc pc = .ok (.ldc2_w i, 3)) (hw : Cond.constantLong own i v ∈ q_TW) (k : q_Psi p l e R s m args below meth c cells slots Q D cA ad A nL (pc + 3) L (.long v :: st) h) : q_Psi p l e R s m args below meth c cells slots Q D cA ad A nL pc L (st) h := by
  intro H locs ls hP hS hl
  exact lv_ldc2 hC.1 hC.2.1 hC.2.2.2.1 (hC.2.2.2.2.1 _ hw) hd (k H locs ls hP hS hl)
theorem qs_iload_n {n : Fin 4} {x : Int32} (hC : q_Cx p l R s m args c D cA ad A X cc own nL) (hd : decode cc pc = .ok (.iload_n n, 1)) (hk : q_lk n.val L = some (.int x)) (k : q_Psi p l e R s m args below meth c cells slots Q D cA ad A nL (pc + 1) L (.int x :: st) h) : q_Psi p l e R s m args below meth c cells slots Q D cA ad A nL pc L (st) h := by
  intro H locs ls hP hS hl
  exact lv_iload_n hC.1 hC.2.1 hd rfl (q_lk_ls hl hk) (k H locs ls hP hS hl)
theorem qs_iload {n : Nat} {x : Int32} (hC : q_Cx p l R s m args c D cA ad A X cc own nL) (hd : decode cc pc = .ok (.iload n, 2)) (hk : q_lk n L = some (.int x)) (k : q_Psi p l e R s m args below meth c cells slots Q D cA ad A nL (pc + 2) L (.int x :: st) h) : q_Psi p l e R s m args below meth c cells slots Q D cA ad A nL pc L (st) h := by
  intro H locs ls hP hS hl
  exact lv_iload hC.1 hC.2.1 hd (q_lk_ls hl hk) (k H locs ls hP hS hl)
theorem qs_istore_n {n : Fin 4} {x : Int32} (hC : q_Cx p l R s m args c D cA ad A X cc own nL) (hd : decode cc pc = .ok (.istore_n n, 1)) (hn : n.val < nL) (k : q_Psi p l e R s m args below meth c cells slots Q D cA ad A nL (pc + 1) (q_st1 L n.val (.int x)) st h) : q_Psi p l e R s m args below meth c cells slots Q D cA ad A nL pc L (.int x :: st) h := by
  intro H locs ls hP hS hl
  exact lv_istore_n hC.1 hC.2.1 hd rfl hl hn (q_ml_st1 ad L n.val (.int x)) (fun ls hl => k H locs ls hP hS hl)
theorem qs_istore {n : Nat} {x : Int32} (hC : q_Cx p l R s m args c D cA ad A X cc own nL) (hd : decode cc pc = .ok (.istore n, 2)) (hn : n < nL) (k : q_Psi p l e R s m args below meth c cells slots Q D cA ad A nL (pc + 2) (q_st1 L n (.int x)) st h) : q_Psi p l e R s m args below meth c cells slots Q D cA ad A nL pc L (.int x :: st) h := by
  intro H locs ls hP hS hl
  exact lv_istore hC.1 hC.2.1 hd hl hn (q_ml_st1 ad L n (.int x)) (fun ls hl => k H locs ls hP hS hl)
theorem qs_lload_n {n : Fin 4} {x : Int64} (hC : q_Cx p l R s m args c D cA ad A X cc own nL) (hd : decode cc pc = .ok (.lload_n n, 1)) (hk : q_lk n.val L = some (.long x)) (k : q_Psi p l e R s m args below meth c cells slots Q D cA ad A nL (pc + 1) L (.long x :: st) h) : q_Psi p l e R s m args below meth c cells slots Q D cA ad A nL pc L (st) h := by
  intro H locs ls hP hS hl
  exact lv_lload_n hC.1 hC.2.1 hd rfl (q_lk_ls hl hk) (k H locs ls hP hS hl)
theorem qs_lload {n : Nat} {x : Int64} (hC : q_Cx p l R s m args c D cA ad A X cc own nL) (hd : decode cc pc = .ok (.lload n, 2)) (hk : q_lk n L = some (.long x)) (k : q_Psi p l e R s m args below meth c cells slots Q D cA ad A nL (pc + 2) L (.long x :: st) h) : q_Psi p l e R s m args below meth c cells slots Q D cA ad A nL pc L (st) h := by
  intro H locs ls hP hS hl
  exact lv_lload hC.1 hC.2.1 hd (q_lk_ls hl hk) (k H locs ls hP hS hl)
theorem qs_lstore_n {n : Fin 4} {x : Int64} (hC : q_Cx p l R s m args c D cA ad A X cc own nL) (hd : decode cc pc = .ok (.lstore_n n, 1)) (hn : n.val + 1 < nL) (k : q_Psi p l e R s m args below meth c cells slots Q D cA ad A nL (pc + 1) (q_st2 L n.val (.long x)) st h) : q_Psi p l e R s m args below meth c cells slots Q D cA ad A nL pc L (.long x :: st) h := by
  intro H locs ls hP hS hl
  exact lv_lstore_n hC.1 hC.2.1 hd rfl hl hn (q_ml_st2 ad L n.val (.long x)) (fun ls hl => k H locs ls hP hS hl)
theorem qs_lstore {n : Nat} {x : Int64} (hC : q_Cx p l R s m args c D cA ad A X cc own nL) (hd : decode cc pc = .ok (.lstore n, 2)) (hn : n + 1 < nL) (k : q_Psi p l e R s m args below meth c cells slots Q D cA ad A nL (pc + 2) (q_st2 L n (.long x)) st h) : q_Psi p l e R s m args below meth c cells slots Q D cA ad A nL pc L (.long x :: st) h := by
  intro H locs ls hP hS hl
  exact lv_lstore hC.1 hC.2.1 hd hl hn (q_ml_st2 ad L n (.long x)) (fun ls hl => k H locs ls hP hS hl)
theorem qs_aload_n {n : Fin 4} {x : Nat} (hC : q_Cx p l R s m args c D cA ad A X cc own nL) (hd : decode cc pc = .ok (.aload_n n, 1)) (hk : q_lk n.val L = some (.ref x)) (k : q_Psi p l e R s m args below meth c cells slots Q D cA ad A nL (pc + 1) L (.ref x :: st) h) : q_Psi p l e R s m args below meth c cells slots Q D cA ad A nL pc L (st) h := by
  intro H locs ls hP hS hl
  exact lv_aload_n hC.1 hC.2.1 hd rfl (q_lk_ls hl hk) (k H locs ls hP hS hl)
theorem qs_aload {n : Nat} {x : Nat} (hC : q_Cx p l R s m args c D cA ad A X cc own nL) (hd : decode cc pc = .ok (.aload n, 2)) (hk : q_lk n L = some (.ref x)) (k : q_Psi p l e R s m args below meth c cells slots Q D cA ad A nL (pc + 2) L (.ref x :: st) h) : q_Psi p l e R s m args below meth c cells slots Q D cA ad A nL pc L (st) h := by
  intro H locs ls hP hS hl
  exact lv_aload hC.1 hC.2.1 hd (q_lk_ls hl hk) (k H locs ls hP hS hl)
theorem qs_astore_n {n : Fin 4} {x : Nat} (hC : q_Cx p l R s m args c D cA ad A X cc own nL) (hd : decode cc pc = .ok (.astore_n n, 1)) (hn : n.val < nL) (k : q_Psi p l e R s m args below meth c cells slots Q D cA ad A nL (pc + 1) (q_st1 L n.val (.ref x)) st h) : q_Psi p l e R s m args below meth c cells slots Q D cA ad A nL pc L (.ref x :: st) h := by
  intro H locs ls hP hS hl
  exact lv_astore_n hC.1 hC.2.1 hd rfl hl hn (q_ml_st1 ad L n.val (.ref x)) (fun ls hl => k H locs ls hP hS hl)
theorem qs_astore {n : Nat} {x : Nat} (hC : q_Cx p l R s m args c D cA ad A X cc own nL) (hd : decode cc pc = .ok (.astore n, 2)) (hn : n < nL) (k : q_Psi p l e R s m args below meth c cells slots Q D cA ad A nL (pc + 2) (q_st1 L n (.ref x)) st h) : q_Psi p l e R s m args below meth c cells slots Q D cA ad A nL pc L (.ref x :: st) h := by
  intro H locs ls hP hS hl
  exact lv_astore hC.1 hC.2.1 hd hl hn (q_ml_st1 ad L n (.ref x)) (fun ls hl => k H locs ls hP hS hl)
theorem qs_iinc {n : Nat} {z : Int} {x v : Int32} (hC : q_Cx p l R s m args c D cA ad A X cc own nL) (hd : decode cc pc = .ok (.iinc n z, 3)) (hk : q_lk n L = some (.int x)) (hv : Int32.ofInt z = v) (hn : n < nL) (k : q_Psi p l e R s m args below meth c cells slots Q D cA ad A nL (pc + 3) (q_st1 L n (.int (x + v))) st h) : q_Psi p l e R s m args below meth c cells slots Q D cA ad A nL pc L st h := by
  intro H locs ls hP hS hl
  have hm : (n, Value.int x) ∈ q_ml ad L := List.mem_map.mpr ⟨(n, .int x), q_lk_mem hk, rfl⟩
  obtain ⟨j, hj⟩ := List.getElem?_of_mem hm
  exact lv_iinc hC.1 hC.2.1 hd hl hj (by rw [hv]) hn (q_ml_st1 ad L n (.int (x + v))) (fun ls hl => k H locs ls hP hS hl)
theorem qs_goto {off : Int} {t : Nat} (hC : q_Cx p l R s m args c D cA ad A X cc own nL) (hd : decode cc pc = .ok (.goto off, 3)) (ht : (pc : Int) + off = (t : Int)) (k : q_Psi p l e R s m args below meth c cells slots Q D cA ad A nL t L st h) : q_Psi p l e R s m args below meth c cells slots Q D cA ad A nL pc L st h := by
  intro H locs ls hP hS hl
  exact lv_goto hC.1 hC.2.1 hd ht (k H locs ls hP hS hl)
theorem qs_if_eq {x : Int32} {off : Int} {t : Nat} (hC : q_Cx p l R s m args c D cA ad A X cc own nL) (hd : decode cc pc = .ok (.ifCond .eq off, 3)) (ht : (pc : Int) + off = (t : Int)) (k1 : x = 0 → q_Psi p l e R s m args below meth c cells slots Q D cA ad A nL t L st h) (k2 : ¬ x = 0 → q_Psi p l e R s m args below meth c cells slots Q D cA ad A nL (pc + 3) L st h) : q_Psi p l e R s m args below meth c cells slots Q D cA ad A nL pc L (.int x :: st) h := by
  intro H locs ls hP hS hl
  exact lv_if_eq hC.1 hC.2.1 hd ht (fun q => k1 q H locs ls hP hS hl) (fun q => k2 q H locs ls hP hS hl)
theorem qs_if_ne {x : Int32} {off : Int} {t : Nat} (hC : q_Cx p l R s m args c D cA ad A X cc own nL) (hd : decode cc pc = .ok (.ifCond .ne off, 3)) (ht : (pc : Int) + off = (t : Int)) (k1 : x = 0 → q_Psi p l e R s m args below meth c cells slots Q D cA ad A nL (pc + 3) L st h) (k2 : ¬ x = 0 → q_Psi p l e R s m args below meth c cells slots Q D cA ad A nL t L st h) : q_Psi p l e R s m args below meth c cells slots Q D cA ad A nL pc L (.int x :: st) h := by
  intro H locs ls hP hS hl
  exact lv_if_ne hC.1 hC.2.1 hd ht (fun q => k2 q H locs ls hP hS hl) (fun q => k1 q H locs ls hP hS hl)
theorem qs_if_lt {x : Int32} {off : Int} {t : Nat} (hC : q_Cx p l R s m args c D cA ad A X cc own nL) (hd : decode cc pc = .ok (.ifCond .lt off, 3)) (ht : (pc : Int) + off = (t : Int)) (k1 : x < 0 → q_Psi p l e R s m args below meth c cells slots Q D cA ad A nL t L st h) (k2 : ¬ x < 0 → q_Psi p l e R s m args below meth c cells slots Q D cA ad A nL (pc + 3) L st h) : q_Psi p l e R s m args below meth c cells slots Q D cA ad A nL pc L (.int x :: st) h := by
  intro H locs ls hP hS hl
  exact lv_if_lt hC.1 hC.2.1 hd ht (fun q => k1 q H locs ls hP hS hl) (fun q => k2 q H locs ls hP hS hl)
theorem qs_if_ge {x : Int32} {off : Int} {t : Nat} (hC : q_Cx p l R s m args c D cA ad A X cc own nL) (hd : decode cc pc = .ok (.ifCond .ge off, 3)) (ht : (pc : Int) + off = (t : Int)) (k1 : x < 0 → q_Psi p l e R s m args below meth c cells slots Q D cA ad A nL (pc + 3) L st h) (k2 : ¬ x < 0 → q_Psi p l e R s m args below meth c cells slots Q D cA ad A nL t L st h) : q_Psi p l e R s m args below meth c cells slots Q D cA ad A nL pc L (.int x :: st) h := by
  intro H locs ls hP hS hl
  exact lv_if_ge hC.1 hC.2.1 hd ht (fun q => k2 (Int32.not_lt.mpr q) H locs ls hP hS hl) (fun q => k1 (Int32.not_le.mp q) H locs ls hP hS hl)
theorem qs_if_gt {x : Int32} {off : Int} {t : Nat} (hC : q_Cx p l R s m args c D cA ad A X cc own nL) (hd : decode cc pc = .ok (.ifCond .gt off, 3)) (ht : (pc : Int) + off = (t : Int)) (k1 : 0 < x → q_Psi p l e R s m args below meth c cells slots Q D cA ad A nL t L st h) (k2 : ¬ 0 < x → q_Psi p l e R s m args below meth c cells slots Q D cA ad A nL (pc + 3) L st h) : q_Psi p l e R s m args below meth c cells slots Q D cA ad A nL pc L (.int x :: st) h := by
  intro H locs ls hP hS hl
  exact lv_if_gt hC.1 hC.2.1 hd ht (fun q => k1 q H locs ls hP hS hl) (fun q => k2 q H locs ls hP hS hl)
theorem qs_if_le {x : Int32} {off : Int} {t : Nat} (hC : q_Cx p l R s m args c D cA ad A X cc own nL) (hd : decode cc pc = .ok (.ifCond .le off, 3)) (ht : (pc : Int) + off = (t : Int)) (k1 : 0 < x → q_Psi p l e R s m args below meth c cells slots Q D cA ad A nL (pc + 3) L st h) (k2 : ¬ 0 < x → q_Psi p l e R s m args below meth c cells slots Q D cA ad A nL t L st h) : q_Psi p l e R s m args below meth c cells slots Q D cA ad A nL pc L (.int x :: st) h := by
  intro H locs ls hP hS hl
  exact lv_if_le hC.1 hC.2.1 hd ht (fun q => k2 (Int32.not_lt.mpr q) H locs ls hP hS hl) (fun q => k1 (Int32.not_le.mp q) H locs ls hP hS hl)
theorem qs_icmp_eq {x y : Int32} {off : Int} {t : Nat} (hC : q_Cx p l R s m args c D cA ad A X cc own nL) (hd : decode cc pc = .ok (.if_icmp .eq off, 3)) (ht : (pc : Int) + off = (t : Int)) (k1 : x = y → q_Psi p l e R s m args below meth c cells slots Q D cA ad A nL t L st h) (k2 : ¬ x = y → q_Psi p l e R s m args below meth c cells slots Q D cA ad A nL (pc + 3) L st h) : q_Psi p l e R s m args below meth c cells slots Q D cA ad A nL pc L (.int y :: .int x :: st) h := by
  intro H locs ls hP hS hl
  exact lv_icmp_eq hC.1 hC.2.1 hd ht (fun q => k1 q H locs ls hP hS hl) (fun q => k2 q H locs ls hP hS hl)
theorem qs_icmp_ne {x y : Int32} {off : Int} {t : Nat} (hC : q_Cx p l R s m args c D cA ad A X cc own nL) (hd : decode cc pc = .ok (.if_icmp .ne off, 3)) (ht : (pc : Int) + off = (t : Int)) (k1 : x = y → q_Psi p l e R s m args below meth c cells slots Q D cA ad A nL (pc + 3) L st h) (k2 : ¬ x = y → q_Psi p l e R s m args below meth c cells slots Q D cA ad A nL t L st h) : q_Psi p l e R s m args below meth c cells slots Q D cA ad A nL pc L (.int y :: .int x :: st) h := by
  intro H locs ls hP hS hl
  exact lv_icmp_ne hC.1 hC.2.1 hd ht (fun q => k2 q H locs ls hP hS hl) (fun q => k1 q H locs ls hP hS hl)
theorem qs_icmp_lt {x y : Int32} {off : Int} {t : Nat} (hC : q_Cx p l R s m args c D cA ad A X cc own nL) (hd : decode cc pc = .ok (.if_icmp .lt off, 3)) (ht : (pc : Int) + off = (t : Int)) (k1 : x < y → q_Psi p l e R s m args below meth c cells slots Q D cA ad A nL t L st h) (k2 : ¬ x < y → q_Psi p l e R s m args below meth c cells slots Q D cA ad A nL (pc + 3) L st h) : q_Psi p l e R s m args below meth c cells slots Q D cA ad A nL pc L (.int y :: .int x :: st) h := by
  intro H locs ls hP hS hl
  exact lv_icmp_lt hC.1 hC.2.1 hd ht (fun q => k1 q H locs ls hP hS hl) (fun q => k2 q H locs ls hP hS hl)
theorem qs_icmp_ge {x y : Int32} {off : Int} {t : Nat} (hC : q_Cx p l R s m args c D cA ad A X cc own nL) (hd : decode cc pc = .ok (.if_icmp .ge off, 3)) (ht : (pc : Int) + off = (t : Int)) (k1 : x < y → q_Psi p l e R s m args below meth c cells slots Q D cA ad A nL (pc + 3) L st h) (k2 : ¬ x < y → q_Psi p l e R s m args below meth c cells slots Q D cA ad A nL t L st h) : q_Psi p l e R s m args below meth c cells slots Q D cA ad A nL pc L (.int y :: .int x :: st) h := by
  intro H locs ls hP hS hl
  exact lv_icmp_ge hC.1 hC.2.1 hd ht (fun q => k2 (Int32.not_lt.mpr q) H locs ls hP hS hl) (fun q => k1 (Int32.not_le.mp q) H locs ls hP hS hl)
theorem qs_icmp_gt {x y : Int32} {off : Int} {t : Nat} (hC : q_Cx p l R s m args c D cA ad A X cc own nL) (hd : decode cc pc = .ok (.if_icmp .gt off, 3)) (ht : (pc : Int) + off = (t : Int)) (k1 : y < x → q_Psi p l e R s m args below meth c cells slots Q D cA ad A nL t L st h) (k2 : ¬ y < x → q_Psi p l e R s m args below meth c cells slots Q D cA ad A nL (pc + 3) L st h) : q_Psi p l e R s m args below meth c cells slots Q D cA ad A nL pc L (.int y :: .int x :: st) h := by
  intro H locs ls hP hS hl
  exact lv_icmp_gt hC.1 hC.2.1 hd ht (fun q => k1 q H locs ls hP hS hl) (fun q => k2 q H locs ls hP hS hl)
theorem qs_icmp_le {x y : Int32} {off : Int} {t : Nat} (hC : q_Cx p l R s m args c D cA ad A X cc own nL) (hd : decode cc pc = .ok (.if_icmp .le off, 3)) (ht : (pc : Int) + off = (t : Int)) (k1 : y < x → q_Psi p l e R s m args below meth c cells slots Q D cA ad A nL (pc + 3) L st h) (k2 : ¬ y < x → q_Psi p l e R s m args below meth c cells slots Q D cA ad A nL t L st h) : q_Psi p l e R s m args below meth c cells slots Q D cA ad A nL pc L (.int y :: .int x :: st) h := by
  intro H locs ls hP hS hl
  exact lv_icmp_le hC.1 hC.2.1 hd ht (fun q => k2 (Int32.not_lt.mpr q) H locs ls hP hS hl) (fun q => k1 (Int32.not_le.mp q) H locs ls hP hS hl)
end QS
