def q_nfT : List Nat := [6, 4, 4, 4, 9, 4, 5, 4, 3, 4, 4, 12, 47]
def q_nf (c : Nat) : Nat := (q_nfT[c]?).getD 0
def q_ftT : List (List Nat) := [[1, 1, 1, 1, 0, 0], [1, 0, 0, 0], [1, 0, 0, 0], [1, 0, 0, 0], [1, 1, 1, 1, 1, 1, 0, 0, 0], [1, 1, 1, 0], [0, 1, 1, 1, 1], [1, 0, 0, 0], [1, 0, 0], [1, 0, 0, 0], [1, 0, 0, 1], [1, 2, 1, 1, 1, 0, 1, 1, 1, 1, 1, 1], [0, 0, 0, 1, 1, 1, 1, 1, 1, 1, 1, 1, 1, 1, 1, 1, 1, 1, 1, 1, 0, 0, 1, 1, 1, 1, 0, 1, 1, 1, 1, 1, 1, 1, 1, 0, 0, 0, 1, 0, 1, 1, 1, 1, 0, 0, 0]]
def q_ft (c k : Nat) : Nat := (((q_ftT[c]?).getD [])[k]?).getD 9
/-! ===== what the cells are on the heap ===== -/
def q_cv (ad : Nat → Nat) : Value → Value
  | .ref a => .ref (ad a)
  | v => v
theorem q_cv_cat (ad : Nat → Nat) (v : Value) : (q_cv ad v).category = v.category := by cases v <;> rfl
def q_fv (ad : Nat → Nat) (h : q_S) (i k : Nat) : Value := match q_ft (q_cls i) k with
  | 0 => .int (h.1 i k)
  | 1 => .ref (ad (q_rf i k))
  | _ => q_cv ad (q_rv h.2.2)
def q_cell (ad : Nat → Nat) (cA : Nat → ClassId) (h : q_S) (i : Nat) : va_E := match q_ty i with
  | 0 => .inl (cA 0, q_ln i, .inl (h.1 i))
  | 1 => .inl (cA 1, q_ln i, .inr (.inl (h.2.1 i)))
  | 2 => .inl (cA (q_ak i), q_ln i, .inr (.inr (.inr (.inr (fun k => some (ad (q_rf i k)))))))
  | _ => .inr (q_cls i, (List.range (q_nf (q_cls i))).map (q_fv ad h i))
def q_w (ad : Nat → Nat) (cA : Nat → ClassId) (h : q_S) : va_W := (List.range 102).map (fun i => (ad i, q_cell ad cA h i))
def q_tys (cA : Nat → ClassId) : List (ClassId × FieldType) := [(cA 0, .int), (cA 1, .long), (cA 2, .object "WhirlShafts$Disc"), (cA 3, .object "WhirlShafts$Row"), (cA 4, .array .long)]
theorem q_w_at {ad : Nat → Nat} {cA : Nat → ClassId} {h : q_S} {i : Nat} (hi : i < 102) : (q_w ad cA h)[i]? = some (ad i, q_cell ad cA h i) := by
  simp [q_w, hi]
theorem q_w_set {ad : Nat → Nat} {cA : Nat → ClassId} {h h' : q_S} {i : Nat} {e : va_E} (hi : i < 102) (hc : q_cell ad cA h' i = e) (ho : ∀ j, j < 102 → j ≠ i → q_cell ad cA h' j = q_cell ad cA h j) : (q_w ad cA h).set i (ad i, e) = q_w ad cA h' := by
  apply List.ext_getElem?
  intro j
  by_cases hj : j < 102
  · rw [q_w_at (h := h') hj, List.getElem?_set]
    by_cases e1 : i = j
    · subst e1
      simp [q_w, hi, hc]
    · rw [if_neg e1, q_w_at (h := h) hj, ho j hj (fun q => e1 q.symm)]
  · rw [List.getElem?_eq_none (by simp [q_w]; omega), List.getElem?_eq_none (by simp [q_w]; omega)]
theorem q_D_any {ad : Nat → Nat} {cA : Nat → ClassId} {A : Nat → Prop} {h : q_S} (h' : q_S) (hD : va_D A (q_w ad cA h)) : va_D A (q_w ad cA h') := by
  have key : ∀ (k : Nat) (q : Nat × va_E), (q_w ad cA h')[k]? = some q → (q_w ad cA h)[k]? = some (q.1, q_cell ad cA h k) := by
    intro k q hq
    have hk : k < 102 := by
      have := (List.getElem?_eq_some_iff.mp hq).1
      simpa [q_w] using this
    rw [q_w_at hk] at hq ⊢
    rw [← Option.some.inj hq]
  exact ⟨fun i j p q h1 h2 he => hD.1 i j _ _ (key i p h1) (key j q h2) he, fun k q h1 => hD.2 k (q.1, q_cell ad cA h k) (key k q h1)⟩
theorem q_at2_out {α : Type} {d : α} {T : List (List α)} {i : Nat} (h : 16 * T.length ≤ i) : q_at2 d T i = d := by
  unfold q_at2
  rw [List.getElem?_eq_none (by omega)]
theorem q_ty_out {a : Nat} (h : 102 ≤ a) : q_ty a = 4 ∨ q_ty a = 9 := by
  by_cases h2 : a < 112
  · have : ∀ b, b < 112 → 102 ≤ b → (q_ty b = 4 ∨ q_ty b = 9) := by decide +kernel
    exact this a h2 h
  · right
    exact q_at2_out (by simp; omega)
theorem q_cls_out {a : Nat} (h : 102 ≤ a) : q_cls a = 99 := by
  by_cases h2 : a < 112
  · have : ∀ b, b < 112 → 102 ≤ b → q_cls b = 99 := by decide +kernel
    exact this a h2 h
  · exact q_at2_out (by simp; omega)
theorem q_ty_lt {a n : Nat} (h : q_ty a = n) (h4 : n ≠ 4) (h9 : n ≠ 9) : a < 102 := by
  rcases Nat.lt_or_ge a 102 with q | q
  · exact q
  · rcases q_ty_out q with e | e
    · exact absurd (h.symm.trans e) h4
    · exact absurd (h.symm.trans e) h9
theorem q_cls_obj {a : Nat} (h : q_cls a ≠ 99) : a < 102 ∧ q_ty a = 3 := by
  rcases Nat.lt_or_ge a 102 with q | q
  · have : ∀ b, b < 102 → (q_cls b ≠ 99 → q_ty b = 3) := by decide +kernel
    exact ⟨q, this a q h⟩
  · exact absurd (q_cls_out q) h
theorem q_sub_obj {a D : Nat} (h : q_sub (q_cls a) D = true) : a < 102 ∧ q_ty a = 3 ∧ q_cls a < 13 := by
  have hc : q_cls a < 13 := by
    rcases Nat.lt_or_ge (q_cls a) 13 with q | q
    · exact q
    · unfold q_sub at h
      rw [List.getElem?_eq_none (by simp [q_subT]; omega)] at h
      simp [q_memb] at h
  have := q_cls_obj (a := a) (by omega)
  exact ⟨this.1, this.2, hc⟩
theorem q_cell_obj {ad : Nat → Nat} {cA : Nat → ClassId} {h : q_S} {a : Nat} (ht : q_ty a = 3) : q_cell ad cA h a = .inr (q_cls a, (List.range (q_nf (q_cls a))).map (q_fv ad h a)) := by
  unfold q_cell
  rw [ht]
  rfl
theorem q_cell_i {ad : Nat → Nat} {cA : Nat → ClassId} {h : q_S} {a : Nat} (ht : q_ty a = 0) : q_cell ad cA h a = .inl (cA 0, q_ln a, .inl (h.1 a)) := by
  unfold q_cell
  rw [ht]
  rfl
theorem q_cell_l {ad : Nat → Nat} {cA : Nat → ClassId} {h : q_S} {a : Nat} (ht : q_ty a = 1) : q_cell ad cA h a = .inl (cA 1, q_ln a, .inr (.inl (h.2.1 a))) := by
  unfold q_cell
  rw [ht]
  rfl
theorem q_cell_r {ad : Nat → Nat} {cA : Nat → ClassId} {h : q_S} {a : Nat} (ht : q_ty a = 2) : q_cell ad cA h a = .inl (cA (q_ak a), q_ln a, .inr (.inr (.inr (.inr (fun k => some (ad (q_rf a k))))))) := by
  unfold q_cell
  rw [ht]
  rfl
theorem q_ty_cases (a : Nat) : q_ty a = 0 ∨ q_ty a = 1 ∨ q_ty a = 2 ∨ q_ty a = 3 ∨ q_ty a = 4 ∨ q_ty a = 9 := by
  rcases Nat.lt_or_ge a 102 with q | q
  · have : ∀ b, b < 102 → (q_ty b = 0 ∨ q_ty b = 1 ∨ q_ty b = 2 ∨ q_ty b = 3 ∨ q_ty b = 4 ∨ q_ty b = 9) := by decide +kernel
    exact this a q
  · rcases q_ty_out q with e | e
    · exact Or.inr (Or.inr (Or.inr (Or.inr (Or.inl e))))
    · exact Or.inr (Or.inr (Or.inr (Or.inr (Or.inr e))))
/-- a cell other than the one written stays -/
theorem q_cell_si {ad : Nat → Nat} {cA : Nat → ClassId} {h : q_S} {a i j : Nat} {x : Int32} (hj : j ≠ a) : q_cell ad cA (q_si h a i x) j = q_cell ad cA h j := by
  have e1 : (q_si h a i x).1 j = h.1 j := by funext k; simp [q_si, hj]
  have e2 : q_fv ad (q_si h a i x) j = q_fv ad h j := by
    funext k
    unfold q_fv
    rw [e1]
    rfl
  unfold q_cell
  rw [e1, e2]
  rfl
theorem q_cell_sl {ad : Nat → Nat} {cA : Nat → ClassId} {h : q_S} {a i j : Nat} {x : Int64} (hj : j ≠ a) : q_cell ad cA (q_sl h a i x) j = q_cell ad cA h j := by
  have e1 : (q_sl h a i x).2.1 j = h.2.1 j := by funext k; simp [q_sl, hj]
  unfold q_cell
  rw [e1]
  rfl
theorem q_cell_cpi {ad : Nat → Nat} {cA : Nat → ClassId} {h : q_S} {a sp b dp n j : Nat} (hj : j ≠ b) : q_cell ad cA (q_cpi h a sp b dp n) j = q_cell ad cA h j := by
  have e1 : (q_cpi h a sp b dp n).1 j = h.1 j := by funext k; simp [q_cpi, hj]
  have e2 : q_fv ad (q_cpi h a sp b dp n) j = q_fv ad h j := by
    funext k
    unfold q_fv
    rw [e1]
    rfl
  unfold q_cell
  rw [e1, e2]
  rfl
theorem q_cell_cpl {ad : Nat → Nat} {cA : Nat → ClassId} {h : q_S} {a sp b dp n j : Nat} (hj : j ≠ b) : q_cell ad cA (q_cpl h a sp b dp n) j = q_cell ad cA h j := by
  have e1 : (q_cpl h a sp b dp n).2.1 j = h.2.1 j := by funext k; simp [q_cpl, hj]
  unfold q_cell
  rw [e1]
  rfl
theorem q_range_set {f g : Nat → Value} {N k : Nat} {v : Value} (hk : g k = v) (ho : ∀ j, j < N → j ≠ k → g j = f j) : ((List.range N).map f).set k v = (List.range N).map g := by
  apply List.ext_getElem?
  intro j
  by_cases hj : j < N
  · rw [List.getElem?_set]
    by_cases e : k = j
    · subst e
      simp [hj, hk]
    · rw [if_neg e]
      simp [hj, ho j hj (fun q => e q.symm)]
  · rw [List.getElem?_eq_none (by simp; omega), List.getElem?_eq_none (by simp; omega)]
