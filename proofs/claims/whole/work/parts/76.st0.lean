/-! ===== how both begin ===== -/
def q_h0 : q_S := (fun a => if a = 85 then upd (upd (upd (fun _ => 0) 0 (-1)) 1 (-1)) 2 (-1) else if a = 61 then (fun j => if j = 1 then -1 else 0) else if a = 62 then (fun j => if j = 1 then -1 else 0) else if a = 63 then (fun j => if j = 1 then -1 else 0) else if a = 67 then (fun j => if j = 45 then -1 else 0) else fun _ => 0, fun _ _ => 0, none)
def q_t0 : qT := fun a j => if a = 0 ∧ 4 ≤ j ∧ j ≤ 6 then -1 else 0
def q_s0 : qs := (fun _ _ => 0, fun _ _ => 0, q_t0, fun _ _ => 0)
theorem h0_z {a j : Nat} (h : a ≠ 85 ∧ a ≠ 61 ∧ a ≠ 62 ∧ a ≠ 63 ∧ (a = 67 → j ≠ 45)) : q_h0.1 a j = nI 0 := by
  show (if a = 85 then upd (upd (upd (fun _ => 0) 0 (-1)) 1 (-1)) 2 (-1) else if a = 61 then (fun j => if j = 1 then -1 else 0) else if a = 62 then (fun j => if j = 1 then -1 else 0) else if a = 63 then (fun j => if j = 1 then -1 else 0) else if a = 67 then (fun j => if j = 45 then -1 else 0) else fun _ => (0 : Int32)) j = nI 0
  rw [if_neg h.1, if_neg h.2.1, if_neg h.2.2.1, if_neg h.2.2.2.1]
  by_cases w : a = 67
  · rw [if_pos w, if_neg (h.2.2.2.2 w)]
    rfl
  · rw [if_neg w]
    rfl
theorem t0_z {a j : Nat} (h : ¬ (a = 0 ∧ 4 ≤ j ∧ j ≤ 6)) : q_s0.2.2.1 a j = nI 0 := if_neg h
theorem t0_s {r : Nat} (h : r < 3) : q_s0.2.2.1 0 (4 + r) = -1 := if_pos (by omega)
theorem ok_s0 : qs_ok q_s0 := by
  refine ⟨⟨by decide, by decide, by decide, fun i _ => ⟨Nat.zero_le _, Nat.zero_le _, Nat.zero_le _, Nat.zero_le _, Nat.zero_le _⟩, fun i hi => absurd hi (Nat.not_lt_zero _), fun i hi => absurd hi (Nat.not_lt_zero _), by decide⟩, Or.inl (t0_z (by omega)), ⟨0, by omega, t0_z (by omega), fun i hi => absurd hi (Nat.not_lt_zero _)⟩, ⟨fun _ => q_s0.1, 0, 0, t0_z (by omega), t0_z (by omega), by omega, rfl, fun i hi => absurd hi (Nat.not_lt_zero _)⟩, ⟨0, by omega, t0_z (by omega), fun i hi => absurd hi (Nat.not_lt_zero _)⟩, fun r hr => ⟨0, by omega, t0_z (by omega), Or.inl ⟨t0_s hr, rfl⟩⟩, ⟨0, by omega, t0_z (by omega)⟩⟩
theorem C_s0 : qs_C q_h0 q_s0 := by
  refine ⟨⟨h0_z (by omega), h0_z (by omega), h0_z (by omega), fun a i _ _ _ => h0_z (by omega)⟩, ⟨(h0_z (by omega)).trans (t0_z (by omega)).symm, fun e => absurd ((t0_z (a := 0) (j := 11) (by omega)).symm.trans e) (by decide)⟩, ⟨(h0_z (by omega)).trans (t0_z (by omega)).symm, fun a i _ _ => (h0_z (by omega)).trans (t0_z (by omega)).symm⟩, ⟨(h0_z (by omega)).trans (t0_z (by omega)).symm, (h0_z (by omega)).trans (t0_z (by omega)).symm, fun a i _ _ => (h0_z (by omega)).trans (t0_z (by omega)).symm⟩, ⟨(h0_z (by omega)).trans (t0_z (by omega)).symm, fun i _ => (h0_z (by omega)).trans (t0_z (by omega)).symm⟩, fun r hr => ⟨Eq.trans ?_ (t0_s hr).symm, Eq.trans ?_ (t0_z (by omega)).symm, fun i _ => rfl⟩, Or.inl ⟨rfl, t0_z (by omega)⟩, fun _ _ _ _ => rfl⟩
  · rcases q3 hr with rfl | rfl | rfl <;> rfl
  · rcases q3 hr with rfl | rfl | rfl <;> rfl
theorem R_s0 : qs_R q_h0 q_s0 := by
  refine ⟨⟨h0_z (by omega), h0_z (by omega), h0_z (by omega), fun a i _ _ _ => h0_z (by omega)⟩, ⟨fun _ => rfl, fun e => absurd ((t0_z (a := 0) (j := 11) (by omega)).symm.trans e) (by decide)⟩, ⟨(h0_z (by omega)).trans (t0_z (by omega)).symm, fun a i _ _ => (h0_z (by omega)).trans (t0_z (by omega)).symm⟩, ⟨(h0_z (by omega)).trans (t0_z (by omega)).symm, (h0_z (by omega)).trans (t0_z (by omega)).symm, fun a i _ _ => (h0_z (by omega)).trans (t0_z (by omega)).symm⟩, ⟨(h0_z (by omega)).trans (t0_z (by omega)).symm, fun i _ => (h0_z (by omega)).trans (t0_z (by omega)).symm⟩, fun r hr => ⟨Eq.trans ?_ (t0_s hr).symm, (h0_z (by omega)).trans (t0_z (by omega)).symm, fun i _ => rfl⟩, ⟨(h0_z (by omega)).trans (t0_z (by omega)).symm, fun i _ e => by
    rw [show q_s0.2.2.1 0 10 = nI 0 from t0_z (by omega), nI_lt_iff (by omega) (by omega)] at e
    omega⟩⟩
  rcases q3 hr with rfl | rfl | rfl <;> rfl
theorem ao_spec {args : Array Value} {s : State} (h : (Cond.arrayOver (.array .long)).before args s = true) : ∃ comp c k, s.vm.findClass "[J" = some comp ∧ s.vm.classes[c]? = some k ∧ k.kind = .array comp (.array .long) ∧ s.vm.findClass "[[J" = some c := by
  simp only [Cond.before, Cond.holds, Cond.value, beq_iff_eq] at h
  cases e1 : s.vm.findClass (FieldType.array .long).toString with
  | none => rw [e1] at h; simp at h
  | some comp =>
    rw [e1] at h
    simp only [Option.bind_some, Option.bind_eq_some_iff, Option.map_eq_some_iff] at h
    obtain ⟨c, hi, k, hk, hb⟩ := h
    obtain ⟨hlt, hp, -⟩ := Array.findIdx?_eq_some_iff_getElem.mp hi
    rw [(Array.getElem?_eq_some_iff.mp hk).2] at hp
    cases e2 : k.kind with
    | array c2 ty =>
      rw [e2] at hb hp
      simp only [Bool.and_eq_true, decide_eq_true_eq, beq_iff_eq] at hb hp
      exact ⟨comp, c, k, e1, hk, by rw [e2, hp, hb.1], hb.2⟩
    | _ => rw [e2] at hb; simp at hb
theorem ra_congr {D : va_G} {cl : List vw_C} {a n : Nat} {c : ClassId} {f g : Nat → Option Nat} {H : Heap} (h : va_at D cl (a, .inl (c, n, .inr (.inr (.inr (.inr f))))) H) (e : ∀ j, j < n → f j = g j) : va_at D cl (a, .inl (c, n, .inr (.inr (.inr (.inr g))))) H := by
  have h : H[a]? = some (vp_cell c (n, .inr (.inr (.inr (.inr f))))) := h
  show H[a]? = some (vp_cell c (n, .inr (.inr (.inr (.inr g)))))
  rw [h, vp_cell_q, vp_cell_q]
  congr 1
  unfold arrV
  congr 1
  apply Array.ext
  · simp
  · intro i h1 h2
    simp only [Array.size_ofFn] at h1
    simp [e i h1]
