/-! ===== frames of what is held alike ===== -/
abbrev qT : Type := Nat → Nat → Int32
def qt (t : qT) (a i : Nat) (x : Int32) : qT := fun b j => if b = a ∧ j = i then x else t b j
section QF
variable {h h2 : q_S} {l m : qv_L} {t t' : qT} {P : Nat → Nat → Int64}
theorem f_c1 (hf : ∀ a j, 12 ≤ a ∧ a ≤ 17 → h2.1 a j = h.1 a j) (c : qv_at h 12 l) : qv_at h2 12 l := ⟨(hf _ _ (by omega)).trans c.1, (hf _ _ (by omega)).trans c.2.1, (hf _ _ (by omega)).trans c.2.2.1, fun a i x y z => (hf _ _ (by omega)).trans (c.2.2.2 a i x y z)⟩
theorem f_c1t (hf : ∀ a j, 18 ≤ a ∧ a ≤ 23 → h2.1 a j = h.1 a j) (c : qv_at h 18 l) : qv_at h2 18 l := ⟨(hf _ _ (by omega)).trans c.1, (hf _ _ (by omega)).trans c.2.1, (hf _ _ (by omega)).trans c.2.2.1, fun a i x y z => (hf _ _ (by omega)).trans (c.2.2.2 a i x y z)⟩
theorem f_c2 (hf : ∀ a j, a = 0 ∨ (24 ≤ a ∧ a ≤ 29) ∨ (34 ≤ a ∧ a ≤ 37) → h2.1 a j = h.1 a j) (ht : ∀ a j, (a = 0 ∧ (j = 11 ∨ j = 12)) ∨ (10 ≤ a ∧ a ≤ 12) → t' a j = t a j) (c : qs_c2 h m t) : qs_c2 h2 m t' := by
  have e := ht 0 11 (by omega)
  refine ⟨(hf _ _ (by omega)).trans (c.1.trans e.symm), fun q => ?_⟩
  obtain ⟨d1, d2, d3⟩ := c.2 (e ▸ q)
  exact ⟨⟨(hf _ _ (by omega)).trans d1.1, (hf _ _ (by omega)).trans d1.2.1, (hf _ _ (by omega)).trans d1.2.2.1, fun a i x y z => (hf _ _ (by omega)).trans (d1.2.2.2 a i x y z)⟩, (hf _ _ (by omega)).trans (d2.trans (ht _ _ (by omega)).symm), fun a i x y => (hf _ _ (by omega)).trans ((d3 a i x y).trans (ht _ _ (by omega)).symm)⟩
theorem f_c3 (hf : ∀ a j, 30 ≤ a ∧ a ≤ 33 → h2.1 a j = h.1 a j) (ht : ∀ a j, (a = 0 ∧ j = 0) ∨ (1 ≤ a ∧ a ≤ 3) → t' a j = t a j) (c : qs_c3 h t) : qs_c3 h2 t' := ⟨(hf _ _ (by omega)).trans (c.1.trans (ht _ _ (by omega)).symm), fun a i x y => (hf _ _ (by omega)).trans ((c.2 a i x y).trans (ht _ _ (by omega)).symm)⟩
theorem f_c4 (hf : ∀ a j, 38 ≤ a ∧ a ≤ 42 → h2.1 a j = h.1 a j) (ht : ∀ a j, (a = 0 ∧ (j = 1 ∨ j = 2)) ∨ (4 ≤ a ∧ a ≤ 7) → t' a j = t a j) (c : qs_c4 h t) : qs_c4 h2 t' := ⟨(hf _ _ (by omega)).trans (c.1.trans (ht _ _ (by omega)).symm), (hf _ _ (by omega)).trans (c.2.1.trans (ht _ _ (by omega)).symm), fun a i x y => (hf _ _ (by omega)).trans ((c.2.2 a i x y).trans (ht _ _ (by omega)).symm)⟩
theorem f_c5 (hf : ∀ a j, 57 ≤ a ∧ a ≤ 58 → h2.1 a j = h.1 a j) (ht : ∀ a j, (a = 0 ∧ j = 3) ∨ a = 8 → t' a j = t a j) (c : qs_c5 h t) : qs_c5 h2 t' := ⟨(hf _ _ (by omega)).trans (c.1.trans (ht _ _ (by omega)).symm), fun i x => (hf _ _ (by omega)).trans ((c.2 i x).trans (ht _ _ (by omega)).symm)⟩
theorem f_c6 (hf : ∀ a j, 61 ≤ a ∧ a ≤ 63 → h2.1 a j = h.1 a j) (hg : ∀ a j, 64 ≤ a ∧ a ≤ 66 → h2.2.1 a j = h.2.1 a j) (ht : ∀ a j, a = 0 ∧ 4 ≤ j ∧ j ≤ 9 → t' a j = t a j) (c : qs_c6 h t P) : qs_c6 h2 t' P := by
  intro r hr
  obtain ⟨d1, d2, d3⟩ := c r hr
  exact ⟨(hf _ _ (by omega)).trans (d1.trans (ht _ _ (by omega)).symm), (hf _ _ (by omega)).trans (d2.trans (ht _ _ (by omega)).symm), fun i x => (hg _ _ (by omega)).trans (d3 i x)⟩
theorem f_c7 (hf : ∀ a j, 2 ≤ a ∧ a ≤ 11 → h2.1 a j = h.1 a j) (hl : h2.2.2 = h.2.2) (ht : ∀ a j, (a = 0 ∧ j = 10) ∨ a = 9 → t' a j = t a j) (c : qs_c7 h t) : qs_c7 h2 t' := by
  have e := ht 0 10 (by omega)
  rcases c with ⟨d1, d2⟩ | ⟨k, hk, d1, d2, d3⟩
  · exact Or.inl ⟨hl.trans d1, e.trans d2⟩
  · exact Or.inr ⟨k, hk, hl.trans d1, (hf _ _ (by omega)).trans (d2.trans e.symm), fun i x y => (hf _ _ (by omega)).trans ((d3 i x (by rw [← e]; exact y)).trans (ht _ _ (by omega)).symm)⟩
theorem f_z (hg : ∀ a j, 48 ≤ a ∧ a ≤ 56 → h2.2.1 a j = h.2.1 a j) (c : qr_z h) : qr_z h2 := fun r j x y => (hg _ _ (by omega)).trans (c r j x y)
theorem f_r1 (hf : ∀ a j, (a = 67 ∧ j < 3) ∨ (68 ≤ a ∧ a ≤ 72) → h2.1 a j = h.1 a j) (c : qw_at h l) : qw_at h2 l := ⟨(hf _ _ (by omega)).trans c.1, (hf _ _ (by omega)).trans c.2.1, (hf _ _ (by omega)).trans c.2.2.1, fun a i x y z => (hf _ _ (by omega)).trans (c.2.2.2 a i x y z)⟩
theorem f_r2 (hf : ∀ a j, (a = 67 ∧ j = 45) ∨ (a = 98 ∧ 70 ≤ j) ∨ (99 ≤ a ∧ a ≤ 101) → h2.1 a j = h.1 a j) (ht : ∀ a j, (a = 0 ∧ (j = 11 ∨ j = 12)) ∨ (10 ≤ a ∧ a ≤ 12) → t' a j = t a j) (c : qs_r2 h m t) : qs_r2 h2 m t' := by
  have e := ht 0 11 (by omega)
  refine ⟨fun q => (hf _ _ (by omega)).trans (c.1 (e ▸ q)), fun q => ?_⟩
  obtain ⟨d1, ⟨d2, d3, d4, d5, d6, d7⟩, d8⟩ := c.2 (e ▸ q)
  exact ⟨(hf _ _ (by omega)).trans d1, ⟨(hf _ _ (by omega)).trans d2, (hf _ _ (by omega)).trans d3, (hf _ _ (by omega)).trans d4, (hf _ _ (by omega)).trans (d5.trans (ht _ _ (by omega)).symm), fun a i x y z => (hf _ _ (by omega)).trans (d6 a i x y z), fun a i x y => (hf _ _ (by omega)).trans ((d7 a i x y).trans (ht _ _ (by omega)).symm)⟩, fun i x => ⟨(hf _ _ (by omega)).trans (d8 i x).1, (hf _ _ (by omega)).trans (d8 i x).2.1, (hf _ _ (by omega)).trans (d8 i x).2.2⟩⟩
theorem f_r3 (hf : ∀ a j, (a = 67 ∧ j = 26) ∨ (89 ≤ a ∧ a ≤ 91) → h2.1 a j = h.1 a j) (ht : ∀ a j, (a = 0 ∧ j = 0) ∨ (1 ≤ a ∧ a ≤ 3) → t' a j = t a j) (c : qs_r3 h t) : qs_r3 h2 t' := ⟨(hf _ _ (by omega)).trans (c.1.trans (ht _ _ (by omega)).symm), fun a i x y => (hf _ _ (by omega)).trans ((c.2 a i x y).trans (ht _ _ (by omega)).symm)⟩
theorem f_r4 (hf : ∀ a j, (a = 67 ∧ (j = 20 ∨ j = 21)) ∨ (81 ≤ a ∧ a ≤ 84) → h2.1 a j = h.1 a j) (ht : ∀ a j, (a = 0 ∧ (j = 1 ∨ j = 2)) ∨ (4 ≤ a ∧ a ≤ 7) → t' a j = t a j) (c : qs_r4 h t) : qs_r4 h2 t' := ⟨(hf _ _ (by omega)).trans (c.1.trans (ht _ _ (by omega)).symm), (hf _ _ (by omega)).trans (c.2.1.trans (ht _ _ (by omega)).symm), fun a i x y => (hf _ _ (by omega)).trans ((c.2.2 a i x y).trans (ht _ _ (by omega)).symm)⟩
theorem f_r5 (hf : ∀ a j, (a = 67 ∧ j = 35) ∨ a = 92 → h2.1 a j = h.1 a j) (ht : ∀ a j, (a = 0 ∧ j = 3) ∨ a = 8 → t' a j = t a j) (c : qs_r5 h t) : qs_r5 h2 t' := ⟨(hf _ _ (by omega)).trans (c.1.trans (ht _ _ (by omega)).symm), fun i x => (hf _ _ (by omega)).trans ((c.2 i x).trans (ht _ _ (by omega)).symm)⟩
theorem f_r6 (hf : ∀ a j, 85 ≤ a ∧ a ≤ 86 → h2.1 a j = h.1 a j) (hg : ∀ a j, a = 87 → h2.2.1 a j = h.2.1 a j) (ht : ∀ a j, a = 0 ∧ 4 ≤ j ∧ j ≤ 9 → t' a j = t a j) (c : qs_r6 h t P) : qs_r6 h2 t' P := by
  intro r hr
  obtain ⟨d1, d2, d3⟩ := c r hr
  exact ⟨(hf _ _ (by omega)).trans (d1.trans (ht _ _ (by omega)).symm), (hf _ _ (by omega)).trans (d2.trans (ht _ _ (by omega)).symm), fun i x => (hg _ _ rfl).trans (d3 i x)⟩
theorem f_r7 (hf : ∀ a j, (a = 67 ∧ j = 39) ∨ a = 97 → h2.1 a j = h.1 a j) (ht : ∀ a j, (a = 0 ∧ j = 10) ∨ a = 9 → t' a j = t a j) (c : qs_r7 h t) : qs_r7 h2 t' := by
  have e := ht 0 10 (by omega)
  exact ⟨(hf _ _ (by omega)).trans (c.1.trans e.symm), fun i x y => (hf _ _ (by omega)).trans ((c.2 i x (by rw [← e]; exact y)).trans (ht _ _ (by omega)).symm)⟩
theorem f_or {z a : Nat} (ht : ∀ b j, (b = 0 ∧ j = z) ∨ b = a → t' b j = t b j) (c : qs_or t z a) : qs_or t' z a := by
  obtain ⟨w, hw, e, f⟩ := c
  refine ⟨w, hw, (ht _ _ (Or.inl ⟨rfl, rfl⟩)).trans e, fun i hi => ?_⟩
  obtain ⟨k, hk, g⟩ := f i hi
  exact ⟨k, hk, (ht _ _ (Or.inr rfl)).trans g⟩
theorem f_im (ht : ∀ a j, (a = 0 ∧ (j = 11 ∨ j = 12)) ∨ (10 ≤ a ∧ a ≤ 12) → t' a j = t a j) (c : qs_im m t) : qs_im m t' := by
  have e := ht 0 11 (by omega)
  rcases c with c | ⟨c1, c2, c3⟩
  · exact Or.inl (e.trans c)
  · exact Or.inr ⟨e.trans c1, c2, f_or (fun b j q => ht b j (by omega)) c3⟩
theorem f_ch (ht : ∀ a j, (a = 0 ∧ (j = 1 ∨ j = 2)) ∨ (4 ≤ a ∧ a ≤ 7) → t' a j = t a j) (c : qs_ch l t) : qs_ch l t' := by
  obtain ⟨L, dn, un, c1, c2, c3, c4, c5⟩ := c
  refine ⟨L, dn, un, (ht _ _ (by omega)).trans c1, (ht _ _ (by omega)).trans c2, c3, c4, fun i hi => ?_⟩
  rw [ht 4 i (by omega), ht 5 i (by omega), ht 6 i (by omega), ht 7 i (by omega)]
  exact c5 i hi
theorem f_tp (ht : ∀ a j, (a = 0 ∧ j = 3) ∨ a = 8 → t' a j = t a j) (c : qs_tp t) : qs_tp t' := by
  obtain ⟨n, hn, e, f⟩ := c
  refine ⟨n, hn, (ht _ _ (by omega)).trans e, fun i hi => ?_⟩
  obtain ⟨k, hk, hk2, g⟩ := f i hi
  exact ⟨k, hk, hk2, (ht _ _ (by omega)).trans g⟩
theorem f_rw (ht : ∀ a j, a = 0 ∧ 4 ≤ j ∧ j ≤ 9 → t' a j = t a j) (c : qs_rw t) : qs_rw t' := by
  intro r hr
  obtain ⟨n, hn, e, f⟩ := c r hr
  rw [← ht 0 (4 + r) (by omega)] at f
  exact ⟨n, hn, (ht _ _ (by omega)).trans e, f⟩
theorem f_tc (ht : ∀ a j, (a = 0 ∧ j = 10) ∨ a = 9 → t' a j = t a j) (c : qs_tc t) : qs_tc t' := by
  obtain ⟨n, hn, e⟩ := c
  exact ⟨n, hn, (ht _ _ (by omega)).trans e⟩
end QF
theorem qt_eq {t : qT} {a i : Nat} {x : Int32} : qt t a i x a i = x := by simp [qt]
theorem qt_ne {t : qT} {a i b j : Nat} {x : Int32} (hn : ¬ (b = a ∧ j = i)) : qt t a i x b j = t b j := by simp only [qt]; rw [if_neg hn]
theorem mk_ok {l m : qv_L} {t : qT} {P : Nat → Nat → Int64} (a : qv_ok l) (b : qs_im m t) (c : qs_or t 0 1) (d : qs_ch l t) (e : qs_tp t) (f : qs_rw t) (g : qs_tc t) : qs_ok (l, m, t, P) := ⟨a, b, c, d, e, f, g⟩
theorem mk_C {h : q_S} {l m : qv_L} {t : qT} {P : Nat → Nat → Int64} (a : qv_at h 12 l) (b : qs_c2 h m t) (c : qs_c3 h t) (d : qs_c4 h t) (e : qs_c5 h t) (f : qs_c6 h t P) (g : qs_c7 h t) (z : qr_z h) : qs_C h (l, m, t, P) := ⟨a, b, c, d, e, f, g, z⟩
theorem mk_R {h : q_S} {l m : qv_L} {t : qT} {P : Nat → Nat → Int64} (a : qw_at h l) (b : qs_r2 h m t) (c : qs_r3 h t) (d : qs_r4 h t) (e : qs_r5 h t) (f : qs_r6 h t P) (g : qs_r7 h t) : qs_R h (l, m, t, P) := ⟨a, b, c, d, e, f, g⟩
/-- line and changes move, and nothing else -/
def qk (s s' : qs) : Prop := s'.2.1 = s.2.1 ∧ s'.2.2.2 = s.2.2.2 ∧ ∀ a j, ¬ ((a = 0 ∧ (j = 1 ∨ j = 2)) ∨ (4 ≤ a ∧ a ≤ 7)) → s'.2.2.1 a j = s.2.2.1 a j
def qs_sk (y y' : Nat) (as : List Value) : Prop := ∀ s, qs_ok s → ∃ (v : Int32) (s' : qs), qs_ok s' ∧ qk s s' ∧ (∀ (d : Nat) (h : q_S), qs_C h s → ∃ h1, q_sem (d + 14) y h (.ref 0 :: as) = some (h1, some (.int v)) ∧ qs_C h1 s') ∧ (∀ (d : Nat) (h : q_S), qs_R h s → ∃ h1, q_sem (d + 14) y' h (.ref 67 :: as) = some (h1, some (.int v)) ∧ qs_R h1 s')
theorem qs_sk_st {y y' : Nat} {as : List Value} (k : qs_sk y y' as) : qs_st y y' as := by
  intro s hs
  obtain ⟨v, s', a, b, c, d⟩ := k s hs
  exact ⟨.int v, s', a, c, d⟩
theorem qs_nok {y y' : Nat} {as : List Value} {s : qs} (v : Int32) (hs : qs_ok s) (a : ∀ (d : Nat) (h : q_S), qs_C h s → q_sem (d + 14) y h (.ref 0 :: as) = some (h, some (.int v))) (b : ∀ (d : Nat) (h : q_S), qs_R h s → q_sem (d + 14) y' h (.ref 67 :: as) = some (h, some (.int v))) : ∃ (v : Int32) (s' : qs), qs_ok s' ∧ qk s s' ∧ (∀ (d : Nat) (h : q_S), qs_C h s → ∃ h1, q_sem (d + 14) y h (.ref 0 :: as) = some (h1, some (.int v)) ∧ qs_C h1 s') ∧ (∀ (d : Nat) (h : q_S), qs_R h s → ∃ h1, q_sem (d + 14) y' h (.ref 67 :: as) = some (h1, some (.int v)) ∧ qs_R h1 s') :=
  ⟨v, s, hs, ⟨rfl, rfl, fun _ _ _ => rfl⟩, fun d h hc => ⟨h, a d h hc, hc⟩, fun d h hr => ⟨h, b d h hr, hr⟩⟩
