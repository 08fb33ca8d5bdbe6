/-! ===== changes are added; set ===== -/
theorem arc_i {h : q_S} {a b sp dp n : Nat} {f : q_S → q_A} (ta : q_ty a = 0) (tb : q_ty b = 0) (la : sp + n ≤ q_ln a) (lb : dp + n ≤ q_ln b) (h1 : q_ln a < 1000) (h2 : q_ln b < 1000) : q_arc h a (nI sp) b (nI dp) (nI n) f = f (q_cpi h a sp b dp n) := by
  unfold q_arc
  rw [nI_clamp (show sp < 2 ^ 31 by omega), nI_clamp (show dp < 2 ^ 31 by omega), nI_clamp (show n < 2 ^ 31 by omega), if_neg, ta, tb]
  · rfl
  · rintro (q | q | q | q | q)
    · exact nI_lt0 (by omega) q
    · exact nI_lt0 (by omega) q
    · exact nI_lt0 (by omega) q
    · omega
    · omega
theorem cpi_eq {h : q_S} {a b sp dp n j : Nat} : (q_cpi h a sp b dp n).1 b j = if dp ≤ j ∧ j < dp + n then h.1 a (sp + (j - dp)) else h.1 b j := by
  simp [q_cpi, va_cpy]
theorem cpi_ne {h : q_S} {a b sp dp n c j : Nat} (hc : c ≠ b) : (q_cpi h a sp b dp n).1 c j = h.1 c j := by
  simp [q_cpi, hc]
def qx_a (x1 x2 x3 x4 : Int32) (a : Nat) : Int32 := if a = 0 then x1 else if a = 1 then x2 else if a = 2 then x3 else x4
def qx_add (dn : Nat) (f : Nat → Int32) (x : Int32) (i : Nat) : Int32 := if dn = 12 then (if i = 11 then x else f (i + 1)) else if i = dn then x else f i
theorem q4 {a : Nat} (h : a < 4) : a = 0 ∨ a = 1 ∨ a = 2 ∨ a = 3 := by omega
theorem s1 (d : Nat) (h : q_S) (dn : Nat) (hd : dn ≤ 12) (e : h.1 38 4 = nI dn) (x1 x2 x3 x4 : Int32) : ∃ h2, q_sem (d + 2) 1 h [.ref 38, .int x1, .int x2, .int x3, .int x4] = some (h2, none) ∧ h2.1 38 4 = nI (min (dn + 1) 12) ∧ h2.1 38 5 = 0 ∧ (∀ a i, a < 4 → i < 12 → h2.1 (39 + a) i = qx_add dn (h.1 (39 + a)) (qx_a x1 x2 x3 x4 a) i) ∧ (∀ a j, ¬ (38 ≤ a ∧ a ≤ 42) → h2.1 a j = h.1 a j) ∧ h2.2 = h.2 := by
  have key : ∀ (g : q_S) (m : Nat), m < 12 → g.1 38 4 = nI m → g.1 38 5 = 0 → g.2 = h.2 → (∀ a j, ¬ (38 ≤ a ∧ a ≤ 42) → g.1 a j = h.1 a j) → m + 1 = min (dn + 1) 12 → (∀ a i, a < 4 → i < 12 → (if i = m then qx_a x1 x2 x3 x4 a else g.1 (39 + a) i) = qx_add dn (h.1 (39 + a)) (qx_a x1 x2 x3 x4 a) i) → ∃ h2, q_go e_1 q_X0 (q_sem (d + 1)) 999 18 [(0, .ref 38), (1, .int x1), (2, .int x2), (3, .int x3), (4, .int x4)] [] g = some (h2, none) ∧ h2.1 38 4 = nI (min (dn + 1) 12) ∧ h2.1 38 5 = 0 ∧ (∀ a i, a < 4 → i < 12 → h2.1 (39 + a) i = qx_add dn (h.1 (39 + a)) (qx_a x1 x2 x3 x4 a) i) ∧ (∀ a j, ¬ (38 ≤ a ∧ a ≤ 42) → h2.1 a j = h.1 a j) ∧ h2.2 = h.2 := by
    intro g m hm e4 e5 el ef em ea
    refine ⟨q_si (q_si (q_si (q_si (q_si g 39 m x1) 40 m x2) 41 m x3) 42 m x4) 38 4 (nI (m + 1)), ?_, ?_, ?_, ?_, ?_, ?_⟩
    · rw [b1_18, e4, q_ix_n hm (by decide), q_ix_n hm (by decide), q_ix_n hm (by decide), q_ix_n hm (by decide), nI_p1]
    · rw [qw_si_eq, em]
    · rw [qw_si_ne (by omega), qw_si_ne (by omega), qw_si_ne (by omega), qw_si_ne (by omega), qw_si_ne (by omega), e5]
    · intro a i ha hi
      rw [← ea a i ha hi, qw_si_ne (by omega)]
      by_cases z : i = m
      · rw [if_pos z, z]
        rcases q4 ha with rfl | rfl | rfl | rfl
        · rw [qw_si_ne (by omega), qw_si_ne (by omega), qw_si_ne (by omega), qw_si_eq]; rfl
        · rw [qw_si_ne (by omega), qw_si_ne (by omega), qw_si_eq]; rfl
        · rw [qw_si_ne (by omega), qw_si_eq]; rfl
        · rw [qw_si_eq]; rfl
      · rw [if_neg z, qw_si_ne (by omega), qw_si_ne (by omega), qw_si_ne (by omega), qw_si_ne (by omega)]
    · intro a j q
      rw [qw_si_ne (by omega), qw_si_ne (by omega), qw_si_ne (by omega), qw_si_ne (by omega), qw_si_ne (by omega)]
      exact ef a j q
    · exact el
  rw [m1, e]
  by_cases z : dn = 12
  · rw [if_neg (by rw [z]; decide), m2]
    have a1 : ∀ g : q_S, g.1 38 4 = 11 → g.1 38 4 = nI 11 := fun g q => q
    rw [show (q_arc (q_si (q_si h 38 5 0) 38 4 11) 39 1 39 0 11) = (q_arc (q_si (q_si h 38 5 0) 38 4 11) 39 (nI 1) 39 (nI 0) (nI 11)) from rfl, arc_i rfl rfl (by decide) (by decide) (by decide) (by decide)]
    rw [show (q_cpi (q_si (q_si h 38 5 0) 38 4 11) 39 1 39 0 11).1 38 4 = nI 11 from (cpi_ne (by omega)).trans (qw_si_eq _ _ _ _), show (1 : Int32) = nI 1 from rfl, show (0 : Int32) = nI 0 from rfl, arc_i rfl rfl (by decide) (by decide) (by decide) (by decide)]
    rw [show (q_cpi (q_cpi (q_si (q_si h 38 5 (nI 0)) 38 4 11) 39 1 39 0 11) 40 1 40 0 11).1 38 4 = nI 11 from (cpi_ne (by omega)).trans ((cpi_ne (by omega)).trans (qw_si_eq _ _ _ _)), arc_i rfl rfl (by decide) (by decide) (by decide) (by decide)]
    rw [show (q_cpi (q_cpi (q_cpi (q_si (q_si h 38 5 (nI 0)) 38 4 11) 39 1 39 0 11) 40 1 40 0 11) 41 1 41 0 11).1 38 4 = nI 11 from (cpi_ne (by omega)).trans ((cpi_ne (by omega)).trans ((cpi_ne (by omega)).trans (qw_si_eq _ _ _ _))), arc_i rfl rfl (by decide) (by decide) (by decide) (by decide), q_c0_s]
    refine key _ 11 (by omega) ?_ ?_ rfl ?_ (by omega) ?_
    · rw [cpi_ne (by omega), cpi_ne (by omega), cpi_ne (by omega), cpi_ne (by omega), qw_si_eq]; rfl
    · rw [cpi_ne (by omega), cpi_ne (by omega), cpi_ne (by omega), cpi_ne (by omega), qw_si_ne (by omega), qw_si_eq]; rfl
    · intro a j q
      rw [cpi_ne (by omega), cpi_ne (by omega), cpi_ne (by omega), cpi_ne (by omega), qw_si_ne (by omega), qw_si_ne (by omega)]
    · intro a i ha hi
      unfold qx_add
      rw [if_pos z]
      by_cases w : i = 11
      · rw [if_pos w, if_pos w]
      · rw [if_neg w, if_neg w]
        have u : ∀ g : q_S, ∀ c, (q_cpi g c 1 c 0 11).1 c i = g.1 c (i + 1) := by
          intro g c
          rw [cpi_eq, if_pos (by omega), Nat.sub_zero, Nat.add_comm]
        rcases q4 ha with rfl | rfl | rfl | rfl
        · rw [cpi_ne (by omega), cpi_ne (by omega), cpi_ne (by omega), u, qw_si_ne (by omega), qw_si_ne (by omega)]
        · rw [cpi_ne (by omega), cpi_ne (by omega), u, cpi_ne (by omega), qw_si_ne (by omega), qw_si_ne (by omega)]
        · rw [cpi_ne (by omega), u, cpi_ne (by omega), cpi_ne (by omega), qw_si_ne (by omega), qw_si_ne (by omega)]
        · rw [u, cpi_ne (by omega), cpi_ne (by omega), cpi_ne (by omega), qw_si_ne (by omega), qw_si_ne (by omega)]
  · rw [if_pos (by rw [show (12 : Int32) = nI 12 from rfl, nI_lt_iff (by omega) (by omega)]; omega)]
    refine key _ dn (by omega) ?_ (qw_si_eq _ _ _ _) rfl (fun a j q => qw_si_ne (by omega)) (by omega) ?_
    · rw [qw_si_ne (by omega)]; exact e
    · intro a i ha hi
      unfold qx_add
      rw [if_neg z, qw_si_ne (by omega)]
theorem l144 (X : q_X) (O : q_O) (h : q_S) (x1 x2 x3 x4 : Int32) : ∀ m f k g, k + m = 12 → 1 ≤ k → g.2 = h.2 → (∀ a j, ¬ (81 ≤ a ∧ a ≤ 84) → g.1 a j = h.1 a j) → (∀ a i, a < 4 → i < 12 → g.1 (81 + a) i = if i + 1 < k then h.1 (81 + a) (i + 1) else h.1 (81 + a) i) → ∃ g2, q_go e_144 X O (f + 1 + m) 12 [(0, .ref 67), (1, .int x1), (2, .int x2), (3, .int x3), (4, .int x4), (5, .int (nI k))] [] g = q_go e_144 X O (f + 1) 12 [(0, .ref 67), (1, .int x1), (2, .int x2), (3, .int x3), (4, .int x4), (5, .int (nI 12))] [] g2 ∧ g2.2 = h.2 ∧ (∀ a j, ¬ (81 ≤ a ∧ a ≤ 84) → g2.1 a j = h.1 a j) ∧ (∀ a i, a < 4 → i < 12 → g2.1 (81 + a) i = if i + 1 < 12 then h.1 (81 + a) (i + 1) else h.1 (81 + a) i) := by
  intro m
  induction m with
  | zero =>
    intro f k g hk h1 e1 e2 e3
    have : k = 12 := by omega
    subst this
    exact ⟨g, rfl, e1, e2, e3⟩
  | succ m ih =>
    intro f k g hk h1 e1 e2 e3
    obtain ⟨r, rfl⟩ : ∃ r, k = r + 1 := ⟨k - 1, by omega⟩
    rw [show f + 1 + (m + 1) = (f + 1 + m) + 1 by omega, b144_12, if_pos (by rw [show (12 : Int32) = nI 12 from rfl, nI_lt_iff (by omega) (by omega)]; omega), nI_m1, nI_p1, q_ix_n (by omega) (by decide), q_ix_n (by omega) (by decide), q_ix_n (by omega) (by decide), q_ix_n (by omega) (by decide), q_ix_n (by omega) (by decide), q_ix_n (by omega) (by decide), q_ix_n (by omega) (by decide), q_ix_n (by omega) (by decide)]
    refine ih f (r + 1 + 1) _ (by omega) (by omega) e1 ?_ ?_
    · intro a j q
      rw [qw_si_ne (by omega), qw_si_ne (by omega), qw_si_ne (by omega), qw_si_ne (by omega)]
      exact e2 a j q
    · intro a i ha hi
      have v := e3 a (r + 1) ha (by omega)
      rw [if_neg (by omega)] at v
      by_cases z : i = r
      · subst z
        rw [if_pos (by omega)]
        rcases q4 ha with rfl | rfl | rfl | rfl
        · rw [qw_si_ne (by omega), qw_si_ne (by omega), qw_si_ne (by omega), qw_si_eq]; exact v
        · rw [qw_si_ne (by omega), qw_si_ne (by omega), qw_si_eq]; exact v
        · rw [qw_si_ne (by omega), qw_si_eq]; exact v
        · rw [qw_si_eq]; exact v
      · rw [qw_si_ne (by omega), qw_si_ne (by omega), qw_si_ne (by omega), qw_si_ne (by omega), e3 a i ha hi]
        by_cases y : i + 1 < r + 1
        · rw [if_pos y, if_pos (by omega)]
        · rw [if_neg y, if_neg (by omega)]
theorem s144 (d : Nat) (h : q_S) (dn : Nat) (hd : dn ≤ 12) (e : h.1 67 20 = nI dn) (x1 x2 x3 x4 : Int32) : ∃ h2, q_sem (d + 1) 144 h [.ref 67, .int x1, .int x2, .int x3, .int x4] = some (h2, none) ∧ h2.1 67 20 = nI (min (dn + 1) 12) ∧ h2.1 67 21 = 0 ∧ (∀ a i, a < 4 → i < 12 → h2.1 (81 + a) i = qx_add dn (h.1 (81 + a)) (qx_a x1 x2 x3 x4 a) i) ∧ (∀ a j, ¬ ((a = 67 ∧ (j = 20 ∨ j = 21)) ∨ (81 ≤ a ∧ a ≤ 84)) → h2.1 a j = h.1 a j) ∧ h2.2 = h.2 := by
  have key : ∀ (f : Nat) (g : q_S) (m : Nat), m < 12 → g.1 67 20 = nI m → g.2 = h.2 → (∀ a j, ¬ ((a = 67 ∧ (j = 20 ∨ j = 21)) ∨ (81 ≤ a ∧ a ≤ 84)) → g.1 a j = h.1 a j) → m + 1 = min (dn + 1) 12 → (∀ a i, a < 4 → i < 12 → (if i = m then qx_a x1 x2 x3 x4 a else g.1 (81 + a) i) = qx_add dn (h.1 (81 + a)) (qx_a x1 x2 x3 x4 a) i) → ∃ h2, q_go e_144 q_X0 (q_sem d) (f + 1) 99 [(0, .ref 67), (1, .int x1), (2, .int x2), (3, .int x3), (4, .int x4)] [] g = some (h2, none) ∧ h2.1 67 20 = nI (min (dn + 1) 12) ∧ h2.1 67 21 = 0 ∧ (∀ a i, a < 4 → i < 12 → h2.1 (81 + a) i = qx_add dn (h.1 (81 + a)) (qx_a x1 x2 x3 x4 a) i) ∧ (∀ a j, ¬ ((a = 67 ∧ (j = 20 ∨ j = 21)) ∨ (81 ≤ a ∧ a ≤ 84)) → h2.1 a j = h.1 a j) ∧ h2.2 = h.2 := by
    intro f g m hm e4 el ef em ea
    refine ⟨q_si (q_si (q_si (q_si (q_si (q_si g 81 m x1) 82 m x2) 83 m x3) 84 m x4) 67 20 (nI (m + 1))) 67 21 0, ?_, ?_, ?_, ?_, ?_, ?_⟩
    · rw [b144_99, e4, q_ix_n hm (by decide), q_ix_n hm (by decide), q_ix_n hm (by decide), q_ix_n hm (by decide), nI_p1]
    · rw [qw_si_ne (by omega), qw_si_eq, em]
    · rw [qw_si_eq]
    · intro a i ha hi
      rw [← ea a i ha hi, qw_si_ne (by omega), qw_si_ne (by omega)]
      by_cases z : i = m
      · rw [if_pos z, z]
        rcases q4 ha with rfl | rfl | rfl | rfl
        · rw [qw_si_ne (by omega), qw_si_ne (by omega), qw_si_ne (by omega), qw_si_eq]; rfl
        · rw [qw_si_ne (by omega), qw_si_ne (by omega), qw_si_eq]; rfl
        · rw [qw_si_ne (by omega), qw_si_eq]; rfl
        · rw [qw_si_eq]; rfl
      · rw [if_neg z, qw_si_ne (by omega), qw_si_ne (by omega), qw_si_ne (by omega), qw_si_ne (by omega)]
    · intro a j q
      rw [qw_si_ne (by omega), qw_si_ne (by omega), qw_si_ne (by omega), qw_si_ne (by omega), qw_si_ne (by omega), qw_si_ne (by omega)]
      exact ef a j q
    · exact el
  rw [m144, e]
  by_cases z : dn = 12
  · obtain ⟨g, g1, g2, g3, g4⟩ := l144 q_X0 (q_sem d) h x1 x2 x3 x4 11 987 1 h (by omega) (by omega) rfl (fun _ _ _ => rfl) (fun a i _ _ => by rw [if_neg (by omega)])
    rw [if_pos (by rw [z]; decide)]
    have gg : q_go e_144 q_X0 (q_sem d) 999 12 [(0, .ref 67), (1, .int x1), (2, .int x2), (3, .int x3), (4, .int x4), (5, .int 1)] [] h = _ := g1
    rw [gg, b144_12, if_neg (by decide), g3 67 20 (by omega), e, z, show nI 12 - 1 = nI 11 from nI_m1 11]
    rw [z] at key
    refine key 986 _ 11 (by omega) (qw_si_eq _ _ _ _) g2 (fun a j q => (qw_si_ne (by omega)).trans (g3 a j (by omega))) (by omega) ?_
    intro a i ha hi
    unfold qx_add
    rw [if_pos rfl]
    by_cases w : i = 11
    · rw [if_pos w, if_pos w]
    · rw [if_neg w, if_neg w, qw_si_ne (by omega), g4 a i ha hi, if_pos (by omega)]
  · rw [if_neg (by rw [show (12 : Int32) = nI 12 from rfl, nI_eq_iff (by omega) (by omega)]; exact z)]
    refine key 998 h dn (by omega) e rfl (fun _ _ _ => rfl) (by omega) ?_
    intro a i ha hi
    unfold qx_add
    rw [if_neg z]
