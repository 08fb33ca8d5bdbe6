/-! ===== the reference: transfer, all rows ===== -/
def qw_en (h : q_S) (l : qv_L) (p q a n : Nat) : Prop := (∀ i, i ≤ n → h.1 79 i = qr_sgn (qE l p q a i)) ∧ (∀ i, i ≤ n → h.1 80 i = iI (qE l p q a i % 10007))
theorem qw_rest {x E y F : Int} : (x % 10007 * (E % 10007) - y % 10007 * (F % 10007)) % 10007 = (x * E - y * F) % 10007 := by
  rw [Int.sub_emod, Int.sub_emod (x * E)]
  rw [Int.mul_emod x E, Int.mul_emod y F]
theorem l130 (X : q_X) (d : Nat) (l : qv_L) (hl : qv_ok l) (p q a n : Nat) (hp : p ≤ 10000) (hq : q ≤ 16) (hn : a + n ≤ l 0 0) (h0 : q_S) : ∀ m f r h, r + m = n → 15 * m < f → qw_rd h l → qw_sc h0 h → qw_st h l p q a r →
    ∃ h2, q_go e_130 X (q_sem (d + 1)) f 54 [(0, .ref 67), (1, .int (nI a)), (2, .int (iI ((a + n : Nat) - 1))), (3, .int (nI p)), (4, .int (nI q)), (5, .int (nI (qB l p q a r))), (6, .int (iI (qm_sg (qB l p q a r)))), (7, .int (nI (a + r)))] [] h = some (h2, some (.int (nI (qB l p q a n)))) ∧ qw_sc h0 h2 ∧ qw_rd h2 l ∧ qw_en h2 l p q a n := by
  have h8 := hl.1
  intro m
  induction m with
  | zero =>
    intro f r h hr hf hrd hs hst
    obtain ⟨f, rfl⟩ : ∃ f2, f = f2 + 1 := ⟨f - 1, by omega⟩
    have e : r = n := by omega
    subst e
    refine ⟨h, ?_, hs, hrd, hst.2.2⟩
    rw [b130_54, if_pos]
    rw [nI_iI, iI_lt (by omega) (by omega) (by omega) (by omega)]
    omega
  | succ m ih =>
    intro f r h hr hf hrd hs hst
    obtain ⟨f, rfl⟩ : ∃ f2, f = f2 + 15 := ⟨f - 15, by omega⟩
    have hlt : a + r < l 0 0 := by omega
    have bI := qv_I_bd hl hlt
    have bH := qv_H_bd hl hlt
    obtain ⟨-, aI, -, -, aH⟩ := hrd (a + r) hlt
    have hB := qB_le l p q a r
    have ebd := qE_28 hl hp hq hn (r := r) (by omega)
    have ebd2 := qE_28 hl hp hq hn (r := r + 1) (by omega)
    have dbd := qd_bd hl hp hq hlt
    have cbd := qcc_bd hl hq hlt
    obtain ⟨dE, dF, sg, rs⟩ := hst
    have hge : ¬ iI ((a + n : Nat) - 1) < nI (a + r) := by
      rw [nI_iI, iI_lt (by omega) (by omega) (by omega) (by omega)]
      omega
    have et : (nI q).toInt64 * (h.1 77 (a + r)).toInt64 - (nI p).toInt64 * (h.1 74 (a + r)).toInt64 = iL (qd l p q a r) := by
      rw [aI, aH, nI_L (by omega), nI_L (by omega), nI_L (by omega), nI_L (by omega), iL_mul, iL_mul, iL_sub]
      rfl
    have erow : nI (a + r) - nI a + 1 = nI (r + 1) := by
      rw [pk_sub (by omega), nI_p1]
      congr 1
      omega
    -- behind the row
    have k346 : ∀ h3 : q_S, qw_rd h3 l → qw_sc h0 h3 → qw_st h3 l p q a (r + 1) → ∃ h2, (∀ s0 : Int32, s0 = (if qE l p q a (r + 1) = 0 then iI (qm_sg (qB l p q a r)) else qr_sgn (qE l p q a (r + 1))) → q_go e_130 X (q_sem (d + 1)) (f + 1) 346 [(0, .ref 67), (1, .int (nI a)), (2, .int (iI ((a + n : Nat) - 1))), (3, .int (nI p)), (4, .int (nI q)), (5, .int (nI (qB l p q a r))), (6, .int (iI (qm_sg (qB l p q a r)))), (7, .int (nI (a + r)))] [.int s0] h3 = some (h2, some (.int (nI (qB l p q a n))))) ∧ qw_sc h0 h2 ∧ qw_rd h2 l ∧ qw_en h2 l p q a n := by
      intro h3 r3 s3 t3
      obtain ⟨h2, g1, g2⟩ := ih f (r + 1) h3 (by omega) (by omega) r3 s3 t3
      refine ⟨h2, fun s0 hs0 => ?_, g2⟩
      rw [← g1, b130_346]
      have hb := qB_s l p q a r
      by_cases z : qE l p q a (r + 1) = 0
      · rw [if_pos z] at hs0
        rw [z, Int.mul_zero, if_neg (by omega)] at hb
        rw [if_pos hs0, hs0, hb, Int32.add_zero, nI_p1]
        rfl
      · rw [if_neg z] at hs0
        have hsame := qr_same (qB l p q a r) _ z
        by_cases y : qm_sg (qB l p q a r) * qE l p q a (r + 1) < 0
        · rw [if_pos y] at hb
          have hturn := (qr_turn (qB l p q a r) (qE l p q a (r + 1))).mpr y
          rw [if_neg (fun w => (hsame.mp (hs0.symm.trans w)) y), hb, hs0, hturn, qm_sg_s, iI_neg, nI_p1, nI_p1]
          rfl
        · rw [if_neg y] at hb
          rw [if_pos (hs0.trans (hsame.mpr y)), hs0, hsame.mpr y, hb, Int32.add_zero, nI_p1]
          rfl
    -- the digits stand: sign and rest
    have kend : ∀ h3 : q_S, qw_dig h3 (10 * ((r + 1) % 3)) (qE l p q a (r + 1)) → qw_sc h h3 → h3.1 = h.1 → (∀ i, (i < 10 * ((r + 1) % 3) ∨ 10 * ((r + 1) % 3) + 10 ≤ i) → h3.2.1 78 i = h.2.1 78 i) → ∃ h2, q_go e_130 X (q_sem (d + 1)) (f + 2 + 1) 172 [(0, .ref 67), (1, .int (nI a)), (2, .int (iI ((a + n : Nat) - 1))), (3, .int (nI p)), (4, .int (nI q)), (5, .int (nI (qB l p q a r))), (6, .int (iI (qm_sg (qB l p q a r)))), (7, .int (nI (a + r))), (8, .int (nI (r + 1))), (9, .long (iL (qd l p q a r))), (11, .long (iL (qcc l q a r))), (13, .int (nI (10 * ((r + 1) % 3)))), (14, .int (nI (10 * (r % 3)))), (15, .int (nI (10 * ((r + 2) % 3)))), (16, .long (iL (qm_car qw28 (qd l p q a r) (qE l p q a r) (qcc l q a r) (qF l p q a r) 9 9 10))), (18, .int (nI 10))] [] h3 = some (h2, some (.int (nI (qB l p q a n)))) ∧ qw_sc h0 h2 ∧ qw_rd h2 l ∧ qw_en h2 l p q a n := by
      intro h3 g1 g2 g3 g4
      obtain ⟨hA, eA⟩ : ∃ x, x = q_si h3 79 (r + 1) (qr_sgn (qE l p q a (r + 1))) := ⟨_, rfl⟩
      obtain ⟨hB', eB'⟩ : ∃ x, x = q_si hA 80 (r + 1) (iI (qE l p q a (r + 1) % 10007)) := ⟨_, rfl⟩
      have sB : qw_sc h hB' := by rw [eB', eA]; exact qw_sc_tr (qw_sc_tr g2 (qw_sc_si (by decide))) (qw_sc_si (by decide))
      have rB : qw_rd hB' l := by
        refine qw_rd_fr ?_ hrd
        have t : ∀ b, b ≠ 79 → b ≠ 80 → hB'.1 b = h.1 b := by
          intro b h1 h2
          rw [eB', eA]
          funext j
          rw [qw_si_ne (by omega), qw_si_ne (by omega), g3]
        exact ⟨t _ (by decide) (by decide), t _ (by decide) (by decide), t _ (by decide) (by decide), t _ (by decide) (by decide), t _ (by decide) (by decide)⟩
      have stB : qw_st hB' l p q a (r + 1) := by
        refine ⟨?_, ?_, ?_, ?_⟩
        · rw [eB', eA]; exact g1
        · have e3 : (r + 1 + 2) % 3 = r % 3 := by omega
          rw [e3, qF_s]
          intro k hk
          rw [eB', eA]
          show h3.2.1 78 _ = _
          rw [g4 _ (by omega)]
          exact dE k hk
        · intro i hi
          rw [eB', eA, qw_si_ne (by omega)]
          rcases Nat.lt_or_ge i (r + 1) with z | z
          · rw [qw_si_ne (by omega), g3]; exact sg i (by omega)
          · rw [show i = r + 1 by omega, qw_si_eq]
        · intro i hi
          rw [eB']
          rcases Nat.lt_or_ge i (r + 1) with z | z
          · rw [qw_si_ne (by omega), eA, qw_si_ne (by omega), g3]; exact rs i (by omega)
          · rw [show i = r + 1 by omega, qw_si_eq]
      obtain ⟨h2, w1, w2⟩ := k346 hB' rB (qw_sc_tr hs sB) stB
      refine ⟨h2, ?_, w2⟩
      have b9 := qw_base (r + 1)
      -- the rest
      have k312 : ∀ z : Int, -100140049 * 2 ≤ z → z ≤ 100140049 * 2 → z % 10007 = qE l p q a (r + 1) % 10007 → q_go e_130 X (q_sem (d + 1)) (f + 2) 312 [(0, .ref 67), (1, .int (nI a)), (2, .int (iI ((a + n : Nat) - 1))), (3, .int (nI p)), (4, .int (nI q)), (5, .int (nI (qB l p q a r))), (6, .int (iI (qm_sg (qB l p q a r)))), (7, .int (nI (a + r))), (8, .int (nI (r + 1))), (18, .long (iL z))] [] hA = some (h2, some (.int (nI (qB l p q a n)))) := by
        intro z z1 z2 z3
        have e79 : hA.1 79 (r + 1) = qr_sgn (qE l p q a (r + 1)) := by rw [eA, qw_si_eq]
        rw [b130_312, s129 d hA (by omega) (by omega), q_c1_s, q_ix_n (by omega) (by decide), q_ix_n (by omega) (by decide), e79, z3, ← eB']
        by_cases y : qE l p q a (r + 1) = 0
        · rw [if_pos ((qr_sgn_0 _).mpr y)]
          exact w1 _ (by rw [if_pos y])
        · rw [if_neg (fun w => y ((qr_sgn_0 _).mp w)), q_ix_n (by omega) (by decide)]
          exact w1 _ (by rw [if_neg y]; exact e79)
      have e80 : ∀ i, i ≤ r → hA.1 80 i = iI (qE l p q a i % 10007) := by
        intro i hi
        rw [eA, qw_si_ne (by omega), g3]
        exact rs i hi
      have hm1 := Int.emod_nonneg (qd l p q a r) (show (10007 : Int) ≠ 0 by decide)
      have hm2 := Int.emod_lt_of_pos (qd l p q a r) (show (0 : Int) < 10007 by decide)
      have hn1 := Int.emod_nonneg (qcc l q a r) (show (10007 : Int) ≠ 0 by decide)
      have hn2 := Int.emod_lt_of_pos (qcc l q a r) (show (0 : Int) < 10007 by decide)
      have ho1 := Int.emod_nonneg (qE l p q a r) (show (10007 : Int) ≠ 0 by decide)
      have ho2 := Int.emod_lt_of_pos (qE l p q a r) (show (0 : Int) < 10007 by decide)
      have hp1 := Int.emod_nonneg (qE l p q a (r - 1)) (show (10007 : Int) ≠ 0 by decide)
      have hp2 := Int.emod_lt_of_pos (qE l p q a (r - 1)) (show (0 : Int) < 10007 by decide)
      have bm : ∀ {u v : Int}, 0 ≤ u → u < 10007 → 0 ≤ v → v < 10007 → 0 ≤ u * v ∧ u * v ≤ 100140049 := by
        intro u v u1 u2 v1 v2
        refine ⟨Int.mul_nonneg u1 v1, ?_⟩
        have := Int.mul_le_mul (show u ≤ 10007 by omega) (show v ≤ 10007 by omega) v1 (by decide)
        omega
      have bb1 := bm hm1 hm2 ho1 ho2
      have bb2 := bm hn1 hn2 hp1 hp2
      rw [b130_172, if_neg (show ¬ nI 10 < (10 : Int32) by decide), s128 d h3 _ (by omega) _ ebd2.1.1 ebd2.1.2 g1, q_c1_s, q_ix_n (by omega) (by decide), ← eA, s129 d hA (by omega) (by omega), q_c1_s, show nI (r + 1) - 1 = nI r from nI_m1 r, q_ix_n (by omega) (by decide), e80 r (Nat.le_refl r)]
      by_cases z : 0 < r
      · rw [if_pos (show (1 : Int32) < nI (r + 1) from nI_lt (a := 1) (by omega) (by omega)), s129 d hA (by omega) (by omega), q_c1_s]
        have e2 : nI (r + 1) - 2 = nI (r - 1) := by
          rw [show (2 : Int32) = nI 2 from rfl, pk_sub (by omega)]
          congr 1
        rw [e2, q_ix_n (by omega) (by decide), e80 (r - 1) (by omega), iI_L (by omega) (by omega), iI_L (by omega) (by omega), iI_L (by omega) (by omega), iI_L (by omega) (by omega), iL_mul, iL_mul, iL_sub]
        refine k312 _ (by omega) (by omega) ?_
        rw [qw_rest, ← qE_s]
      · rw [if_neg (show ¬ (1 : Int32) < nI (r + 1) from nI_nlt (b := r + 1) (a := 1) (by omega) (by omega)), iI_L (by omega) (by omega), iI_L (by omega) (by omega), iL_mul]
        refine k312 _ (by omega) (by omega) ?_
        have hr0 : r = 0 := by omega
        subst hr0
        rw [qE_sF, show qcc l q a 0 = 0 from rfl, Int.zero_mul, Int.sub_zero, Int.mul_emod (qd l p q a 0)]
    -- the inner loop, from its start
    have b1 := qw_base r
    have b2 := qw_base (r + 1)
    have b3 := qw_base (r + 2)
    obtain ⟨h3, g1, g2, g3, g4, g5⟩ := l172 X (q_sem (d + 1)) (qd l p q a r) (qE l p q a r) (qcc l q a r) (qF l p q a r) ⟨by omega, by omega⟩ ⟨by omega, by omega⟩ ebd.1.1 ebd.1.2 ebd.2.1 ebd.2.2 (10 * ((r + 1) % 3)) (10 * (r % 3)) (10 * ((r + 2) % 3)) b2 b1 b3 (by omega) (by omega) (nI a) (iI ((a + n : Nat) - 1)) (nI p) (nI q) (nI (qB l p q a r)) (iI (qm_sg (qB l p q a r))) (nI (a + r)) (nI (r + 1)) h (f + 2 + 1) 10 0 h (by omega) dE dF (qw_sc_rf h) rfl (fun _ _ => rfl) (fun i hi => absurd hi (by omega))
    rw [← qE_sF] at g2
    obtain ⟨h2, w1, w2⟩ := kend h3 g2 g3 g4 g5
    refine ⟨h2, ?_, w2⟩
    rw [w1, qm_car_0] at g1
    have k133 : ∀ s0 : Int64, s0 = iL (qcc l q a r) → q_go e_130 X (q_sem (d + 1)) (f + 14) 133 [(0, .ref 67), (1, .int (nI a)), (2, .int (iI ((a + n : Nat) - 1))), (3, .int (nI p)), (4, .int (nI q)), (5, .int (nI (qB l p q a r))), (6, .int (iI (qm_sg (qB l p q a r)))), (7, .int (nI (a + r))), (8, .int (nI (r + 1))), (9, .long (iL (qd l p q a r)))] [.long s0] h = some (h2, some (.int (nI (qB l p q a n)))) := by
      intro s0 hs0
      have e1 : nI (r + 1) + 2 = nI (r + 3) := nI_add _ 2
      have e2 : nI (r + 1) + 1 = nI (r + 2) := nI_p1 _
      rw [b130_133, if_neg (by decide), if_neg (by decide), if_neg (by decide), hs0, e1, e2, nI_mod3 (by omega), nI_mod3 (by omega), nI_mod3 (by omega), show (r + 3) % 3 = r % 3 by omega]
      exact g1
    rw [b130_54, if_neg hge, q_ix_n (by omega) (by decide), q_ix_n (by omega) (by decide), et, erow]
    by_cases z : r = 0
    · subst z
      rw [if_pos (by rw [Nat.add_zero])]
      exact k133 _ rfl
    · rw [if_neg (fun y => z (by have := (nI_eq (a := a + r) (b := a) (by omega) (by omega)).mp y; omega))]
      obtain ⟨k, rfl⟩ : ∃ k, r = k + 1 := ⟨r - 1, by omega⟩
      have bK := qv_K_bd hl (i := a + k) (by omega)
      have aK := (hrd (a + k) (by omega)).2.2.2.1
      unfold qw_K at aK
      rw [if_pos (by omega)] at aK
      rw [show nI (a + (k + 1)) - 1 = nI (a + k) from nI_m1 _, q_ix_n (by omega) (by decide), q_ix_n (by omega) (by decide), aK]
      refine k133 _ ?_
      rw [nI_L (by omega), nI_L (by omega), iL_mul, iL_mul, iL_mul]
      unfold qcc
      rw [if_neg (by omega), show a + (k + 1) - 1 = a + k by omega]
      congr 1
      grind
theorem l130z (X : q_X) (O : q_O) (x1 x2 x3 x4 : Int32) (h0 : q_S) : ∀ m f j h, j + m = 30 → qw_sc h0 h → h.1 = h0.1 → (∀ i, i < j → h.2.1 78 i = iL 0) → ∃ h3, q_go e_130 X O (f + 1 + m) 3 [(0, .ref 67), (1, .int x1), (2, .int x2), (3, .int x3), (4, .int x4), (5, .int (nI j))] [] h = q_go e_130 X O (f + 1) 3 [(0, .ref 67), (1, .int x1), (2, .int x2), (3, .int x3), (4, .int x4), (5, .int (nI 30))] [] h3 ∧ qw_sc h0 h3 ∧ h3.1 = h0.1 ∧ (∀ i, i < 30 → h3.2.1 78 i = iL 0) := by
  intro m
  induction m with
  | zero =>
    intro f j h hj hs hi hz
    have : j = 30 := by omega
    subst this
    exact ⟨h, rfl, hs, hi, hz⟩
  | succ m ih =>
    intro f j h hj hs hi hz
    obtain ⟨h3, g1, g2⟩ := ih f (j + 1) (q_sl h 78 j (Int64.ofNat 0)) (by omega) (qw_sc_tr hs qw_sc_sl) hi (fun i hij => by
      rcases Nat.lt_or_ge i j with p | p
      · rw [qr_sl_ne (by omega)]; exact hz i p
      · rw [show i = j by omega, qr_sl_eq]; rfl)
    refine ⟨h3, ?_, g2⟩
    rw [← g1, show f + 1 + (m + 1) = f + 1 + m + 1 by omega, b130_3, if_pos (show nI j < (30 : Int32) from nI_lt (b := 30) (by omega) (by decide)), q_ix_n (by omega) (by decide), nI_p1]
/-- the start: digits 0 but the first row's -/
theorem s130i (d : Nat) (h : q_S) (x1 x2 x3 x4 : Int32) (l : qv_L) (p q a : Nat) : ∃ h2, q_sem (d + 1) 130 h [.ref 67, .int x1, .int x2, .int x3, .int x4] = q_go e_130 q_X0 (q_sem d) 968 54 [(0, .ref 67), (1, .int x1), (2, .int x2), (3, .int x3), (4, .int x4), (5, .int 0), (6, .int 1), (7, .int x1)] [] h2 ∧ qw_sc h h2 ∧ (∀ b, b ≠ 79 → b ≠ 80 → h2.1 b = h.1 b) ∧ qw_st h2 l p q a 0 := by
  obtain ⟨h3, g1, g2, g3, g4⟩ := l130z q_X0 (q_sem d) x1 x2 x3 x4 h 30 968 0 h (by omega) (qw_sc_rf h) rfl (fun i hi => absurd hi (by omega))
  refine ⟨q_si (q_si (q_sl h3 78 0 (Int64.ofNat 1)) 79 0 1) 80 0 1, ?_, ?_, ?_, ?_⟩
  · rw [m130]
    have g1' : q_go e_130 q_X0 (q_sem d) 999 3 [(0, .ref 67), (1, .int x1), (2, .int x2), (3, .int x3), (4, .int x4), (5, .int 0)] [] h = _ := g1
    rw [g1', b130_3, if_neg (show ¬ nI 30 < (30 : Int32) by decide), q_ix_0 (by decide), q_ix_0 (by decide), q_ix_0 (by decide)]
  · exact qw_sc_tr (qw_sc_tr (qw_sc_tr g2 qw_sc_sl) (qw_sc_si (by decide))) (qw_sc_si (by decide))
  · intro b h1 h2
    funext j
    rw [qw_si_ne (by omega), qw_si_ne (by omega)]
    show h3.1 b j = _
    rw [g3]
  · refine ⟨fun k hk => ?_, fun k hk => ?_, fun i hi => ?_, fun i hi => ?_⟩
    · show (q_sl h3 78 0 (Int64.ofNat 1)).2.1 78 (0 + k) = _
      rcases Nat.eq_zero_or_pos k with e | e
      · subst e
        rw [qr_sl_eq]
        rfl
      · rw [qr_sl_ne (by omega), g4 _ (by omega)]
        have t : ∀ k, k < 10 → 0 < k → qm_lim qw28 1 9 k = 0 := by decide
        rw [qE_0, t k hk e]
    · show (q_sl h3 78 0 (Int64.ofNat 1)).2.1 78 (20 + k) = _
      rw [qr_sl_ne (by omega), g4 _ (by omega)]
      have t : ∀ k, k < 10 → qm_lim qw28 0 9 k = 0 := by decide
      rw [show qF l p q a 0 = 0 from rfl, t k hk]
    · have : i = 0 := by omega
      subst this
      rw [qw_si_ne (by omega), qw_si_eq]
      rfl
    · have : i = 0 := by omega
      subst this
      rw [qw_si_eq]
      rfl
theorem s130 (d : Nat) (h : q_S) (l : qv_L) (hl : qv_ok l) (p q a n : Nat) (hp : p ≤ 10000) (hq : q ≤ 16) (hn : a + n ≤ l 0 0) (hrd : qw_rd h l) : ∃ h2, q_sem (d + 2) 130 h [.ref 67, .int (nI a), .int (iI ((a + n : Nat) - 1)), .int (nI p), .int (nI q)] = some (h2, some (.int (nI (qB l p q a n)))) ∧ qw_sc h h2 ∧ qw_rd h2 l ∧ qw_en h2 l p q a n := by
  have h8 := hl.1
  obtain ⟨h1, g1, g2, g3, g4⟩ := s130i (d + 1) h (nI a) (iI ((a + n : Nat) - 1)) (nI p) (nI q) l p q a
  have rd1 : qw_rd h1 l := qw_rd_fr ⟨g3 _ (by decide) (by decide), g3 _ (by decide) (by decide), g3 _ (by decide) (by decide), g3 _ (by decide) (by decide), g3 _ (by decide) (by decide)⟩ hrd
  obtain ⟨h2, k1, k2⟩ := l130 q_X0 d l hl p q a n hp hq hn h n 968 0 h1 (by omega) (by omega) rd1 g2 g4
  refine ⟨h2, ?_, k2⟩
  rw [g1]
  exact k1
theorem s131 (d : Nat) (h : q_S) (l : qv_L) (hl : qv_ok l) (p q : Nat) (hp : p ≤ 10000) (hq : q ≤ 16) (hL : qw_at h l) (hrd : qw_rd h l) : ∃ h2, q_sem (d + 3) 131 h [.ref 67, .int (nI p), .int (nI q)] = some (h2, some (.int (nI (qB l p q 0 (l 0 0))))) ∧ qw_sc h h2 ∧ qw_rd h2 l ∧ qw_en h2 l p q 0 (l 0 0) := by
  obtain ⟨h2, g1, g2⟩ := s130 d h l hl p q 0 (l 0 0) hp hq (by omega) hrd
  refine ⟨h2, ?_, g2⟩
  have e : h.1 67 0 - 1 = iI ((0 + l 0 0 : Nat) - 1) := by
    rw [hL.1, nI_iI, show (1 : Int32) = iI 1 from rfl, iI_sub, Nat.zero_add]
  rw [m131, e, show (0 : Int32) = nI 0 from rfl, g1, q_c1_s]
theorem l132 (X : q_X) (O : q_O) (l : qv_L) (hl : qv_ok l) (h : q_S) (hL : qw_at h l) (hrd : qw_rd h l) : ∀ m f i, i + m = l 0 0 → m < f → q_go e_132 X O f 4 [(0, .ref 67), (1, .int (if i = 0 then -1 else nI (qv_mx l i))), (2, .int (nI i))] [] h = some (h, some (.int (nI (qv_top l)))) := by
  have h8 := hl.1
  intro m
  induction m with
  | zero =>
    intro f i hi hf
    obtain ⟨f, rfl⟩ : ∃ f2, f = f2 + 1 := ⟨f - 1, by omega⟩
    have e : i = l 0 0 := by omega
    subst e
    rw [b132_4, hL.1, if_neg (nI_nlt (Nat.le_refl _) (by omega))]
    unfold qv_top
    by_cases q : l 0 0 = 0
    · rw [if_pos q, if_pos q]
      rfl
    · rw [if_neg q, if_neg q, nI_p1, Nat.add_comm]
  | succ m ih =>
    intro f i hi hf
    obtain ⟨f, rfl⟩ : ∃ f2, f = f2 + 1 := ⟨f - 1, by omega⟩
    have hil : i < l 0 0 := by omega
    have bI := qv_I_bd hl hil
    have bH := qv_H_bd hl hil
    obtain ⟨-, aI, -, -, aH⟩ := hrd i hil
    have bm := qv_mx_le hl i (by omega)
    have hd : 2 * qv_H l i / qv_I l i ≤ 2 * qv_H l i := Nat.div_le_self _ _
    have ediv : (2 : Int32) * h.1 77 i / h.1 74 i = nI (2 * qv_H l i / qv_I l i) := by
      rw [aI, aH, show (2 : Int32) = nI 2 from rfl, pk_mul, pk_div (by omega) (by omega) (by omega)]
    rw [b132_4, hL.1, if_pos (nI_lt hil (by omega)), q_ix_n (by omega) (by decide), q_ix_n (by omega) (by decide), ediv, aI, if_neg (nI_ne0 (by omega) (by omega)), nI_p1]
    have ihi := ih f (i + 1) (by omega) (by omega)
    rw [if_neg (by omega)] at ihi
    by_cases z : i = 0
    · subst z
      rw [if_pos rfl, if_pos (show (-1 : Int32) < nI _ from Int32.lt_of_lt_of_le (b := 0) (by decide) (nI_pos' (by omega)))]
      have : qv_mx l (0 + 1) = 2 * qv_H l 0 / qv_I l 0 := by
        show max (qv_mx l 0) _ = _
        rw [show qv_mx l 0 = 0 from rfl]
        exact Nat.zero_max _
      rw [this] at ihi
      exact ihi
    · rw [if_neg z]
      have hmx : qv_mx l (i + 1) = max (qv_mx l i) (2 * qv_H l i / qv_I l i) := rfl
      by_cases y : qv_mx l i < 2 * qv_H l i / qv_I l i
      · rw [if_pos (nI_lt y (by omega))]
        rw [hmx, show max (qv_mx l i) (2 * qv_H l i / qv_I l i) = 2 * qv_H l i / qv_I l i by omega] at ihi
        exact ihi
      · rw [if_neg (nI_nlt (by omega) (by omega))]
        rw [hmx, show max (qv_mx l i) (2 * qv_H l i / qv_I l i) = qv_mx l i by omega] at ihi
        exact ihi
theorem s132 (d : Nat) (h : q_S) (l : qv_L) (hl : qv_ok l) (hL : qw_at h l) (hrd : qw_rd h l) : q_sem (d + 1) 132 h [.ref 67] = some (h, some (.int (nI (qv_top l)))) := by
  have h8 := hl.1
  rw [m132]
  exact l132 q_X0 (q_sem d) l hl h hL hrd (l 0 0) 999 0 (by omega) (by omega)
theorem l133 (X : q_X) (d : Nat) (l : qv_L) (hl : qv_ok l) (k q : Nat) (hq1 : 1 ≤ q) (hq : q ≤ 16) (hk : k < l 0 0) (h0 : q_S) : ∀ m f lo hi h, hi - lo < 2 ^ m → m < f → lo ≤ qv_f l k q → qv_f l k q ≤ hi → hi ≤ 9520 → qw_at h l → qw_rd h l → qw_sc h0 h →
    ∃ h2, q_go e_133 X (q_sem (d + 3)) f 14 [(0, .ref 67), (1, .int (nI k)), (2, .int (nI q)), (3, .int (nI lo)), (4, .int (nI hi))] [] h = some (h2, some (.int (nI (qv_f l k q)))) ∧ qw_sc h0 h2 := by
  have h8 := hl.1
  intro m
  induction m with
  | zero =>
    intro f lo hi h hm hf h1 h2 hb hL hrd hs
    obtain ⟨f, rfl⟩ : ∃ f2, f = f2 + 1 := ⟨f - 1, by omega⟩
    rw [b133_14, if_neg (nI_nlt (by omega) (by omega))]
    exact ⟨h, by rw [show lo = qv_f l k q by omega], hs⟩
  | succ m ih =>
    intro f lo hi h hm hf h1 h2 hb hL hrd hs
    obtain ⟨f, rfl⟩ : ∃ f2, f = f2 + 1 := ⟨f - 1, by omega⟩
    have e3 : 2 ^ (m + 1) = 2 ^ m + 2 ^ m := by rw [Nat.pow_succ]; omega
    rw [b133_14]
    by_cases z : lo < hi
    · rw [if_pos (nI_lt z (by omega)), if_neg (by decide)]
      have em : nI lo + (nI hi - nI lo + 1) / 2 = nI (lo + (hi - lo + 1) / 2) := by
        rw [pk_sub (by omega), nI_p1, show (2 : Int32) = nI 2 from rfl, pk_div (by omega) (by decide) (by decide), nI_add]
      obtain ⟨h2', g1, g2, g3, -⟩ := s131 d h l hl (lo + (hi - lo + 1) / 2) q (by omega) hq hL hrd
      have hbl := qB_le l (lo + (hi - lo + 1) / 2) q 0 (l 0 0)
      have hii := qv_f_iff hl hq1 hk (lo + (hi - lo + 1) / 2)
      rw [em, g1, q_c1_s]
      by_cases y : k < qB l (lo + (hi - lo + 1) / 2) q 0 (l 0 0)
      · rw [if_pos (nI_lt y (by omega))]
        have : ¬ lo + (hi - lo + 1) / 2 ≤ qv_f l k q := fun w => by have := hii.mpr w; omega
        have em2 : nI (lo + (hi - lo + 1) / 2) - 1 = nI (lo + (hi - lo + 1) / 2 - 1) := pk_sub (b := 1) (by omega)
        rw [em2]
        exact ih f lo _ h2' (by omega) (by omega) h1 (by omega) (by omega) (qw_sc_at g2 hL) g3 (qw_sc_tr hs g2)
      · rw [if_neg (nI_nlt (by omega) (by omega))]
        have := hii.mp (by omega)
        exact ih f _ hi h2' (by omega) (by omega) this h2 hb (qw_sc_at g2 hL) g3 (qw_sc_tr hs g2)
    · rw [if_neg (nI_nlt (by omega) (by omega))]
      exact ⟨h, by rw [show lo = qv_f l k q by omega], hs⟩
/-- FENCE, as the reference finds it -/
theorem s133 (d : Nat) (h : q_S) (l : qv_L) (hl : qv_ok l) (k q : Nat) (hq1 : 1 ≤ q) (hq : q ≤ 16) (hk : k < l 0 0) (hL : qw_at h l) : ∃ h2, q_sem (d + 4) 133 h [.ref 67, .int (nI k), .int (nI q)] = some (h2, some (.int (nI (qv_f l k q)))) ∧ qw_sc h h2 := by
  have hfl := qv_f_le l k q
  have htop : qv_top l * q ≤ 595 * 16 := Nat.mul_le_mul (qv_top_le hl) hq
  obtain ⟨h1, g1, g2, g3⟩ := s126 (d + 1) h l hl hL
  have L1 := qw_sc_at g3 hL
  obtain ⟨h2, k1, k2⟩ := l133 q_X0 d l hl k q hq1 hq hk h 14 999 0 (qv_top l * q) h1 (by omega) (by omega) (by omega) hfl (by omega) L1 g2 g3
  refine ⟨h2, ?_, k2⟩
  rw [m133, g1, q_c0_s, s132 (d + 2) h1 l hl L1 g2, q_c1_s, pk_mul]
  exact k1
