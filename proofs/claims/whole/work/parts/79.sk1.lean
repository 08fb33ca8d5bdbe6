/-! ===== the law's entry: classes, tables ===== -/
theorem wi_0 : Cond.instantiable RX0 6 ∈ q_TW := q_in 202 (by decide +kernel) (by decide +kernel)
theorem wi_1 : Cond.instantiable RX1 4 ∈ q_TW := q_in 116 (by decide +kernel) (by decide +kernel)
theorem wi_2 : Cond.instantiable RX2 4 ∈ q_TW := q_in 72 (by decide +kernel) (by decide +kernel)
theorem wi_3 : Cond.instantiable RX3 4 ∈ q_TW := q_in 105 (by decide +kernel) (by decide +kernel)
theorem wi_4 : Cond.instantiable RX4 9 ∈ q_TW := q_in 138 (by decide +kernel) (by decide +kernel)
theorem wi_5 : Cond.instantiable RX5 4 ∈ q_TW := q_in 179 (by decide +kernel) (by decide +kernel)
theorem wi_6 : Cond.instantiable RX6 5 ∈ q_TW := q_in 229 (by decide +kernel) (by decide +kernel)
theorem wi_7 : Cond.instantiable RX7 4 ∈ q_TW := q_in 94 (by decide +kernel) (by decide +kernel)
theorem wi_8 : Cond.instantiable RX8 3 ∈ q_TW := q_in 277 (by decide +kernel) (by decide +kernel)
theorem wi_9 : Cond.instantiable RX9 4 ∈ q_TW := q_in 127 (by decide +kernel) (by decide +kernel)
theorem wi_10 : Cond.instantiable RX10 4 ∈ q_TW := q_in 254 (by decide +kernel) (by decide +kernel)
theorem wi_11 : Cond.instantiable RX11 12 ∈ q_TW := q_in 61 (by decide +kernel) (by decide +kernel)
theorem wi_12 : Cond.instantiable RX12 47 ∈ q_TW := q_in 889 (by decide +kernel) (by decide +kernel)
set_option maxHeartbeats 4000000 in
theorem lw_cls {s : State} {args : Array Value} (hts0 : ∀ w ∈ lw_tbl, w.before args s = true) : ∃ (D : va_G) (cA : Nat → ClassId), va_K D q_cn (q_tys cA) s ∧ cn_E cA s := by
  have hts : ∀ w ∈ q_TW, w.before args s = true := fun w hw => hts0 w (List.mem_filter.mp hw).1
  obtain ⟨c0, i0, k0⟩ := u_known (C := RX0) (T := TX0) (N := 6) (n := 6) hts inX0 (hts _ wi_0)
  obtain ⟨c1, i1, k1⟩ := u_known (C := RX1) (T := TX1) (N := 4) (n := 4) hts inX1 (hts _ wi_1)
  obtain ⟨c2, i2, k2⟩ := u_known (C := RX2) (T := TX2) (N := 4) (n := 4) hts inX2 (hts _ wi_2)
  obtain ⟨c3, i3, k3⟩ := u_known (C := RX3) (T := TX3) (N := 4) (n := 4) hts inX3 (hts _ wi_3)
  obtain ⟨c4, i4, k4⟩ := u_known (C := RX4) (T := TX4) (N := 9) (n := 9) hts inX4 (hts _ wi_4)
  obtain ⟨c5, i5, k5⟩ := u_known (C := RX5) (T := TX5) (N := 4) (n := 4) hts inX5 (hts _ wi_5)
  obtain ⟨c6, i6, k6⟩ := u_known (C := RX6) (T := TX6) (N := 5) (n := 5) hts inX6 (hts _ wi_6)
  obtain ⟨c7, i7, k7⟩ := u_known (C := RX7) (T := TX7) (N := 4) (n := 4) hts inX7 (hts _ wi_7)
  obtain ⟨c8, i8, k8⟩ := u_known (C := RX8) (T := TX8) (N := 3) (n := 3) hts inX8 (hts _ wi_8)
  obtain ⟨c9, i9, k9⟩ := u_known (C := RX9) (T := TX9) (N := 4) (n := 4) hts inX9 (hts _ wi_9)
  obtain ⟨c10, i10, k10⟩ := u_known (C := RX10) (T := TX10) (N := 4) (n := 4) hts inX10 (hts _ wi_10)
  obtain ⟨c11, i11, k11⟩ := u_known (C := RX11) (T := TX11) (N := 12) (n := 12) hts inX11 (hts _ wi_11)
  obtain ⟨c12, i12, k12⟩ := u_known (C := RX12) (T := TX12) (N := 47) (n := 47) hts inX12 (hts _ wi_12)
  obtain ⟨a0, b0, d0, e01, e02, e03⟩ := Cond.arrayClass_spec (hts _ wa_I)
  obtain ⟨a1, b1, d1, e11, e12, e13⟩ := Cond.arrayClass_spec (hts _ wa_L)
  have w2 : (Cond.arrayOver (.object "WhirlShafts$Disc")).before args s = true := hts0 _ (List.mem_of_getElem? (i := 71) (by decide +kernel))
  have w3 : (Cond.arrayOver (.object "WhirlShafts$Row")).before args s = true := hts0 _ (List.mem_of_getElem? (i := 276) (by decide +kernel))
  have w4 : (Cond.arrayOver (.array .long)).before args s = true := hts0 _ (List.mem_of_getElem? (i := 235) (by decide +kernel))
  obtain ⟨p2, a2, b2, e21, e22, e23, e24, e25⟩ := Cond.arrayOver_spec w2
  obtain ⟨p3, a3, b3, e31, e32, e33, e34, e35⟩ := Cond.arrayOver_spec w3
  obtain ⟨p4, a4, b4, e41, e42, e43, e44⟩ := ao_spec w4
  have e14 : p4 = a1 := Option.some.inj (e41.symm.trans e11)
  subst e14
  refine ⟨(fun k => ([c0, c1, c2, c3, c4, c5, c6, c7, c8, c9, c10, c11, c12][k]?).getD c0, fun k => ([i0, i1, i2, i3, i4, i5, i6, i7, i8, i9, i10, i11, i12][k]?).getD i0), fun k => ([a0, p4, a2, a3, a4][k]?).getD a0, ⟨fun k q hq => ?_, fun k q hq => ?_⟩, ?_⟩
  · have hk : k < 13 := (List.getElem?_eq_some_iff.mp hq).1
    rcases (show k = 0 ∨ k = 1 ∨ k = 2 ∨ k = 3 ∨ k = 4 ∨ k = 5 ∨ k = 6 ∨ k = 7 ∨ k = 8 ∨ k = 9 ∨ k = 10 ∨ k = 11 ∨ k = 12 by omega) with rfl | rfl | rfl | rfl | rfl | rfl | rfl | rfl | rfl | rfl | rfl | rfl | rfl
    · cases hq; exact k0
    · cases hq; exact k1
    · cases hq; exact k2
    · cases hq; exact k3
    · cases hq; exact k4
    · cases hq; exact k5
    · cases hq; exact k6
    · cases hq; exact k7
    · cases hq; exact k8
    · cases hq; exact k9
    · cases hq; exact k10
    · cases hq; exact k11
    · cases hq; exact k12
  · have hk : k < 5 := (List.getElem?_eq_some_iff.mp hq).1
    rcases (show k = 0 ∨ k = 1 ∨ k = 2 ∨ k = 3 ∨ k = 4 by omega) with rfl | rfl | rfl | rfl | rfl
    · cases hq; exact ⟨fun n z => ⟨(fun k h => by cases h), b0, e02, d0, e03⟩, e01⟩
    · cases hq; exact ⟨fun n z => ⟨(fun k h => by cases h), b1, e12, d1, e13⟩, e11⟩
    · cases hq; exact ⟨fun n z => ⟨(fun k h => by cases h), b2, e23, p2, e24⟩, b2, p2, e23, e24, e21, e25⟩
    · cases hq; exact ⟨fun n z => ⟨(fun k h => by cases h), b3, e33, p3, e34⟩, b3, p3, e33, e34, e31, e35⟩
    · cases hq; exact ⟨fun n z => ⟨(fun k h => by cases h), b4, e42, p4, e43⟩, e44⟩
  · exact ⟨List.forall_mem_cons.mpr ⟨va_Nw.of rfl (hts0 _ (List.mem_of_getElem? (i := 73) (by decide +kernel))), List.forall_mem_cons.mpr ⟨va_Nw.of rfl (hts0 _ (List.mem_of_getElem? (i := 95) (by decide +kernel))), List.forall_mem_cons.mpr ⟨va_Nw.of rfl (hts0 _ (List.mem_of_getElem? (i := 98) (by decide +kernel))), List.forall_mem_cons.mpr ⟨va_Nw.of rfl (hts0 _ (List.mem_of_getElem? (i := 106) (by decide +kernel))), List.forall_mem_cons.mpr ⟨va_Nw.of rfl (hts0 _ (List.mem_of_getElem? (i := 109) (by decide +kernel))), List.forall_mem_cons.mpr ⟨va_Nw.of rfl (hts0 _ (List.mem_of_getElem? (i := 117) (by decide +kernel))), List.forall_mem_cons.mpr ⟨va_Nw.of rfl (hts0 _ (List.mem_of_getElem? (i := 120) (by decide +kernel))), List.forall_mem_cons.mpr ⟨va_Nw.of rfl (hts0 _ (List.mem_of_getElem? (i := 128) (by decide +kernel))), List.forall_mem_cons.mpr ⟨va_Nw.of rfl (hts0 _ (List.mem_of_getElem? (i := 131) (by decide +kernel))), List.forall_mem_cons.mpr ⟨va_Nw.of rfl (hts0 _ (List.mem_of_getElem? (i := 180) (by decide +kernel))), List.forall_mem_cons.mpr ⟨va_Nw.of rfl (hts0 _ (List.mem_of_getElem? (i := 203) (by decide +kernel))), List.forall_mem_cons.mpr ⟨va_Nw.of rfl (hts0 _ (List.mem_of_getElem? (i := 230) (by decide +kernel))), List.forall_mem_cons.mpr ⟨va_Nw.of rfl (hts0 _ (List.mem_of_getElem? (i := 255) (by decide +kernel))), List.forall_mem_cons.mpr ⟨va_Nw.of rfl (hts0 _ (List.mem_of_getElem? (i := 278) (by decide +kernel))), fun _ h => absurd h List.not_mem_nil⟩⟩⟩⟩⟩⟩⟩⟩⟩⟩⟩⟩⟩⟩, List.forall_mem_cons.mpr ⟨va_Nw.of rfl (hts0 _ (List.mem_of_getElem? (i := 1393) (by decide +kernel))), List.forall_mem_cons.mpr ⟨va_Nw.of rfl (hts0 _ (List.mem_of_getElem? (i := 1394) (by decide +kernel))), List.forall_mem_cons.mpr ⟨va_Nw.of rfl (hts0 _ (List.mem_of_getElem? (i := 1395) (by decide +kernel))), List.forall_mem_cons.mpr ⟨va_Nw.of rfl (hts0 _ (List.mem_of_getElem? (i := 1396) (by decide +kernel))), fun _ h => absurd h List.not_mem_nil⟩⟩⟩⟩, va_AO.of w2, va_AO.of w3, b4, e42, e43⟩
set_option maxHeartbeats 4000000 in
theorem lw_ABOVE {s : State} {args : Array Value} {A : Nat → Prop} (hts0 : ∀ w ∈ lw_tbl, w.before args s = true) (hgv : (Jvm.Cond.and given_1 narrow_1).before args s = true) (hA : ∀ a : Nat, a < s.heap.size → ¬ A a) : ∃ t : Nat, va_Z "WhirlShafts" "ABOVE" "[I" (.ref t) A s s.heap ∧ va_T .int t 5 (fun j => .int ((([-1, 0, 0, 1, 2] : List Int32)[j]?).getD 0)) A s s.heap := by
  have hs := flat_of_before _ hgv
  obtain ⟨t, ht, hT⟩ := va_Tof (tm := .static "WhirlShafts" "ABOVE" "[I") (ty := .int) (N := 5) (f := fun j => .int ((([-1, 0, 0, 1, 2] : List Int32)[j]?).getD 0)) (A := A) (by decide) (hs _ (by decide +kernel)) (va_eqt (hs (.eq (.length (.static "WhirlShafts" "ABOVE" "[I")) (.int 5)) (by decide +kernel))) (fun j hj => by
    rcases (show j = 0 ∨ j = 1 ∨ j = 2 ∨ j = 3 ∨ j = 4 by omega) with rfl | rfl | rfl | rfl | rfl
    · exact va_eqt (hs (.eq (.elem (.static "WhirlShafts" "ABOVE" "[I") (.int 0)) (.int (-1))) (by decide +kernel))
    · exact va_eqt (hs (.eq (.elem (.static "WhirlShafts" "ABOVE" "[I") (.int 1)) (.int 0)) (by decide +kernel))
    · exact va_eqt (hs (.eq (.elem (.static "WhirlShafts" "ABOVE" "[I") (.int 2)) (.int 0)) (by decide +kernel))
    · exact va_eqt (hs (.eq (.elem (.static "WhirlShafts" "ABOVE" "[I") (.int 3)) (.int 1)) (by decide +kernel))
    · exact va_eqt (hs (.eq (.elem (.static "WhirlShafts" "ABOVE" "[I") (.int 4)) (.int 2)) (by decide +kernel))) hA
  exact ⟨t, va_Zof (hts0 _ (List.mem_of_getElem? (i := 69) (by decide +kernel))) (hts0 _ (List.mem_of_getElem? (i := 45) (by decide +kernel))) ht hA, hT⟩
set_option maxHeartbeats 4000000 in
theorem lw_LEAST {s : State} {args : Array Value} {A : Nat → Prop} (hts0 : ∀ w ∈ lw_tbl, w.before args s = true) (hgv : (Jvm.Cond.and given_1 narrow_1).before args s = true) (hA : ∀ a : Nat, a < s.heap.size → ¬ A a) : ∃ t : Nat, va_Z "WhirlShafts" "LEAST" "[I" (.ref t) A s s.heap ∧ va_T .int t 6 (fun j => .int ((([1, 1, 0, 1, 0, 0] : List Int32)[j]?).getD 0)) A s s.heap := by
  have hs := flat_of_before _ hgv
  obtain ⟨t, ht, hT⟩ := va_Tof (tm := .static "WhirlShafts" "LEAST" "[I") (ty := .int) (N := 6) (f := fun j => .int ((([1, 1, 0, 1, 0, 0] : List Int32)[j]?).getD 0)) (A := A) (by decide) (hs _ (by decide +kernel)) (va_eqt (hs (.eq (.length (.static "WhirlShafts" "LEAST" "[I")) (.int 6)) (by decide +kernel))) (fun j hj => by
    rcases (show j = 0 ∨ j = 1 ∨ j = 2 ∨ j = 3 ∨ j = 4 ∨ j = 5 by omega) with rfl | rfl | rfl | rfl | rfl | rfl
    · exact va_eqt (hs (.eq (.elem (.static "WhirlShafts" "LEAST" "[I") (.int 0)) (.int 1)) (by decide +kernel))
    · exact va_eqt (hs (.eq (.elem (.static "WhirlShafts" "LEAST" "[I") (.int 1)) (.int 1)) (by decide +kernel))
    · exact va_eqt (hs (.eq (.elem (.static "WhirlShafts" "LEAST" "[I") (.int 2)) (.int 0)) (by decide +kernel))
    · exact va_eqt (hs (.eq (.elem (.static "WhirlShafts" "LEAST" "[I") (.int 3)) (.int 1)) (by decide +kernel))
    · exact va_eqt (hs (.eq (.elem (.static "WhirlShafts" "LEAST" "[I") (.int 4)) (.int 0)) (by decide +kernel))
    · exact va_eqt (hs (.eq (.elem (.static "WhirlShafts" "LEAST" "[I") (.int 5)) (.int 0)) (by decide +kernel))) hA
  exact ⟨t, va_Zof (hts0 _ (List.mem_of_getElem? (i := 343) (by decide +kernel))) (hts0 _ (List.mem_of_getElem? (i := 45) (by decide +kernel))) ht hA, hT⟩
set_option maxHeartbeats 4000000 in
theorem lw_MOST {s : State} {args : Array Value} {A : Nat → Prop} (hts0 : ∀ w ∈ lw_tbl, w.before args s = true) (hgv : (Jvm.Cond.and given_1 narrow_1).before args s = true) (hA : ∀ a : Nat, a < s.heap.size → ¬ A a) : ∃ t : Nat, va_Z "WhirlShafts" "MOST" "[I" (.ref t) A s s.heap ∧ va_T .int t 6 (fun j => .int ((([99, 99, 99, 6, 9, 2] : List Int32)[j]?).getD 0)) A s s.heap := by
  have hs := flat_of_before _ hgv
  obtain ⟨t, ht, hT⟩ := va_Tof (tm := .static "WhirlShafts" "MOST" "[I") (ty := .int) (N := 6) (f := fun j => .int ((([99, 99, 99, 6, 9, 2] : List Int32)[j]?).getD 0)) (A := A) (by decide) (hs _ (by decide +kernel)) (va_eqt (hs (.eq (.length (.static "WhirlShafts" "MOST" "[I")) (.int 6)) (by decide +kernel))) (fun j hj => by
    rcases (show j = 0 ∨ j = 1 ∨ j = 2 ∨ j = 3 ∨ j = 4 ∨ j = 5 by omega) with rfl | rfl | rfl | rfl | rfl | rfl
    · exact va_eqt (hs (.eq (.elem (.static "WhirlShafts" "MOST" "[I") (.int 0)) (.int 99)) (by decide +kernel))
    · exact va_eqt (hs (.eq (.elem (.static "WhirlShafts" "MOST" "[I") (.int 1)) (.int 99)) (by decide +kernel))
    · exact va_eqt (hs (.eq (.elem (.static "WhirlShafts" "MOST" "[I") (.int 2)) (.int 99)) (by decide +kernel))
    · exact va_eqt (hs (.eq (.elem (.static "WhirlShafts" "MOST" "[I") (.int 3)) (.int 6)) (by decide +kernel))
    · exact va_eqt (hs (.eq (.elem (.static "WhirlShafts" "MOST" "[I") (.int 4)) (.int 9)) (by decide +kernel))
    · exact va_eqt (hs (.eq (.elem (.static "WhirlShafts" "MOST" "[I") (.int 5)) (.int 2)) (by decide +kernel))) hA
  exact ⟨t, va_Zof (hts0 _ (List.mem_of_getElem? (i := 345) (by decide +kernel))) (hts0 _ (List.mem_of_getElem? (i := 45) (by decide +kernel))) ht hA, hT⟩
theorem mv_Z {C n d : String} {v : Value} {A B : Nat → Prop} {s U : State} {H : Heap} (h : va_Z C n d v A s s.heap) (hW : s.WarmedH U.vm) (hU : U.heap = H) (hk : ∀ a : Nat, a < s.heap.size → ¬ A a → H[a]? = s.heap[a]?) (hB : ∀ q, B q → A q) : va_Z C n d v B U U.heap := by
  subst hU
  exact ((h.moved hW.alike).kept hk).narrow hB
theorem mv_T {ty : FieldType} {t N : Nat} {f : Nat → Value} {A B : Nat → Prop} {s U : State} {H : Heap} (h : va_T ty t N f A s s.heap) (hW : s.WarmedH U.vm) (hU : U.heap = H) (hk : ∀ a : Nat, a < s.heap.size → ¬ A a → H[a]? = s.heap[a]?) (hB : ∀ q, B q → A q) : va_T ty t N f B U U.heap := by
  subst hU
  exact ((h.moved hW.alike).kept hk).narrow hB
