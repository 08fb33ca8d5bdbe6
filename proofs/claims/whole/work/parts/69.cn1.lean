/-! ===== the small constructors ===== -/
theorem wc_oi : Cond.instanceMethod Lib.objectInit ∈ q_TW := q_in 66 (by decide +kernel) (by decide +kernel)
theorem wc_oc : Cond.code Lib.objectInit ⟨#[0xb1]⟩ 1 none ∈ q_TW := q_in 67 (by decide +kernel) (by decide +kernel)
theorem wc_0 : Cond.methodLink RX2 3 Lib.objectInit ∈ q_TW := q_in 76 (by decide +kernel) (by decide +kernel)
theorem wc_1 : Cond.fieldLink RX2 9 "WhirlShafts$Disc" "bodies" "[I" ∈ q_TW := q_in 77 (by decide +kernel) (by decide +kernel)
theorem wc_2 : Cond.instanceMethod ⟨RX2, "<init>", "()V"⟩ ∈ q_TW := q_in 74 (by decide +kernel) (by decide +kernel)
theorem wc_3 : Cond.code ⟨RX2, "<init>", "()V"⟩ prog_4_method_1_code 1 none ∈ q_TW := q_in 75 (by decide +kernel) (by decide +kernel)
theorem wc_4 : Cond.instanceMethod ⟨RX7, "<init>", "()V"⟩ ∈ q_TW := q_in 96 (by decide +kernel) (by decide +kernel)
theorem wc_5 : Cond.code ⟨RX7, "<init>", "()V"⟩ prog_9_method_1_code 1 none ∈ q_TW := q_in 97 (by decide +kernel) (by decide +kernel)
theorem wc_6 : Cond.instanceMethod ⟨RX3, "<init>", "()V"⟩ ∈ q_TW := q_in 107 (by decide +kernel) (by decide +kernel)
theorem wc_7 : Cond.code ⟨RX3, "<init>", "()V"⟩ prog_5_method_1_code 1 none ∈ q_TW := q_in 108 (by decide +kernel) (by decide +kernel)
theorem wc_8 : Cond.methodLink RX4 3 Lib.objectInit ∈ q_TW := q_in 142 (by decide +kernel) (by decide +kernel)
theorem wc_9 : Cond.fieldLink RX4 9 "WhirlShafts$Line" "kind" "[I" ∈ q_TW := q_in 144 (by decide +kernel) (by decide +kernel)
theorem wc_10 : Cond.fieldLink RX4 15 "WhirlShafts$Line" "mass" "[I" ∈ q_TW := q_in 146 (by decide +kernel) (by decide +kernel)
theorem wc_11 : Cond.fieldLink RX4 18 "WhirlShafts$Line" "bearing" "[I" ∈ q_TW := q_in 148 (by decide +kernel) (by decide +kernel)
theorem wc_12 : Cond.fieldLink RX4 21 "WhirlShafts$Line" "stiff" "[I" ∈ q_TW := q_in 149 (by decide +kernel) (by decide +kernel)
theorem wc_13 : Cond.fieldLink RX4 24 "WhirlShafts$Line" "ratio" "[I" ∈ q_TW := q_in 151 (by decide +kernel) (by decide +kernel)
theorem wc_14 : Cond.fieldLink RX4 27 "WhirlShafts$Line" "kinds" "[LWhirlShafts$Disc;" ∈ q_TW := q_in 143 (by decide +kernel) (by decide +kernel)
theorem wc_15 : Cond.methodLink RX5 3 Lib.objectInit ∈ q_TW := q_in 183 (by decide +kernel) (by decide +kernel)
theorem wc_16 : Cond.fieldLink RX5 9 "WhirlShafts$Orders" "what" "[I" ∈ q_TW := q_in 184 (by decide +kernel) (by decide +kernel)
theorem wc_17 : Cond.fieldLink RX5 15 "WhirlShafts$Orders" "number" "[I" ∈ q_TW := q_in 186 (by decide +kernel) (by decide +kernel)
theorem wc_18 : Cond.fieldLink RX5 18 "WhirlShafts$Orders" "v" "[I" ∈ q_TW := q_in 188 (by decide +kernel) (by decide +kernel)
theorem wc_19 : Cond.methodLink RX0 3 Lib.objectInit ∈ q_TW := q_in 206 (by decide +kernel) (by decide +kernel)
theorem wc_20 : Cond.fieldLink RX0 9 "WhirlShafts$Changes" "what" "[I" ∈ q_TW := q_in 207 (by decide +kernel) (by decide +kernel)
theorem wc_21 : Cond.fieldLink RX0 15 "WhirlShafts$Changes" "number" "[I" ∈ q_TW := q_in 208 (by decide +kernel) (by decide +kernel)
theorem wc_22 : Cond.fieldLink RX0 18 "WhirlShafts$Changes" "was" "[I" ∈ q_TW := q_in 209 (by decide +kernel) (by decide +kernel)
theorem wc_23 : Cond.fieldLink RX0 21 "WhirlShafts$Changes" "became" "[I" ∈ q_TW := q_in 210 (by decide +kernel) (by decide +kernel)
theorem wc_24 : Cond.methodLink RX8 3 Lib.objectInit ∈ q_TW := q_in 281 (by decide +kernel) (by decide +kernel)
theorem wc_25 : Cond.fieldLink RX8 9 "WhirlShafts$Row" "places" "[J" ∈ q_TW := q_in 282 (by decide +kernel) (by decide +kernel)
theorem wc_26 : Cond.fieldLink RX8 15 "WhirlShafts$Row" "sort" "I" ∈ q_TW := q_in 284 (by decide +kernel) (by decide +kernel)
theorem wc_27 : Cond.methodLink RX10 3 Lib.objectInit ∈ q_TW := q_in 258 (by decide +kernel) (by decide +kernel)
theorem wc_28 : Cond.fieldLink RX10 9 "WhirlShafts$Tape" "bytes" "[I" ∈ q_TW := q_in 259 (by decide +kernel) (by decide +kernel)
theorem wc_29 : Cond.fieldLink RX10 15 "WhirlShafts$Tape" "numbers" "[I" ∈ q_TW := q_in 264 (by decide +kernel) (by decide +kernel)
theorem dc_2_0 : decode prog_4_method_1_code 0 = .ok (.aload_n 0, 1) := by decide +kernel
theorem dc_2_1 : decode prog_4_method_1_code 1 = .ok (.invokespecial 3, 3) := by decide +kernel
theorem dc_2_4 : decode prog_4_method_1_code 4 = .ok (.aload_n 0, 1) := by decide +kernel
theorem dc_2_5 : decode prog_4_method_1_code 5 = .ok (.bipush 24, 2) := by decide +kernel
theorem dc_2_7 : decode prog_4_method_1_code 7 = .ok (.newarray .int, 2) := by decide +kernel
theorem dc_2_9 : decode prog_4_method_1_code 9 = .ok (.putfield 9, 3) := by decide +kernel
theorem dc_2_12 : decode prog_4_method_1_code 12 = .ok (.return_, 1) := by decide +kernel
theorem dc_7_0 : decode prog_9_method_1_code 0 = .ok (.aload_n 0, 1) := by decide +kernel
theorem dc_7_1 : decode prog_9_method_1_code 1 = .ok (.invokespecial 1, 3) := by decide +kernel
theorem dc_7_4 : decode prog_9_method_1_code 4 = .ok (.return_, 1) := by decide +kernel
theorem dc_3_0 : decode prog_5_method_1_code 0 = .ok (.aload_n 0, 1) := by decide +kernel
theorem dc_3_1 : decode prog_5_method_1_code 1 = .ok (.invokespecial 1, 3) := by decide +kernel
theorem dc_3_4 : decode prog_5_method_1_code 4 = .ok (.return_, 1) := by decide +kernel
theorem dc_1_0 : decode prog_3_method_1_code 0 = .ok (.aload_n 0, 1) := by decide +kernel
theorem dc_1_1 : decode prog_3_method_1_code 1 = .ok (.invokespecial 1, 3) := by decide +kernel
theorem dc_1_4 : decode prog_3_method_1_code 4 = .ok (.return_, 1) := by decide +kernel
theorem dc_9_0 : decode prog_11_method_1_code 0 = .ok (.aload_n 0, 1) := by decide +kernel
theorem dc_9_1 : decode prog_11_method_1_code 1 = .ok (.invokespecial 1, 3) := by decide +kernel
theorem dc_9_4 : decode prog_11_method_1_code 4 = .ok (.return_, 1) := by decide +kernel
theorem dc_4_0 : decode prog_6_method_1_code 0 = .ok (.aload_n 0, 1) := by decide +kernel
theorem dc_4_1 : decode prog_6_method_1_code 1 = .ok (.invokespecial 3, 3) := by decide +kernel
theorem dc_4_4 : decode prog_6_method_1_code 4 = .ok (.aload_n 0, 1) := by decide +kernel
theorem dc_4_5 : decode prog_6_method_1_code 5 = .ok (.bipush 8, 2) := by decide +kernel
theorem dc_4_7 : decode prog_6_method_1_code 7 = .ok (.newarray .int, 2) := by decide +kernel
theorem dc_4_9 : decode prog_6_method_1_code 9 = .ok (.putfield 9, 3) := by decide +kernel
theorem dc_4_12 : decode prog_6_method_1_code 12 = .ok (.aload_n 0, 1) := by decide +kernel
theorem dc_4_13 : decode prog_6_method_1_code 13 = .ok (.bipush 8, 2) := by decide +kernel
theorem dc_4_15 : decode prog_6_method_1_code 15 = .ok (.newarray .int, 2) := by decide +kernel
theorem dc_4_17 : decode prog_6_method_1_code 17 = .ok (.putfield 15, 3) := by decide +kernel
theorem dc_4_20 : decode prog_6_method_1_code 20 = .ok (.aload_n 0, 1) := by decide +kernel
theorem dc_4_21 : decode prog_6_method_1_code 21 = .ok (.bipush 8, 2) := by decide +kernel
theorem dc_4_23 : decode prog_6_method_1_code 23 = .ok (.newarray .int, 2) := by decide +kernel
theorem dc_4_25 : decode prog_6_method_1_code 25 = .ok (.putfield 18, 3) := by decide +kernel
theorem dc_4_28 : decode prog_6_method_1_code 28 = .ok (.aload_n 0, 1) := by decide +kernel
theorem dc_4_29 : decode prog_6_method_1_code 29 = .ok (.bipush 8, 2) := by decide +kernel
theorem dc_4_31 : decode prog_6_method_1_code 31 = .ok (.newarray .int, 2) := by decide +kernel
theorem dc_4_33 : decode prog_6_method_1_code 33 = .ok (.putfield 21, 3) := by decide +kernel
theorem dc_4_36 : decode prog_6_method_1_code 36 = .ok (.aload_n 0, 1) := by decide +kernel
theorem dc_4_37 : decode prog_6_method_1_code 37 = .ok (.bipush 8, 2) := by decide +kernel
theorem dc_4_39 : decode prog_6_method_1_code 39 = .ok (.newarray .int, 2) := by decide +kernel
theorem dc_4_41 : decode prog_6_method_1_code 41 = .ok (.putfield 24, 3) := by decide +kernel
theorem dc_4_44 : decode prog_6_method_1_code 44 = .ok (.aload_n 0, 1) := by decide +kernel
theorem dc_4_45 : decode prog_6_method_1_code 45 = .ok (.aload_n 1, 1) := by decide +kernel
theorem dc_4_46 : decode prog_6_method_1_code 46 = .ok (.putfield 27, 3) := by decide +kernel
theorem dc_4_49 : decode prog_6_method_1_code 49 = .ok (.return_, 1) := by decide +kernel
theorem dc_5_0 : decode prog_7_method_1_code 0 = .ok (.aload_n 0, 1) := by decide +kernel
theorem dc_5_1 : decode prog_7_method_1_code 1 = .ok (.invokespecial 3, 3) := by decide +kernel
theorem dc_5_4 : decode prog_7_method_1_code 4 = .ok (.aload_n 0, 1) := by decide +kernel
theorem dc_5_5 : decode prog_7_method_1_code 5 = .ok (.bipush 8, 2) := by decide +kernel
theorem dc_5_7 : decode prog_7_method_1_code 7 = .ok (.newarray .int, 2) := by decide +kernel
theorem dc_5_9 : decode prog_7_method_1_code 9 = .ok (.putfield 9, 3) := by decide +kernel
theorem dc_5_12 : decode prog_7_method_1_code 12 = .ok (.aload_n 0, 1) := by decide +kernel
theorem dc_5_13 : decode prog_7_method_1_code 13 = .ok (.bipush 8, 2) := by decide +kernel
theorem dc_5_15 : decode prog_7_method_1_code 15 = .ok (.newarray .int, 2) := by decide +kernel
theorem dc_5_17 : decode prog_7_method_1_code 17 = .ok (.putfield 15, 3) := by decide +kernel
theorem dc_5_20 : decode prog_7_method_1_code 20 = .ok (.aload_n 0, 1) := by decide +kernel
theorem dc_5_21 : decode prog_7_method_1_code 21 = .ok (.bipush 8, 2) := by decide +kernel
theorem dc_5_23 : decode prog_7_method_1_code 23 = .ok (.newarray .int, 2) := by decide +kernel
theorem dc_5_25 : decode prog_7_method_1_code 25 = .ok (.putfield 18, 3) := by decide +kernel
theorem dc_5_28 : decode prog_7_method_1_code 28 = .ok (.return_, 1) := by decide +kernel
theorem dc_0_0 : decode prog_2_method_1_code 0 = .ok (.aload_n 0, 1) := by decide +kernel
theorem dc_0_1 : decode prog_2_method_1_code 1 = .ok (.invokespecial 3, 3) := by decide +kernel
theorem dc_0_4 : decode prog_2_method_1_code 4 = .ok (.aload_n 0, 1) := by decide +kernel
theorem dc_0_5 : decode prog_2_method_1_code 5 = .ok (.bipush 12, 2) := by decide +kernel
theorem dc_0_7 : decode prog_2_method_1_code 7 = .ok (.newarray .int, 2) := by decide +kernel
theorem dc_0_9 : decode prog_2_method_1_code 9 = .ok (.putfield 9, 3) := by decide +kernel
theorem dc_0_12 : decode prog_2_method_1_code 12 = .ok (.aload_n 0, 1) := by decide +kernel
theorem dc_0_13 : decode prog_2_method_1_code 13 = .ok (.bipush 12, 2) := by decide +kernel
theorem dc_0_15 : decode prog_2_method_1_code 15 = .ok (.newarray .int, 2) := by decide +kernel
theorem dc_0_17 : decode prog_2_method_1_code 17 = .ok (.putfield 15, 3) := by decide +kernel
theorem dc_0_20 : decode prog_2_method_1_code 20 = .ok (.aload_n 0, 1) := by decide +kernel
theorem dc_0_21 : decode prog_2_method_1_code 21 = .ok (.bipush 12, 2) := by decide +kernel
theorem dc_0_23 : decode prog_2_method_1_code 23 = .ok (.newarray .int, 2) := by decide +kernel
theorem dc_0_25 : decode prog_2_method_1_code 25 = .ok (.putfield 18, 3) := by decide +kernel
theorem dc_0_28 : decode prog_2_method_1_code 28 = .ok (.aload_n 0, 1) := by decide +kernel
theorem dc_0_29 : decode prog_2_method_1_code 29 = .ok (.bipush 12, 2) := by decide +kernel
theorem dc_0_31 : decode prog_2_method_1_code 31 = .ok (.newarray .int, 2) := by decide +kernel
theorem dc_0_33 : decode prog_2_method_1_code 33 = .ok (.putfield 21, 3) := by decide +kernel
theorem dc_0_36 : decode prog_2_method_1_code 36 = .ok (.return_, 1) := by decide +kernel
theorem dc_8_0 : decode prog_10_method_1_code 0 = .ok (.aload_n 0, 1) := by decide +kernel
theorem dc_8_1 : decode prog_10_method_1_code 1 = .ok (.invokespecial 3, 3) := by decide +kernel
theorem dc_8_4 : decode prog_10_method_1_code 4 = .ok (.aload_n 0, 1) := by decide +kernel
theorem dc_8_5 : decode prog_10_method_1_code 5 = .ok (.bipush 40, 2) := by decide +kernel
theorem dc_8_7 : decode prog_10_method_1_code 7 = .ok (.newarray .long, 2) := by decide +kernel
theorem dc_8_9 : decode prog_10_method_1_code 9 = .ok (.putfield 9, 3) := by decide +kernel
theorem dc_8_12 : decode prog_10_method_1_code 12 = .ok (.aload_n 0, 1) := by decide +kernel
theorem dc_8_13 : decode prog_10_method_1_code 13 = .ok (.iconst (-1), 1) := by decide +kernel
theorem dc_8_14 : decode prog_10_method_1_code 14 = .ok (.putfield 15, 3) := by decide +kernel
theorem dc_8_17 : decode prog_10_method_1_code 17 = .ok (.return_, 1) := by decide +kernel
theorem dc_10_0 : decode prog_12_method_1_code 0 = .ok (.aload_n 0, 1) := by decide +kernel
theorem dc_10_1 : decode prog_12_method_1_code 1 = .ok (.invokespecial 3, 3) := by decide +kernel
theorem dc_10_4 : decode prog_12_method_1_code 4 = .ok (.aload_n 0, 1) := by decide +kernel
theorem dc_10_5 : decode prog_12_method_1_code 5 = .ok (.bipush 80, 2) := by decide +kernel
theorem dc_10_7 : decode prog_12_method_1_code 7 = .ok (.newarray .int, 2) := by decide +kernel
theorem dc_10_9 : decode prog_12_method_1_code 9 = .ok (.putfield 9, 3) := by decide +kernel
theorem dc_10_12 : decode prog_12_method_1_code 12 = .ok (.aload_n 0, 1) := by decide +kernel
theorem dc_10_13 : decode prog_12_method_1_code 13 = .ok (.iconst 3, 1) := by decide +kernel
theorem dc_10_14 : decode prog_12_method_1_code 14 = .ok (.newarray .int, 2) := by decide +kernel
theorem dc_10_16 : decode prog_12_method_1_code 16 = .ok (.putfield 15, 3) := by decide +kernel
theorem dc_10_19 : decode prog_12_method_1_code 19 = .ok (.return_, 1) := by decide +kernel
set_option maxHeartbeats 4000000 in
set_option maxRecDepth 100000 in
theorem k_2_2 (l : Launch) (D : va_G) (cA : Nat → ClassId) (h0 : Nat) (sz : Nat) : Met l ⟨RX2, "<init>", "()V"⟩ (Cond.code ⟨RX2, "<init>", "()V"⟩ prog_4_method_1_code 1 none :: q_TW) ({ frames := 1, cells := 1, slots := 24, locals := 12 }) (va_Pc [.ref h0] (cn_Pre D cA [(h0, .inr (2, [.null, .int 0, .int 0, .int 0]))] sz)) (va_Qv (fun _ : Unit => True) (fun _ t => ∃ q1 : Nat, va_P D q_cn [(h0, .inr (2, [.ref q1, .int 0, .int 0, .int 0])), (q1, .inl (cA 0, 24, .inl (fun _ => 0)))] t.heap ∧ va_D (va_A [(h0, .inr (2, [.null, .int 0, .int 0, .int 0]))] sz) [(h0, .inr (2, [.ref q1, .int 0, .int 0, .int 0])), (q1, .inl (cA 0, 24, .inl (fun _ => 0)))]) (va_A [(h0, .inr (2, [.null, .int 0, .int 0, .int 0]))] sz)) 1 24 (va_A [(h0, .inr (2, [.null, .int 0, .int 0, .int 0]))] sz) := by
  refine q_ofW (cc := prog_4_method_1_code) (maxL := 1) (ret := none) (plainFor_of_name (by decide +kernel)) rfl ?_
  intro p e s m args below meth c s₁ B hml hv
  obtain ⟨rfl, hsz, hP, hK, hD0, hE⟩ := hv
  have hx := B.exec
  have hb := B.bytes
  have hr := B.returns
  have hts0 := atoms_spec (ws := Cond.code ⟨RX2, "<init>", "()V"⟩ prog_4_method_1_code 1 none :: q_TW) B.pre
  have hts : ∀ w ∈ q_TW, w.before _ s = true := fun w hw => hts0 w (List.mem_cons_of_mem _ hw)
  have hown : s.vm.findClass RX2 = some m.cls := findClass_of_methodNamed B.named
  have hlocks := B.notSynchronized
  have hin : meth.name = "<init>" := (name_of_methodNamed B.named B.method).1
  subst hsz
  have hD := hD0.self (sz := s.heap.size)
  generalize hAe : va_A [(h0, .inr (2, [.null, .int 0, .int 0, .int 0]))] s.heap.size = A at hD ⊢
  have hA : ∀ q : Nat, s.heap.size ≤ q → A q := fun q h => by rw [← hAe]; exact Or.inr h
  have hS : va_S A s.heap s.heap [] := va_S.rf
  have hl := lv_entry ([.ref h0]) (n := 1) (Nat.le_of_ble_eq_true rfl)
  rw [lg_entry_eq]
  generalize (lg_sl ([.ref h0]) ++ List.replicate (1 - (lg_sl ([.ref h0])).length) Slot.unset).toArray = ls at hl ⊢
  have hl : lv_has ls 1 [(0, .ref h0)] := hl
  refine lv_aload_n hx hb dc_2_0 rfl (lv_at hl 0 rfl) ?_
  refine W.objInit hx hb hown (hts _ wc_0) (hts _ wc_oi) (hts _ wc_oc) rfl (by rw [hml]; exact hl.1) rfl dc_2_1 (Nat.le_of_ble_eq_true rfl) (Nat.le_of_ble_eq_true rfl) ?_
  refine W.eq (g2 := F0 m 4 ls []) rfl ?_
  refine lv_aload_n hx hb dc_2_4 rfl (lv_at hl 0 rfl) ?_
  refine lv_bipush (v := 24) hx hb dc_2_5 (by decide) ?_
  refine q_newI (N := 24) hx hb hts hK hP hD hS hA (by decide) (by decide) (by decide) (Nat.le_of_ble_eq_true rfl) (Nat.le_of_ble_eq_true rfl) dc_2_7 (fun q1 H hP hD hS => ?_)
  have hP : va_P D q_cn [(h0, .inr (2, [.null, .int 0, .int 0, .int 0])), (q1, .inl (cA 0, 24, .inl (fun _ => 0)))] H := hP
  have hD : va_D A [(h0, .inr (2, [.null, .int 0, .int 0, .int 0])), (q1, .inl (cA 0, 24, .inl (fun _ => 0)))] := hD
  refine va_putF (D := D) (ci := 2) (v := .ref q1) (ty := (.array .int)) (C := RX2) (T := TX2) (N := 4) hx hb hts inX2 tyX2 tyX2_ok nmX2 hown hK hP hD hS 0 rfl rfl 0 (by decide) (hts _ wc_1) (fun _ h9 => h9) rfl hin rfl (by decide +kernel) rfl rfl (Nat.le_of_ble_eq_true rfl) dc_2_9 (fun H locs hP hD hS => ?_)
  have hP : va_P D q_cn [(h0, .inr (2, [.ref q1, .int 0, .int 0, .int 0])), (q1, .inl (cA 0, 24, .inl (fun _ => 0)))] H := hP
  have hD : va_D A [(h0, .inr (2, [.ref q1, .int 0, .int 0, .int 0])), (q1, .inl (cA 0, 24, .inl (fun _ => 0)))] := hD
  refine W.widen (k := 1) (n := 24) (by decide) (by decide) ?_
  have hq : ∀ t : State, t.heap = H → s.WarmedH t.vm → va_Qv (fun _ : Unit => True) (fun _ t => ∃ q1 : Nat, va_P D q_cn [(h0, .inr (2, [.ref q1, .int 0, .int 0, .int 0])), (q1, .inl (cA 0, 24, .inl (fun _ => 0)))] t.heap ∧ va_D A [(h0, .inr (2, [.ref q1, .int 0, .int 0, .int 0])), (q1, .inl (cA 0, 24, .inl (fun _ => 0)))]) A [Value.ref h0].toArray s (.returned none) t := fun t ht hW => ⟨⟨(), rfl, trivial, q1, by rw [ht]; exact hP, hD⟩, hS.F ht⟩
  exact W.vret hx hb hr hq hS.2.2 dc_2_12
set_option maxHeartbeats 4000000 in
set_option maxRecDepth 100000 in
theorem k_2_7 (l : Launch) (D : va_G) (cA : Nat → ClassId) (h0 : Nat) (sz : Nat) : Met l ⟨RX2, "<init>", "()V"⟩ (Cond.code ⟨RX2, "<init>", "()V"⟩ prog_4_method_1_code 1 none :: q_TW) ({ frames := 1, cells := 1, slots := 24, locals := 12 }) (va_Pc [.ref h0] (cn_Pre D cA [(h0, .inr (7, [.null, .int 0, .int 0, .int 0]))] sz)) (va_Qv (fun _ : Unit => True) (fun _ t => ∃ q1 : Nat, va_P D q_cn [(h0, .inr (7, [.ref q1, .int 0, .int 0, .int 0])), (q1, .inl (cA 0, 24, .inl (fun _ => 0)))] t.heap ∧ va_D (va_A [(h0, .inr (7, [.null, .int 0, .int 0, .int 0]))] sz) [(h0, .inr (7, [.ref q1, .int 0, .int 0, .int 0])), (q1, .inl (cA 0, 24, .inl (fun _ => 0)))]) (va_A [(h0, .inr (7, [.null, .int 0, .int 0, .int 0]))] sz)) 1 24 (va_A [(h0, .inr (7, [.null, .int 0, .int 0, .int 0]))] sz) := by
  refine q_ofW (cc := prog_4_method_1_code) (maxL := 1) (ret := none) (plainFor_of_name (by decide +kernel)) rfl ?_
  intro p e s m args below meth c s₁ B hml hv
  obtain ⟨rfl, hsz, hP, hK, hD0, hE⟩ := hv
  have hx := B.exec
  have hb := B.bytes
  have hr := B.returns
  have hts0 := atoms_spec (ws := Cond.code ⟨RX2, "<init>", "()V"⟩ prog_4_method_1_code 1 none :: q_TW) B.pre
  have hts : ∀ w ∈ q_TW, w.before _ s = true := fun w hw => hts0 w (List.mem_cons_of_mem _ hw)
  have hown : s.vm.findClass RX2 = some m.cls := findClass_of_methodNamed B.named
  have hlocks := B.notSynchronized
  have hin : meth.name = "<init>" := (name_of_methodNamed B.named B.method).1
  subst hsz
  have hD := hD0.self (sz := s.heap.size)
  generalize hAe : va_A [(h0, .inr (7, [.null, .int 0, .int 0, .int 0]))] s.heap.size = A at hD ⊢
  have hA : ∀ q : Nat, s.heap.size ≤ q → A q := fun q h => by rw [← hAe]; exact Or.inr h
  have hS : va_S A s.heap s.heap [] := va_S.rf
  have hl := lv_entry ([.ref h0]) (n := 1) (Nat.le_of_ble_eq_true rfl)
  rw [lg_entry_eq]
  generalize (lg_sl ([.ref h0]) ++ List.replicate (1 - (lg_sl ([.ref h0])).length) Slot.unset).toArray = ls at hl ⊢
  have hl : lv_has ls 1 [(0, .ref h0)] := hl
  refine lv_aload_n hx hb dc_2_0 rfl (lv_at hl 0 rfl) ?_
  refine W.objInit hx hb hown (hts _ wc_0) (hts _ wc_oi) (hts _ wc_oc) rfl (by rw [hml]; exact hl.1) rfl dc_2_1 (Nat.le_of_ble_eq_true rfl) (Nat.le_of_ble_eq_true rfl) ?_
  refine W.eq (g2 := F0 m 4 ls []) rfl ?_
  refine lv_aload_n hx hb dc_2_4 rfl (lv_at hl 0 rfl) ?_
  refine lv_bipush (v := 24) hx hb dc_2_5 (by decide) ?_
  refine q_newI (N := 24) hx hb hts hK hP hD hS hA (by decide) (by decide) (by decide) (Nat.le_of_ble_eq_true rfl) (Nat.le_of_ble_eq_true rfl) dc_2_7 (fun q1 H hP hD hS => ?_)
  have hP : va_P D q_cn [(h0, .inr (7, [.null, .int 0, .int 0, .int 0])), (q1, .inl (cA 0, 24, .inl (fun _ => 0)))] H := hP
  have hD : va_D A [(h0, .inr (7, [.null, .int 0, .int 0, .int 0])), (q1, .inl (cA 0, 24, .inl (fun _ => 0)))] := hD
  refine va_putF (D := D) (ci := 7) (v := .ref q1) (ty := (.array .int)) (C := RX7) (T := TX7) (N := 4) hx hb hts inX7 tyX7 tyX7_ok nmX7 hown hK hP hD hS 0 rfl rfl 0 (by decide) (hts _ wc_1) (fun _ h9 => h9) rfl hin rfl (by decide +kernel) rfl rfl (Nat.le_of_ble_eq_true rfl) dc_2_9 (fun H locs hP hD hS => ?_)
  have hP : va_P D q_cn [(h0, .inr (7, [.ref q1, .int 0, .int 0, .int 0])), (q1, .inl (cA 0, 24, .inl (fun _ => 0)))] H := hP
  have hD : va_D A [(h0, .inr (7, [.ref q1, .int 0, .int 0, .int 0])), (q1, .inl (cA 0, 24, .inl (fun _ => 0)))] := hD
  refine W.widen (k := 1) (n := 24) (by decide) (by decide) ?_
  have hq : ∀ t : State, t.heap = H → s.WarmedH t.vm → va_Qv (fun _ : Unit => True) (fun _ t => ∃ q1 : Nat, va_P D q_cn [(h0, .inr (7, [.ref q1, .int 0, .int 0, .int 0])), (q1, .inl (cA 0, 24, .inl (fun _ => 0)))] t.heap ∧ va_D A [(h0, .inr (7, [.ref q1, .int 0, .int 0, .int 0])), (q1, .inl (cA 0, 24, .inl (fun _ => 0)))]) A [Value.ref h0].toArray s (.returned none) t := fun t ht hW => ⟨⟨(), rfl, trivial, q1, by rw [ht]; exact hP, hD⟩, hS.F ht⟩
  exact W.vret hx hb hr hq hS.2.2 dc_2_12
set_option maxHeartbeats 4000000 in
set_option maxRecDepth 100000 in
theorem k_2_3 (l : Launch) (D : va_G) (cA : Nat → ClassId) (h0 : Nat) (sz : Nat) : Met l ⟨RX2, "<init>", "()V"⟩ (Cond.code ⟨RX2, "<init>", "()V"⟩ prog_4_method_1_code 1 none :: q_TW) ({ frames := 1, cells := 1, slots := 24, locals := 12 }) (va_Pc [.ref h0] (cn_Pre D cA [(h0, .inr (3, [.null, .int 0, .int 0, .int 0]))] sz)) (va_Qv (fun _ : Unit => True) (fun _ t => ∃ q1 : Nat, va_P D q_cn [(h0, .inr (3, [.ref q1, .int 0, .int 0, .int 0])), (q1, .inl (cA 0, 24, .inl (fun _ => 0)))] t.heap ∧ va_D (va_A [(h0, .inr (3, [.null, .int 0, .int 0, .int 0]))] sz) [(h0, .inr (3, [.ref q1, .int 0, .int 0, .int 0])), (q1, .inl (cA 0, 24, .inl (fun _ => 0)))]) (va_A [(h0, .inr (3, [.null, .int 0, .int 0, .int 0]))] sz)) 1 24 (va_A [(h0, .inr (3, [.null, .int 0, .int 0, .int 0]))] sz) := by
  refine q_ofW (cc := prog_4_method_1_code) (maxL := 1) (ret := none) (plainFor_of_name (by decide +kernel)) rfl ?_
  intro p e s m args below meth c s₁ B hml hv
  obtain ⟨rfl, hsz, hP, hK, hD0, hE⟩ := hv
  have hx := B.exec
  have hb := B.bytes
  have hr := B.returns
  have hts0 := atoms_spec (ws := Cond.code ⟨RX2, "<init>", "()V"⟩ prog_4_method_1_code 1 none :: q_TW) B.pre
  have hts : ∀ w ∈ q_TW, w.before _ s = true := fun w hw => hts0 w (List.mem_cons_of_mem _ hw)
  have hown : s.vm.findClass RX2 = some m.cls := findClass_of_methodNamed B.named
  have hlocks := B.notSynchronized
  have hin : meth.name = "<init>" := (name_of_methodNamed B.named B.method).1
  subst hsz
  have hD := hD0.self (sz := s.heap.size)
  generalize hAe : va_A [(h0, .inr (3, [.null, .int 0, .int 0, .int 0]))] s.heap.size = A at hD ⊢
  have hA : ∀ q : Nat, s.heap.size ≤ q → A q := fun q h => by rw [← hAe]; exact Or.inr h
  have hS : va_S A s.heap s.heap [] := va_S.rf
  have hl := lv_entry ([.ref h0]) (n := 1) (Nat.le_of_ble_eq_true rfl)
  rw [lg_entry_eq]
  generalize (lg_sl ([.ref h0]) ++ List.replicate (1 - (lg_sl ([.ref h0])).length) Slot.unset).toArray = ls at hl ⊢
  have hl : lv_has ls 1 [(0, .ref h0)] := hl
  refine lv_aload_n hx hb dc_2_0 rfl (lv_at hl 0 rfl) ?_
  refine W.objInit hx hb hown (hts _ wc_0) (hts _ wc_oi) (hts _ wc_oc) rfl (by rw [hml]; exact hl.1) rfl dc_2_1 (Nat.le_of_ble_eq_true rfl) (Nat.le_of_ble_eq_true rfl) ?_
  refine W.eq (g2 := F0 m 4 ls []) rfl ?_
  refine lv_aload_n hx hb dc_2_4 rfl (lv_at hl 0 rfl) ?_
  refine lv_bipush (v := 24) hx hb dc_2_5 (by decide) ?_
  refine q_newI (N := 24) hx hb hts hK hP hD hS hA (by decide) (by decide) (by decide) (Nat.le_of_ble_eq_true rfl) (Nat.le_of_ble_eq_true rfl) dc_2_7 (fun q1 H hP hD hS => ?_)
  have hP : va_P D q_cn [(h0, .inr (3, [.null, .int 0, .int 0, .int 0])), (q1, .inl (cA 0, 24, .inl (fun _ => 0)))] H := hP
  have hD : va_D A [(h0, .inr (3, [.null, .int 0, .int 0, .int 0])), (q1, .inl (cA 0, 24, .inl (fun _ => 0)))] := hD
  refine va_putF (D := D) (ci := 3) (v := .ref q1) (ty := (.array .int)) (C := RX3) (T := TX3) (N := 4) hx hb hts inX3 tyX3 tyX3_ok nmX3 hown hK hP hD hS 0 rfl rfl 0 (by decide) (hts _ wc_1) (fun _ h9 => h9) rfl hin rfl (by decide +kernel) rfl rfl (Nat.le_of_ble_eq_true rfl) dc_2_9 (fun H locs hP hD hS => ?_)
  have hP : va_P D q_cn [(h0, .inr (3, [.ref q1, .int 0, .int 0, .int 0])), (q1, .inl (cA 0, 24, .inl (fun _ => 0)))] H := hP
  have hD : va_D A [(h0, .inr (3, [.ref q1, .int 0, .int 0, .int 0])), (q1, .inl (cA 0, 24, .inl (fun _ => 0)))] := hD
  refine W.widen (k := 1) (n := 24) (by decide) (by decide) ?_
  have hq : ∀ t : State, t.heap = H → s.WarmedH t.vm → va_Qv (fun _ : Unit => True) (fun _ t => ∃ q1 : Nat, va_P D q_cn [(h0, .inr (3, [.ref q1, .int 0, .int 0, .int 0])), (q1, .inl (cA 0, 24, .inl (fun _ => 0)))] t.heap ∧ va_D A [(h0, .inr (3, [.ref q1, .int 0, .int 0, .int 0])), (q1, .inl (cA 0, 24, .inl (fun _ => 0)))]) A [Value.ref h0].toArray s (.returned none) t := fun t ht hW => ⟨⟨(), rfl, trivial, q1, by rw [ht]; exact hP, hD⟩, hS.F ht⟩
  exact W.vret hx hb hr hq hS.2.2 dc_2_12
set_option maxHeartbeats 4000000 in
set_option maxRecDepth 100000 in
theorem k_2_1 (l : Launch) (D : va_G) (cA : Nat → ClassId) (h0 : Nat) (sz : Nat) : Met l ⟨RX2, "<init>", "()V"⟩ (Cond.code ⟨RX2, "<init>", "()V"⟩ prog_4_method_1_code 1 none :: q_TW) ({ frames := 1, cells := 1, slots := 24, locals := 12 }) (va_Pc [.ref h0] (cn_Pre D cA [(h0, .inr (1, [.null, .int 0, .int 0, .int 0]))] sz)) (va_Qv (fun _ : Unit => True) (fun _ t => ∃ q1 : Nat, va_P D q_cn [(h0, .inr (1, [.ref q1, .int 0, .int 0, .int 0])), (q1, .inl (cA 0, 24, .inl (fun _ => 0)))] t.heap ∧ va_D (va_A [(h0, .inr (1, [.null, .int 0, .int 0, .int 0]))] sz) [(h0, .inr (1, [.ref q1, .int 0, .int 0, .int 0])), (q1, .inl (cA 0, 24, .inl (fun _ => 0)))]) (va_A [(h0, .inr (1, [.null, .int 0, .int 0, .int 0]))] sz)) 1 24 (va_A [(h0, .inr (1, [.null, .int 0, .int 0, .int 0]))] sz) := by
  refine q_ofW (cc := prog_4_method_1_code) (maxL := 1) (ret := none) (plainFor_of_name (by decide +kernel)) rfl ?_
  intro p e s m args below meth c s₁ B hml hv
  obtain ⟨rfl, hsz, hP, hK, hD0, hE⟩ := hv
  have hx := B.exec
  have hb := B.bytes
  have hr := B.returns
  have hts0 := atoms_spec (ws := Cond.code ⟨RX2, "<init>", "()V"⟩ prog_4_method_1_code 1 none :: q_TW) B.pre
  have hts : ∀ w ∈ q_TW, w.before _ s = true := fun w hw => hts0 w (List.mem_cons_of_mem _ hw)
  have hown : s.vm.findClass RX2 = some m.cls := findClass_of_methodNamed B.named
  have hlocks := B.notSynchronized
  have hin : meth.name = "<init>" := (name_of_methodNamed B.named B.method).1
  subst hsz
  have hD := hD0.self (sz := s.heap.size)
  generalize hAe : va_A [(h0, .inr (1, [.null, .int 0, .int 0, .int 0]))] s.heap.size = A at hD ⊢
  have hA : ∀ q : Nat, s.heap.size ≤ q → A q := fun q h => by rw [← hAe]; exact Or.inr h
  have hS : va_S A s.heap s.heap [] := va_S.rf
  have hl := lv_entry ([.ref h0]) (n := 1) (Nat.le_of_ble_eq_true rfl)
  rw [lg_entry_eq]
  generalize (lg_sl ([.ref h0]) ++ List.replicate (1 - (lg_sl ([.ref h0])).length) Slot.unset).toArray = ls at hl ⊢
  have hl : lv_has ls 1 [(0, .ref h0)] := hl
  refine lv_aload_n hx hb dc_2_0 rfl (lv_at hl 0 rfl) ?_
  refine W.objInit hx hb hown (hts _ wc_0) (hts _ wc_oi) (hts _ wc_oc) rfl (by rw [hml]; exact hl.1) rfl dc_2_1 (Nat.le_of_ble_eq_true rfl) (Nat.le_of_ble_eq_true rfl) ?_
  refine W.eq (g2 := F0 m 4 ls []) rfl ?_
  refine lv_aload_n hx hb dc_2_4 rfl (lv_at hl 0 rfl) ?_
  refine lv_bipush (v := 24) hx hb dc_2_5 (by decide) ?_
  refine q_newI (N := 24) hx hb hts hK hP hD hS hA (by decide) (by decide) (by decide) (Nat.le_of_ble_eq_true rfl) (Nat.le_of_ble_eq_true rfl) dc_2_7 (fun q1 H hP hD hS => ?_)
  have hP : va_P D q_cn [(h0, .inr (1, [.null, .int 0, .int 0, .int 0])), (q1, .inl (cA 0, 24, .inl (fun _ => 0)))] H := hP
  have hD : va_D A [(h0, .inr (1, [.null, .int 0, .int 0, .int 0])), (q1, .inl (cA 0, 24, .inl (fun _ => 0)))] := hD
  refine va_putF (D := D) (ci := 1) (v := .ref q1) (ty := (.array .int)) (C := RX1) (T := TX1) (N := 4) hx hb hts inX1 tyX1 tyX1_ok nmX1 hown hK hP hD hS 0 rfl rfl 0 (by decide) (hts _ wc_1) (fun _ h9 => h9) rfl hin rfl (by decide +kernel) rfl rfl (Nat.le_of_ble_eq_true rfl) dc_2_9 (fun H locs hP hD hS => ?_)
  have hP : va_P D q_cn [(h0, .inr (1, [.ref q1, .int 0, .int 0, .int 0])), (q1, .inl (cA 0, 24, .inl (fun _ => 0)))] H := hP
  have hD : va_D A [(h0, .inr (1, [.ref q1, .int 0, .int 0, .int 0])), (q1, .inl (cA 0, 24, .inl (fun _ => 0)))] := hD
  refine W.widen (k := 1) (n := 24) (by decide) (by decide) ?_
  have hq : ∀ t : State, t.heap = H → s.WarmedH t.vm → va_Qv (fun _ : Unit => True) (fun _ t => ∃ q1 : Nat, va_P D q_cn [(h0, .inr (1, [.ref q1, .int 0, .int 0, .int 0])), (q1, .inl (cA 0, 24, .inl (fun _ => 0)))] t.heap ∧ va_D A [(h0, .inr (1, [.ref q1, .int 0, .int 0, .int 0])), (q1, .inl (cA 0, 24, .inl (fun _ => 0)))]) A [Value.ref h0].toArray s (.returned none) t := fun t ht hW => ⟨⟨(), rfl, trivial, q1, by rw [ht]; exact hP, hD⟩, hS.F ht⟩
  exact W.vret hx hb hr hq hS.2.2 dc_2_12
set_option maxHeartbeats 4000000 in
set_option maxRecDepth 100000 in
theorem k_2_9 (l : Launch) (D : va_G) (cA : Nat → ClassId) (h0 : Nat) (sz : Nat) : Met l ⟨RX2, "<init>", "()V"⟩ (Cond.code ⟨RX2, "<init>", "()V"⟩ prog_4_method_1_code 1 none :: q_TW) ({ frames := 1, cells := 1, slots := 24, locals := 12 }) (va_Pc [.ref h0] (cn_Pre D cA [(h0, .inr (9, [.null, .int 0, .int 0, .int 0]))] sz)) (va_Qv (fun _ : Unit => True) (fun _ t => ∃ q1 : Nat, va_P D q_cn [(h0, .inr (9, [.ref q1, .int 0, .int 0, .int 0])), (q1, .inl (cA 0, 24, .inl (fun _ => 0)))] t.heap ∧ va_D (va_A [(h0, .inr (9, [.null, .int 0, .int 0, .int 0]))] sz) [(h0, .inr (9, [.ref q1, .int 0, .int 0, .int 0])), (q1, .inl (cA 0, 24, .inl (fun _ => 0)))]) (va_A [(h0, .inr (9, [.null, .int 0, .int 0, .int 0]))] sz)) 1 24 (va_A [(h0, .inr (9, [.null, .int 0, .int 0, .int 0]))] sz) := by
  refine q_ofW (cc := prog_4_method_1_code) (maxL := 1) (ret := none) (plainFor_of_name (by decide +kernel)) rfl ?_
  intro p e s m args below meth c s₁ B hml hv
  obtain ⟨rfl, hsz, hP, hK, hD0, hE⟩ := hv
  have hx := B.exec
  have hb := B.bytes
  have hr := B.returns
  have hts0 := atoms_spec (ws := Cond.code ⟨RX2, "<init>", "()V"⟩ prog_4_method_1_code 1 none :: q_TW) B.pre
  have hts : ∀ w ∈ q_TW, w.before _ s = true := fun w hw => hts0 w (List.mem_cons_of_mem _ hw)
  have hown : s.vm.findClass RX2 = some m.cls := findClass_of_methodNamed B.named
  have hlocks := B.notSynchronized
  have hin : meth.name = "<init>" := (name_of_methodNamed B.named B.method).1
  subst hsz
  have hD := hD0.self (sz := s.heap.size)
  generalize hAe : va_A [(h0, .inr (9, [.null, .int 0, .int 0, .int 0]))] s.heap.size = A at hD ⊢
  have hA : ∀ q : Nat, s.heap.size ≤ q → A q := fun q h => by rw [← hAe]; exact Or.inr h
  have hS : va_S A s.heap s.heap [] := va_S.rf
  have hl := lv_entry ([.ref h0]) (n := 1) (Nat.le_of_ble_eq_true rfl)
  rw [lg_entry_eq]
  generalize (lg_sl ([.ref h0]) ++ List.replicate (1 - (lg_sl ([.ref h0])).length) Slot.unset).toArray = ls at hl ⊢
  have hl : lv_has ls 1 [(0, .ref h0)] := hl
  refine lv_aload_n hx hb dc_2_0 rfl (lv_at hl 0 rfl) ?_
  refine W.objInit hx hb hown (hts _ wc_0) (hts _ wc_oi) (hts _ wc_oc) rfl (by rw [hml]; exact hl.1) rfl dc_2_1 (Nat.le_of_ble_eq_true rfl) (Nat.le_of_ble_eq_true rfl) ?_
  refine W.eq (g2 := F0 m 4 ls []) rfl ?_
  refine lv_aload_n hx hb dc_2_4 rfl (lv_at hl 0 rfl) ?_
  refine lv_bipush (v := 24) hx hb dc_2_5 (by decide) ?_
  refine q_newI (N := 24) hx hb hts hK hP hD hS hA (by decide) (by decide) (by decide) (Nat.le_of_ble_eq_true rfl) (Nat.le_of_ble_eq_true rfl) dc_2_7 (fun q1 H hP hD hS => ?_)
  have hP : va_P D q_cn [(h0, .inr (9, [.null, .int 0, .int 0, .int 0])), (q1, .inl (cA 0, 24, .inl (fun _ => 0)))] H := hP
  have hD : va_D A [(h0, .inr (9, [.null, .int 0, .int 0, .int 0])), (q1, .inl (cA 0, 24, .inl (fun _ => 0)))] := hD
  refine va_putF (D := D) (ci := 9) (v := .ref q1) (ty := (.array .int)) (C := RX9) (T := TX9) (N := 4) hx hb hts inX9 tyX9 tyX9_ok nmX9 hown hK hP hD hS 0 rfl rfl 0 (by decide) (hts _ wc_1) (fun _ h9 => h9) rfl hin rfl (by decide +kernel) rfl rfl (Nat.le_of_ble_eq_true rfl) dc_2_9 (fun H locs hP hD hS => ?_)
  have hP : va_P D q_cn [(h0, .inr (9, [.ref q1, .int 0, .int 0, .int 0])), (q1, .inl (cA 0, 24, .inl (fun _ => 0)))] H := hP
  have hD : va_D A [(h0, .inr (9, [.ref q1, .int 0, .int 0, .int 0])), (q1, .inl (cA 0, 24, .inl (fun _ => 0)))] := hD
  refine W.widen (k := 1) (n := 24) (by decide) (by decide) ?_
  have hq : ∀ t : State, t.heap = H → s.WarmedH t.vm → va_Qv (fun _ : Unit => True) (fun _ t => ∃ q1 : Nat, va_P D q_cn [(h0, .inr (9, [.ref q1, .int 0, .int 0, .int 0])), (q1, .inl (cA 0, 24, .inl (fun _ => 0)))] t.heap ∧ va_D A [(h0, .inr (9, [.ref q1, .int 0, .int 0, .int 0])), (q1, .inl (cA 0, 24, .inl (fun _ => 0)))]) A [Value.ref h0].toArray s (.returned none) t := fun t ht hW => ⟨⟨(), rfl, trivial, q1, by rw [ht]; exact hP, hD⟩, hS.F ht⟩
  exact W.vret hx hb hr hq hS.2.2 dc_2_12
set_option maxHeartbeats 4000000 in
set_option maxRecDepth 100000 in
theorem k_7_7 (l : Launch) (D : va_G) (cA : Nat → ClassId) (h0 : Nat) (sz : Nat) : Met l ⟨RX7, "<init>", "()V"⟩ (Cond.code ⟨RX7, "<init>", "()V"⟩ prog_9_method_1_code 1 none :: q_TW) ({ frames := 2, cells := 1, slots := 24, locals := 32 }) (va_Pc [.ref h0] (cn_Pre D cA [(h0, .inr (7, [.null, .int 0, .int 0, .int 0]))] sz)) (va_Qv (fun _ : Unit => True) (fun _ t => ∃ q1 : Nat, va_P D q_cn [(h0, .inr (7, [.ref q1, .int 0, .int 0, .int 0])), (q1, .inl (cA 0, 24, .inl (fun _ => 0)))] t.heap ∧ va_D (va_A [(h0, .inr (7, [.null, .int 0, .int 0, .int 0]))] sz) [(h0, .inr (7, [.ref q1, .int 0, .int 0, .int 0])), (q1, .inl (cA 0, 24, .inl (fun _ => 0)))]) (va_A [(h0, .inr (7, [.null, .int 0, .int 0, .int 0]))] sz)) 1 24 (va_A [(h0, .inr (7, [.null, .int 0, .int 0, .int 0]))] sz) := by
  refine q_ofW (cc := prog_9_method_1_code) (maxL := 1) (ret := none) (plainFor_of_name (by decide +kernel)) rfl ?_
  intro p e s m args below meth c s₁ B hml hv
  obtain ⟨rfl, hsz, hP, hK, hD0, hE⟩ := hv
  have hx := B.exec
  have hb := B.bytes
  have hr := B.returns
  have hts0 := atoms_spec (ws := Cond.code ⟨RX7, "<init>", "()V"⟩ prog_9_method_1_code 1 none :: q_TW) B.pre
  have hts : ∀ w ∈ q_TW, w.before _ s = true := fun w hw => hts0 w (List.mem_cons_of_mem _ hw)
  have hown : s.vm.findClass RX7 = some m.cls := findClass_of_methodNamed B.named
  have hlocks := B.notSynchronized
  have hin : meth.name = "<init>" := (name_of_methodNamed B.named B.method).1
  subst hsz
  have hD := hD0.self (sz := s.heap.size)
  generalize hAe : va_A [(h0, .inr (7, [.null, .int 0, .int 0, .int 0]))] s.heap.size = A at hD ⊢
  have hA : ∀ q : Nat, s.heap.size ≤ q → A q := fun q h => by rw [← hAe]; exact Or.inr h
  have hS : va_S A s.heap s.heap [] := va_S.rf
  have hl := lv_entry ([.ref h0]) (n := 1) (Nat.le_of_ble_eq_true rfl)
  rw [lg_entry_eq]
  generalize (lg_sl ([.ref h0]) ++ List.replicate (1 - (lg_sl ([.ref h0])).length) Slot.unset).toArray = ls at hl ⊢
  have hl : lv_has ls 1 [(0, .ref h0)] := hl
  refine lv_aload_n hx hb dc_7_0 rfl (lv_at hl 0 rfl) ?_
  have hPc := hP.sub (ws' := [(h0, .inr (7, [.null, .int 0, .int 0, .int 0]))]) [0] rfl
  have hDc := hD.sub (ws' := [(h0, .inr (7, [.null, .int 0, .int 0, .int 0]))]) [0] (by decide) rfl
  have hFc := va_free (wc := [(h0, .inr (7, [.null, .int 0, .int 0, .int 0]))]) hD hS hA [0] rfl
  refine va_callv (va_runIN (As := []) (rest := []) (host := "WhirlShafts") ⟨hx, hb, hml, hown, hts⟩ (k_2_7 l D cA h0 s.heap.size) ⟨va_cnB 0 hts (cn_good wc_3) rfl rfl rfl (hE.1 ("WhirlShafts$Rim", 1, ⟨"WhirlShafts$Disc", "<init>", "()V"⟩, "WhirlShafts") (by decide +kernel)) (hts _ rCI_2) (by decide +kernel) ⟨(Nat.le_of_ble_eq_true rfl), (Nat.le_of_ble_eq_true rfl)⟩, rfl, hts _ wc_2⟩ ⟨cn_blind, fun U hU hW => cn_pre hPc hK hDc hE hU hW⟩ rfl rfl hl.1 rfl (lv_room (Nat.le_of_ble_eq_true rfl)) dc_7_1 ⟨(Nat.le_of_ble_eq_true rfl), (Nat.le_of_ble_eq_true rfl)⟩) hS (fun q _ h => hFc q h) hFc (fun u t H1 locs ht hvm hw hB hz1 hk1 hS => ?_)
  obtain ⟨q1, hP1, hD1⟩ := hB
  rw [ht] at hP1
  obtain ⟨hP, hD⟩ := va_join (wr := []) (w1 := [(h0, .inr (7, [.ref q1, .int 0, .int 0, .int 0])), (q1, .inl (cA 0, 24, .inl (fun _ => 0)))]) hP hD [0] [] rfl rfl (by decide +kernel) (by decide +kernel) hk1 hFc hP1 hD1
  generalize H1 = H at hP hS ⊢
  have hP : va_P D q_cn [(h0, .inr (7, [.ref q1, .int 0, .int 0, .int 0])), (q1, .inl (cA 0, 24, .inl (fun _ => 0)))] H := hP
  have hD : va_D A [(h0, .inr (7, [.ref q1, .int 0, .int 0, .int 0])), (q1, .inl (cA 0, 24, .inl (fun _ => 0)))] := hD
  refine W.widen (k := 1) (n := 24) (by decide) (by decide) ?_
  have hq : ∀ t : State, t.heap = H → s.WarmedH t.vm → va_Qv (fun _ : Unit => True) (fun _ t => ∃ q1 : Nat, va_P D q_cn [(h0, .inr (7, [.ref q1, .int 0, .int 0, .int 0])), (q1, .inl (cA 0, 24, .inl (fun _ => 0)))] t.heap ∧ va_D A [(h0, .inr (7, [.ref q1, .int 0, .int 0, .int 0])), (q1, .inl (cA 0, 24, .inl (fun _ => 0)))]) A [Value.ref h0].toArray s (.returned none) t := fun t ht hW => ⟨⟨(), rfl, trivial, q1, by rw [ht]; exact hP, hD⟩, hS.F ht⟩
  exact W.vret hx hb hr hq hS.2.2 dc_7_4
set_option maxHeartbeats 4000000 in
set_option maxRecDepth 100000 in
theorem k_7_1 (l : Launch) (D : va_G) (cA : Nat → ClassId) (h0 : Nat) (sz : Nat) : Met l ⟨RX7, "<init>", "()V"⟩ (Cond.code ⟨RX7, "<init>", "()V"⟩ prog_9_method_1_code 1 none :: q_TW) ({ frames := 2, cells := 1, slots := 24, locals := 32 }) (va_Pc [.ref h0] (cn_Pre D cA [(h0, .inr (1, [.null, .int 0, .int 0, .int 0]))] sz)) (va_Qv (fun _ : Unit => True) (fun _ t => ∃ q1 : Nat, va_P D q_cn [(h0, .inr (1, [.ref q1, .int 0, .int 0, .int 0])), (q1, .inl (cA 0, 24, .inl (fun _ => 0)))] t.heap ∧ va_D (va_A [(h0, .inr (1, [.null, .int 0, .int 0, .int 0]))] sz) [(h0, .inr (1, [.ref q1, .int 0, .int 0, .int 0])), (q1, .inl (cA 0, 24, .inl (fun _ => 0)))]) (va_A [(h0, .inr (1, [.null, .int 0, .int 0, .int 0]))] sz)) 1 24 (va_A [(h0, .inr (1, [.null, .int 0, .int 0, .int 0]))] sz) := by
  refine q_ofW (cc := prog_9_method_1_code) (maxL := 1) (ret := none) (plainFor_of_name (by decide +kernel)) rfl ?_
  intro p e s m args below meth c s₁ B hml hv
  obtain ⟨rfl, hsz, hP, hK, hD0, hE⟩ := hv
  have hx := B.exec
  have hb := B.bytes
  have hr := B.returns
  have hts0 := atoms_spec (ws := Cond.code ⟨RX7, "<init>", "()V"⟩ prog_9_method_1_code 1 none :: q_TW) B.pre
  have hts : ∀ w ∈ q_TW, w.before _ s = true := fun w hw => hts0 w (List.mem_cons_of_mem _ hw)
  have hown : s.vm.findClass RX7 = some m.cls := findClass_of_methodNamed B.named
  have hlocks := B.notSynchronized
  have hin : meth.name = "<init>" := (name_of_methodNamed B.named B.method).1
  subst hsz
  have hD := hD0.self (sz := s.heap.size)
  generalize hAe : va_A [(h0, .inr (1, [.null, .int 0, .int 0, .int 0]))] s.heap.size = A at hD ⊢
  have hA : ∀ q : Nat, s.heap.size ≤ q → A q := fun q h => by rw [← hAe]; exact Or.inr h
  have hS : va_S A s.heap s.heap [] := va_S.rf
  have hl := lv_entry ([.ref h0]) (n := 1) (Nat.le_of_ble_eq_true rfl)
  rw [lg_entry_eq]
  generalize (lg_sl ([.ref h0]) ++ List.replicate (1 - (lg_sl ([.ref h0])).length) Slot.unset).toArray = ls at hl ⊢
  have hl : lv_has ls 1 [(0, .ref h0)] := hl
  refine lv_aload_n hx hb dc_7_0 rfl (lv_at hl 0 rfl) ?_
  have hPc := hP.sub (ws' := [(h0, .inr (1, [.null, .int 0, .int 0, .int 0]))]) [0] rfl
  have hDc := hD.sub (ws' := [(h0, .inr (1, [.null, .int 0, .int 0, .int 0]))]) [0] (by decide) rfl
  have hFc := va_free (wc := [(h0, .inr (1, [.null, .int 0, .int 0, .int 0]))]) hD hS hA [0] rfl
  refine va_callv (va_runIN (As := []) (rest := []) (host := "WhirlShafts") ⟨hx, hb, hml, hown, hts⟩ (k_2_1 l D cA h0 s.heap.size) ⟨va_cnB 0 hts (cn_good wc_3) rfl rfl rfl (hE.1 ("WhirlShafts$Rim", 1, ⟨"WhirlShafts$Disc", "<init>", "()V"⟩, "WhirlShafts") (by decide +kernel)) (hts _ rCI_2) (by decide +kernel) ⟨(Nat.le_of_ble_eq_true rfl), (Nat.le_of_ble_eq_true rfl)⟩, rfl, hts _ wc_2⟩ ⟨cn_blind, fun U hU hW => cn_pre hPc hK hDc hE hU hW⟩ rfl rfl hl.1 rfl (lv_room (Nat.le_of_ble_eq_true rfl)) dc_7_1 ⟨(Nat.le_of_ble_eq_true rfl), (Nat.le_of_ble_eq_true rfl)⟩) hS (fun q _ h => hFc q h) hFc (fun u t H1 locs ht hvm hw hB hz1 hk1 hS => ?_)
  obtain ⟨q1, hP1, hD1⟩ := hB
  rw [ht] at hP1
  obtain ⟨hP, hD⟩ := va_join (wr := []) (w1 := [(h0, .inr (1, [.ref q1, .int 0, .int 0, .int 0])), (q1, .inl (cA 0, 24, .inl (fun _ => 0)))]) hP hD [0] [] rfl rfl (by decide +kernel) (by decide +kernel) hk1 hFc hP1 hD1
  generalize H1 = H at hP hS ⊢
  have hP : va_P D q_cn [(h0, .inr (1, [.ref q1, .int 0, .int 0, .int 0])), (q1, .inl (cA 0, 24, .inl (fun _ => 0)))] H := hP
  have hD : va_D A [(h0, .inr (1, [.ref q1, .int 0, .int 0, .int 0])), (q1, .inl (cA 0, 24, .inl (fun _ => 0)))] := hD
  refine W.widen (k := 1) (n := 24) (by decide) (by decide) ?_
  have hq : ∀ t : State, t.heap = H → s.WarmedH t.vm → va_Qv (fun _ : Unit => True) (fun _ t => ∃ q1 : Nat, va_P D q_cn [(h0, .inr (1, [.ref q1, .int 0, .int 0, .int 0])), (q1, .inl (cA 0, 24, .inl (fun _ => 0)))] t.heap ∧ va_D A [(h0, .inr (1, [.ref q1, .int 0, .int 0, .int 0])), (q1, .inl (cA 0, 24, .inl (fun _ => 0)))]) A [Value.ref h0].toArray s (.returned none) t := fun t ht hW => ⟨⟨(), rfl, trivial, q1, by rw [ht]; exact hP, hD⟩, hS.F ht⟩
  exact W.vret hx hb hr hq hS.2.2 dc_7_4
set_option maxHeartbeats 4000000 in
set_option maxRecDepth 100000 in
theorem k_3_3 (l : Launch) (D : va_G) (cA : Nat → ClassId) (h0 : Nat) (sz : Nat) : Met l ⟨RX3, "<init>", "()V"⟩ (Cond.code ⟨RX3, "<init>", "()V"⟩ prog_5_method_1_code 1 none :: q_TW) ({ frames := 2, cells := 1, slots := 24, locals := 32 }) (va_Pc [.ref h0] (cn_Pre D cA [(h0, .inr (3, [.null, .int 0, .int 0, .int 0]))] sz)) (va_Qv (fun _ : Unit => True) (fun _ t => ∃ q1 : Nat, va_P D q_cn [(h0, .inr (3, [.ref q1, .int 0, .int 0, .int 0])), (q1, .inl (cA 0, 24, .inl (fun _ => 0)))] t.heap ∧ va_D (va_A [(h0, .inr (3, [.null, .int 0, .int 0, .int 0]))] sz) [(h0, .inr (3, [.ref q1, .int 0, .int 0, .int 0])), (q1, .inl (cA 0, 24, .inl (fun _ => 0)))]) (va_A [(h0, .inr (3, [.null, .int 0, .int 0, .int 0]))] sz)) 1 24 (va_A [(h0, .inr (3, [.null, .int 0, .int 0, .int 0]))] sz) := by
  refine q_ofW (cc := prog_5_method_1_code) (maxL := 1) (ret := none) (plainFor_of_name (by decide +kernel)) rfl ?_
  intro p e s m args below meth c s₁ B hml hv
  obtain ⟨rfl, hsz, hP, hK, hD0, hE⟩ := hv
  have hx := B.exec
  have hb := B.bytes
  have hr := B.returns
  have hts0 := atoms_spec (ws := Cond.code ⟨RX3, "<init>", "()V"⟩ prog_5_method_1_code 1 none :: q_TW) B.pre
  have hts : ∀ w ∈ q_TW, w.before _ s = true := fun w hw => hts0 w (List.mem_cons_of_mem _ hw)
  have hown : s.vm.findClass RX3 = some m.cls := findClass_of_methodNamed B.named
  have hlocks := B.notSynchronized
  have hin : meth.name = "<init>" := (name_of_methodNamed B.named B.method).1
  subst hsz
  have hD := hD0.self (sz := s.heap.size)
  generalize hAe : va_A [(h0, .inr (3, [.null, .int 0, .int 0, .int 0]))] s.heap.size = A at hD ⊢
  have hA : ∀ q : Nat, s.heap.size ≤ q → A q := fun q h => by rw [← hAe]; exact Or.inr h
  have hS : va_S A s.heap s.heap [] := va_S.rf
  have hl := lv_entry ([.ref h0]) (n := 1) (Nat.le_of_ble_eq_true rfl)
  rw [lg_entry_eq]
  generalize (lg_sl ([.ref h0]) ++ List.replicate (1 - (lg_sl ([.ref h0])).length) Slot.unset).toArray = ls at hl ⊢
  have hl : lv_has ls 1 [(0, .ref h0)] := hl
  refine lv_aload_n hx hb dc_3_0 rfl (lv_at hl 0 rfl) ?_
  have hPc := hP.sub (ws' := [(h0, .inr (3, [.null, .int 0, .int 0, .int 0]))]) [0] rfl
  have hDc := hD.sub (ws' := [(h0, .inr (3, [.null, .int 0, .int 0, .int 0]))]) [0] (by decide) rfl
  have hFc := va_free (wc := [(h0, .inr (3, [.null, .int 0, .int 0, .int 0]))]) hD hS hA [0] rfl
  refine va_callv (va_runIN (As := []) (rest := []) (host := "WhirlShafts") ⟨hx, hb, hml, hown, hts⟩ (k_2_3 l D cA h0 s.heap.size) ⟨va_cnB 0 hts (cn_good wc_3) rfl rfl rfl (hE.1 ("WhirlShafts$Hub", 1, ⟨"WhirlShafts$Disc", "<init>", "()V"⟩, "WhirlShafts") (by decide +kernel)) (hts _ rCI_2) (by decide +kernel) ⟨(Nat.le_of_ble_eq_true rfl), (Nat.le_of_ble_eq_true rfl)⟩, rfl, hts _ wc_2⟩ ⟨cn_blind, fun U hU hW => cn_pre hPc hK hDc hE hU hW⟩ rfl rfl hl.1 rfl (lv_room (Nat.le_of_ble_eq_true rfl)) dc_3_1 ⟨(Nat.le_of_ble_eq_true rfl), (Nat.le_of_ble_eq_true rfl)⟩) hS (fun q _ h => hFc q h) hFc (fun u t H1 locs ht hvm hw hB hz1 hk1 hS => ?_)
  obtain ⟨q1, hP1, hD1⟩ := hB
  rw [ht] at hP1
  obtain ⟨hP, hD⟩ := va_join (wr := []) (w1 := [(h0, .inr (3, [.ref q1, .int 0, .int 0, .int 0])), (q1, .inl (cA 0, 24, .inl (fun _ => 0)))]) hP hD [0] [] rfl rfl (by decide +kernel) (by decide +kernel) hk1 hFc hP1 hD1
  generalize H1 = H at hP hS ⊢
  have hP : va_P D q_cn [(h0, .inr (3, [.ref q1, .int 0, .int 0, .int 0])), (q1, .inl (cA 0, 24, .inl (fun _ => 0)))] H := hP
  have hD : va_D A [(h0, .inr (3, [.ref q1, .int 0, .int 0, .int 0])), (q1, .inl (cA 0, 24, .inl (fun _ => 0)))] := hD
  refine W.widen (k := 1) (n := 24) (by decide) (by decide) ?_
  have hq : ∀ t : State, t.heap = H → s.WarmedH t.vm → va_Qv (fun _ : Unit => True) (fun _ t => ∃ q1 : Nat, va_P D q_cn [(h0, .inr (3, [.ref q1, .int 0, .int 0, .int 0])), (q1, .inl (cA 0, 24, .inl (fun _ => 0)))] t.heap ∧ va_D A [(h0, .inr (3, [.ref q1, .int 0, .int 0, .int 0])), (q1, .inl (cA 0, 24, .inl (fun _ => 0)))]) A [Value.ref h0].toArray s (.returned none) t := fun t ht hW => ⟨⟨(), rfl, trivial, q1, by rw [ht]; exact hP, hD⟩, hS.F ht⟩
  exact W.vret hx hb hr hq hS.2.2 dc_3_4
set_option maxHeartbeats 4000000 in
set_option maxRecDepth 100000 in
theorem k_3_9 (l : Launch) (D : va_G) (cA : Nat → ClassId) (h0 : Nat) (sz : Nat) : Met l ⟨RX3, "<init>", "()V"⟩ (Cond.code ⟨RX3, "<init>", "()V"⟩ prog_5_method_1_code 1 none :: q_TW) ({ frames := 2, cells := 1, slots := 24, locals := 32 }) (va_Pc [.ref h0] (cn_Pre D cA [(h0, .inr (9, [.null, .int 0, .int 0, .int 0]))] sz)) (va_Qv (fun _ : Unit => True) (fun _ t => ∃ q1 : Nat, va_P D q_cn [(h0, .inr (9, [.ref q1, .int 0, .int 0, .int 0])), (q1, .inl (cA 0, 24, .inl (fun _ => 0)))] t.heap ∧ va_D (va_A [(h0, .inr (9, [.null, .int 0, .int 0, .int 0]))] sz) [(h0, .inr (9, [.ref q1, .int 0, .int 0, .int 0])), (q1, .inl (cA 0, 24, .inl (fun _ => 0)))]) (va_A [(h0, .inr (9, [.null, .int 0, .int 0, .int 0]))] sz)) 1 24 (va_A [(h0, .inr (9, [.null, .int 0, .int 0, .int 0]))] sz) := by
  refine q_ofW (cc := prog_5_method_1_code) (maxL := 1) (ret := none) (plainFor_of_name (by decide +kernel)) rfl ?_
  intro p e s m args below meth c s₁ B hml hv
  obtain ⟨rfl, hsz, hP, hK, hD0, hE⟩ := hv
  have hx := B.exec
  have hb := B.bytes
  have hr := B.returns
  have hts0 := atoms_spec (ws := Cond.code ⟨RX3, "<init>", "()V"⟩ prog_5_method_1_code 1 none :: q_TW) B.pre
  have hts : ∀ w ∈ q_TW, w.before _ s = true := fun w hw => hts0 w (List.mem_cons_of_mem _ hw)
  have hown : s.vm.findClass RX3 = some m.cls := findClass_of_methodNamed B.named
  have hlocks := B.notSynchronized
  have hin : meth.name = "<init>" := (name_of_methodNamed B.named B.method).1
  subst hsz
  have hD := hD0.self (sz := s.heap.size)
  generalize hAe : va_A [(h0, .inr (9, [.null, .int 0, .int 0, .int 0]))] s.heap.size = A at hD ⊢
  have hA : ∀ q : Nat, s.heap.size ≤ q → A q := fun q h => by rw [← hAe]; exact Or.inr h
  have hS : va_S A s.heap s.heap [] := va_S.rf
  have hl := lv_entry ([.ref h0]) (n := 1) (Nat.le_of_ble_eq_true rfl)
  rw [lg_entry_eq]
  generalize (lg_sl ([.ref h0]) ++ List.replicate (1 - (lg_sl ([.ref h0])).length) Slot.unset).toArray = ls at hl ⊢
  have hl : lv_has ls 1 [(0, .ref h0)] := hl
  refine lv_aload_n hx hb dc_3_0 rfl (lv_at hl 0 rfl) ?_
  have hPc := hP.sub (ws' := [(h0, .inr (9, [.null, .int 0, .int 0, .int 0]))]) [0] rfl
  have hDc := hD.sub (ws' := [(h0, .inr (9, [.null, .int 0, .int 0, .int 0]))]) [0] (by decide) rfl
  have hFc := va_free (wc := [(h0, .inr (9, [.null, .int 0, .int 0, .int 0]))]) hD hS hA [0] rfl
  refine va_callv (va_runIN (As := []) (rest := []) (host := "WhirlShafts") ⟨hx, hb, hml, hown, hts⟩ (k_2_9 l D cA h0 s.heap.size) ⟨va_cnB 0 hts (cn_good wc_3) rfl rfl rfl (hE.1 ("WhirlShafts$Hub", 1, ⟨"WhirlShafts$Disc", "<init>", "()V"⟩, "WhirlShafts") (by decide +kernel)) (hts _ rCI_2) (by decide +kernel) ⟨(Nat.le_of_ble_eq_true rfl), (Nat.le_of_ble_eq_true rfl)⟩, rfl, hts _ wc_2⟩ ⟨cn_blind, fun U hU hW => cn_pre hPc hK hDc hE hU hW⟩ rfl rfl hl.1 rfl (lv_room (Nat.le_of_ble_eq_true rfl)) dc_3_1 ⟨(Nat.le_of_ble_eq_true rfl), (Nat.le_of_ble_eq_true rfl)⟩) hS (fun q _ h => hFc q h) hFc (fun u t H1 locs ht hvm hw hB hz1 hk1 hS => ?_)
  obtain ⟨q1, hP1, hD1⟩ := hB
  rw [ht] at hP1
  obtain ⟨hP, hD⟩ := va_join (wr := []) (w1 := [(h0, .inr (9, [.ref q1, .int 0, .int 0, .int 0])), (q1, .inl (cA 0, 24, .inl (fun _ => 0)))]) hP hD [0] [] rfl rfl (by decide +kernel) (by decide +kernel) hk1 hFc hP1 hD1
  generalize H1 = H at hP hS ⊢
  have hP : va_P D q_cn [(h0, .inr (9, [.ref q1, .int 0, .int 0, .int 0])), (q1, .inl (cA 0, 24, .inl (fun _ => 0)))] H := hP
  have hD : va_D A [(h0, .inr (9, [.ref q1, .int 0, .int 0, .int 0])), (q1, .inl (cA 0, 24, .inl (fun _ => 0)))] := hD
  refine W.widen (k := 1) (n := 24) (by decide) (by decide) ?_
  have hq : ∀ t : State, t.heap = H → s.WarmedH t.vm → va_Qv (fun _ : Unit => True) (fun _ t => ∃ q1 : Nat, va_P D q_cn [(h0, .inr (9, [.ref q1, .int 0, .int 0, .int 0])), (q1, .inl (cA 0, 24, .inl (fun _ => 0)))] t.heap ∧ va_D A [(h0, .inr (9, [.ref q1, .int 0, .int 0, .int 0])), (q1, .inl (cA 0, 24, .inl (fun _ => 0)))]) A [Value.ref h0].toArray s (.returned none) t := fun t ht hW => ⟨⟨(), rfl, trivial, q1, by rw [ht]; exact hP, hD⟩, hS.F ht⟩
  exact W.vret hx hb hr hq hS.2.2 dc_3_4
set_option maxHeartbeats 4000000 in
set_option maxRecDepth 100000 in
theorem k_1_1 (l : Launch) (D : va_G) (cA : Nat → ClassId) (h0 : Nat) (sz : Nat) : Met l ⟨RX1, "<init>", "()V"⟩ (Cond.code ⟨RX1, "<init>", "()V"⟩ prog_3_method_1_code 1 none :: q_TW) ({ frames := 3, cells := 1, slots := 24, locals := 52 }) (va_Pc [.ref h0] (cn_Pre D cA [(h0, .inr (1, [.null, .int 0, .int 0, .int 0]))] sz)) (va_Qv (fun _ : Unit => True) (fun _ t => ∃ q1 : Nat, va_P D q_cn [(h0, .inr (1, [.ref q1, .int 0, .int 0, .int 0])), (q1, .inl (cA 0, 24, .inl (fun _ => 0)))] t.heap ∧ va_D (va_A [(h0, .inr (1, [.null, .int 0, .int 0, .int 0]))] sz) [(h0, .inr (1, [.ref q1, .int 0, .int 0, .int 0])), (q1, .inl (cA 0, 24, .inl (fun _ => 0)))]) (va_A [(h0, .inr (1, [.null, .int 0, .int 0, .int 0]))] sz)) 1 24 (va_A [(h0, .inr (1, [.null, .int 0, .int 0, .int 0]))] sz) := by
  refine q_ofW (cc := prog_3_method_1_code) (maxL := 1) (ret := none) (plainFor_of_name (by decide +kernel)) rfl ?_
  intro p e s m args below meth c s₁ B hml hv
  obtain ⟨rfl, hsz, hP, hK, hD0, hE⟩ := hv
  have hx := B.exec
  have hb := B.bytes
  have hr := B.returns
  have hts0 := atoms_spec (ws := Cond.code ⟨RX1, "<init>", "()V"⟩ prog_3_method_1_code 1 none :: q_TW) B.pre
  have hts : ∀ w ∈ q_TW, w.before _ s = true := fun w hw => hts0 w (List.mem_cons_of_mem _ hw)
  have hown : s.vm.findClass RX1 = some m.cls := findClass_of_methodNamed B.named
  have hlocks := B.notSynchronized
  have hin : meth.name = "<init>" := (name_of_methodNamed B.named B.method).1
  subst hsz
  have hD := hD0.self (sz := s.heap.size)
  generalize hAe : va_A [(h0, .inr (1, [.null, .int 0, .int 0, .int 0]))] s.heap.size = A at hD ⊢
  have hA : ∀ q : Nat, s.heap.size ≤ q → A q := fun q h => by rw [← hAe]; exact Or.inr h
  have hS : va_S A s.heap s.heap [] := va_S.rf
  have hl := lv_entry ([.ref h0]) (n := 1) (Nat.le_of_ble_eq_true rfl)
  rw [lg_entry_eq]
  generalize (lg_sl ([.ref h0]) ++ List.replicate (1 - (lg_sl ([.ref h0])).length) Slot.unset).toArray = ls at hl ⊢
  have hl : lv_has ls 1 [(0, .ref h0)] := hl
  refine lv_aload_n hx hb dc_1_0 rfl (lv_at hl 0 rfl) ?_
  have hPc := hP.sub (ws' := [(h0, .inr (1, [.null, .int 0, .int 0, .int 0]))]) [0] rfl
  have hDc := hD.sub (ws' := [(h0, .inr (1, [.null, .int 0, .int 0, .int 0]))]) [0] (by decide) rfl
  have hFc := va_free (wc := [(h0, .inr (1, [.null, .int 0, .int 0, .int 0]))]) hD hS hA [0] rfl
  refine va_callv (va_runIN (As := []) (rest := []) (host := "WhirlShafts") ⟨hx, hb, hml, hown, hts⟩ (k_7_1 l D cA h0 s.heap.size) ⟨va_cnB 0 hts (cn_good wc_5) rfl rfl rfl (hE.1 ("WhirlShafts$Crown", 1, ⟨"WhirlShafts$Rim", "<init>", "()V"⟩, "WhirlShafts") (by decide +kernel)) (hts _ rCI_7) (by decide +kernel) ⟨(Nat.le_of_ble_eq_true rfl), (Nat.le_of_ble_eq_true rfl)⟩, rfl, hts _ wc_4⟩ ⟨cn_blind, fun U hU hW => cn_pre hPc hK hDc hE hU hW⟩ rfl rfl hl.1 rfl (lv_room (Nat.le_of_ble_eq_true rfl)) dc_1_1 ⟨(Nat.le_of_ble_eq_true rfl), (Nat.le_of_ble_eq_true rfl)⟩) hS (fun q _ h => hFc q h) hFc (fun u t H1 locs ht hvm hw hB hz1 hk1 hS => ?_)
  obtain ⟨q1, hP1, hD1⟩ := hB
  rw [ht] at hP1
  obtain ⟨hP, hD⟩ := va_join (wr := []) (w1 := [(h0, .inr (1, [.ref q1, .int 0, .int 0, .int 0])), (q1, .inl (cA 0, 24, .inl (fun _ => 0)))]) hP hD [0] [] rfl rfl (by decide +kernel) (by decide +kernel) hk1 hFc hP1 hD1
  generalize H1 = H at hP hS ⊢
  have hP : va_P D q_cn [(h0, .inr (1, [.ref q1, .int 0, .int 0, .int 0])), (q1, .inl (cA 0, 24, .inl (fun _ => 0)))] H := hP
  have hD : va_D A [(h0, .inr (1, [.ref q1, .int 0, .int 0, .int 0])), (q1, .inl (cA 0, 24, .inl (fun _ => 0)))] := hD
  refine W.widen (k := 1) (n := 24) (by decide) (by decide) ?_
  have hq : ∀ t : State, t.heap = H → s.WarmedH t.vm → va_Qv (fun _ : Unit => True) (fun _ t => ∃ q1 : Nat, va_P D q_cn [(h0, .inr (1, [.ref q1, .int 0, .int 0, .int 0])), (q1, .inl (cA 0, 24, .inl (fun _ => 0)))] t.heap ∧ va_D A [(h0, .inr (1, [.ref q1, .int 0, .int 0, .int 0])), (q1, .inl (cA 0, 24, .inl (fun _ => 0)))]) A [Value.ref h0].toArray s (.returned none) t := fun t ht hW => ⟨⟨(), rfl, trivial, q1, by rw [ht]; exact hP, hD⟩, hS.F ht⟩
  exact W.vret hx hb hr hq hS.2.2 dc_1_4
set_option maxHeartbeats 4000000 in
set_option maxRecDepth 100000 in
theorem k_9_9 (l : Launch) (D : va_G) (cA : Nat → ClassId) (h0 : Nat) (sz : Nat) : Met l ⟨RX9, "<init>", "()V"⟩ (Cond.code ⟨RX9, "<init>", "()V"⟩ prog_11_method_1_code 1 none :: q_TW) ({ frames := 3, cells := 1, slots := 24, locals := 52 }) (va_Pc [.ref h0] (cn_Pre D cA [(h0, .inr (9, [.null, .int 0, .int 0, .int 0]))] sz)) (va_Qv (fun _ : Unit => True) (fun _ t => ∃ q1 : Nat, va_P D q_cn [(h0, .inr (9, [.ref q1, .int 0, .int 0, .int 0])), (q1, .inl (cA 0, 24, .inl (fun _ => 0)))] t.heap ∧ va_D (va_A [(h0, .inr (9, [.null, .int 0, .int 0, .int 0]))] sz) [(h0, .inr (9, [.ref q1, .int 0, .int 0, .int 0])), (q1, .inl (cA 0, 24, .inl (fun _ => 0)))]) (va_A [(h0, .inr (9, [.null, .int 0, .int 0, .int 0]))] sz)) 1 24 (va_A [(h0, .inr (9, [.null, .int 0, .int 0, .int 0]))] sz) := by
  refine q_ofW (cc := prog_11_method_1_code) (maxL := 1) (ret := none) (plainFor_of_name (by decide +kernel)) rfl ?_
  intro p e s m args below meth c s₁ B hml hv
  obtain ⟨rfl, hsz, hP, hK, hD0, hE⟩ := hv
  have hx := B.exec
  have hb := B.bytes
  have hr := B.returns
  have hts0 := atoms_spec (ws := Cond.code ⟨RX9, "<init>", "()V"⟩ prog_11_method_1_code 1 none :: q_TW) B.pre
  have hts : ∀ w ∈ q_TW, w.before _ s = true := fun w hw => hts0 w (List.mem_cons_of_mem _ hw)
  have hown : s.vm.findClass RX9 = some m.cls := findClass_of_methodNamed B.named
  have hlocks := B.notSynchronized
  have hin : meth.name = "<init>" := (name_of_methodNamed B.named B.method).1
  subst hsz
  have hD := hD0.self (sz := s.heap.size)
  generalize hAe : va_A [(h0, .inr (9, [.null, .int 0, .int 0, .int 0]))] s.heap.size = A at hD ⊢
  have hA : ∀ q : Nat, s.heap.size ≤ q → A q := fun q h => by rw [← hAe]; exact Or.inr h
  have hS : va_S A s.heap s.heap [] := va_S.rf
  have hl := lv_entry ([.ref h0]) (n := 1) (Nat.le_of_ble_eq_true rfl)
  rw [lg_entry_eq]
  generalize (lg_sl ([.ref h0]) ++ List.replicate (1 - (lg_sl ([.ref h0])).length) Slot.unset).toArray = ls at hl ⊢
  have hl : lv_has ls 1 [(0, .ref h0)] := hl
  refine lv_aload_n hx hb dc_9_0 rfl (lv_at hl 0 rfl) ?_
  have hPc := hP.sub (ws' := [(h0, .inr (9, [.null, .int 0, .int 0, .int 0]))]) [0] rfl
  have hDc := hD.sub (ws' := [(h0, .inr (9, [.null, .int 0, .int 0, .int 0]))]) [0] (by decide) rfl
  have hFc := va_free (wc := [(h0, .inr (9, [.null, .int 0, .int 0, .int 0]))]) hD hS hA [0] rfl
  refine va_callv (va_runIN (As := []) (rest := []) (host := "WhirlShafts") ⟨hx, hb, hml, hown, hts⟩ (k_3_9 l D cA h0 s.heap.size) ⟨va_cnB 0 hts (cn_good wc_7) rfl rfl rfl (hE.1 ("WhirlShafts$Shell", 1, ⟨"WhirlShafts$Hub", "<init>", "()V"⟩, "WhirlShafts") (by decide +kernel)) (hts _ rCI_3) (by decide +kernel) ⟨(Nat.le_of_ble_eq_true rfl), (Nat.le_of_ble_eq_true rfl)⟩, rfl, hts _ wc_6⟩ ⟨cn_blind, fun U hU hW => cn_pre hPc hK hDc hE hU hW⟩ rfl rfl hl.1 rfl (lv_room (Nat.le_of_ble_eq_true rfl)) dc_9_1 ⟨(Nat.le_of_ble_eq_true rfl), (Nat.le_of_ble_eq_true rfl)⟩) hS (fun q _ h => hFc q h) hFc (fun u t H1 locs ht hvm hw hB hz1 hk1 hS => ?_)
  obtain ⟨q1, hP1, hD1⟩ := hB
  rw [ht] at hP1
  obtain ⟨hP, hD⟩ := va_join (wr := []) (w1 := [(h0, .inr (9, [.ref q1, .int 0, .int 0, .int 0])), (q1, .inl (cA 0, 24, .inl (fun _ => 0)))]) hP hD [0] [] rfl rfl (by decide +kernel) (by decide +kernel) hk1 hFc hP1 hD1
  generalize H1 = H at hP hS ⊢
  have hP : va_P D q_cn [(h0, .inr (9, [.ref q1, .int 0, .int 0, .int 0])), (q1, .inl (cA 0, 24, .inl (fun _ => 0)))] H := hP
  have hD : va_D A [(h0, .inr (9, [.ref q1, .int 0, .int 0, .int 0])), (q1, .inl (cA 0, 24, .inl (fun _ => 0)))] := hD
  refine W.widen (k := 1) (n := 24) (by decide) (by decide) ?_
  have hq : ∀ t : State, t.heap = H → s.WarmedH t.vm → va_Qv (fun _ : Unit => True) (fun _ t => ∃ q1 : Nat, va_P D q_cn [(h0, .inr (9, [.ref q1, .int 0, .int 0, .int 0])), (q1, .inl (cA 0, 24, .inl (fun _ => 0)))] t.heap ∧ va_D A [(h0, .inr (9, [.ref q1, .int 0, .int 0, .int 0])), (q1, .inl (cA 0, 24, .inl (fun _ => 0)))]) A [Value.ref h0].toArray s (.returned none) t := fun t ht hW => ⟨⟨(), rfl, trivial, q1, by rw [ht]; exact hP, hD⟩, hS.F ht⟩
  exact W.vret hx hb hr hq hS.2.2 dc_9_4
set_option maxHeartbeats 4000000 in
set_option maxRecDepth 100000 in
theorem k_4_4 (l : Launch) (D : va_G) (cA : Nat → ClassId) (h0 : Nat) (k0 : Nat) (sz : Nat) : Met l ⟨RX4, "<init>", "([LWhirlShafts$Disc;)V"⟩ (Cond.code ⟨RX4, "<init>", "([LWhirlShafts$Disc;)V"⟩ prog_6_method_1_code 2 none :: q_TW) ({ frames := 1, cells := 5, slots := 40, locals := 12 }) (va_Pc [.ref h0, .ref k0] (cn_Pre D cA [(h0, .inr (4, [.null, .null, .null, .null, .null, .null, .int 0, .int 0, .int 0]))] sz)) (va_Qv (fun _ : Unit => True) (fun _ t => ∃ q1 q2 q3 q4 q5 : Nat, va_P D q_cn [(h0, .inr (4, [.ref k0, .ref q1, .ref q2, .ref q3, .ref q4, .ref q5, .int 0, .int 0, .int 0])), (q1, .inl (cA 0, 8, .inl (fun _ => 0))), (q2, .inl (cA 0, 8, .inl (fun _ => 0))), (q3, .inl (cA 0, 8, .inl (fun _ => 0))), (q4, .inl (cA 0, 8, .inl (fun _ => 0))), (q5, .inl (cA 0, 8, .inl (fun _ => 0)))] t.heap ∧ va_D (va_A [(h0, .inr (4, [.null, .null, .null, .null, .null, .null, .int 0, .int 0, .int 0]))] sz) [(h0, .inr (4, [.ref k0, .ref q1, .ref q2, .ref q3, .ref q4, .ref q5, .int 0, .int 0, .int 0])), (q1, .inl (cA 0, 8, .inl (fun _ => 0))), (q2, .inl (cA 0, 8, .inl (fun _ => 0))), (q3, .inl (cA 0, 8, .inl (fun _ => 0))), (q4, .inl (cA 0, 8, .inl (fun _ => 0))), (q5, .inl (cA 0, 8, .inl (fun _ => 0)))]) (va_A [(h0, .inr (4, [.null, .null, .null, .null, .null, .null, .int 0, .int 0, .int 0]))] sz)) 5 40 (va_A [(h0, .inr (4, [.null, .null, .null, .null, .null, .null, .int 0, .int 0, .int 0]))] sz) := by
  refine q_ofW (cc := prog_6_method_1_code) (maxL := 2) (ret := none) (plainFor_of_name (by decide +kernel)) rfl ?_
  intro p e s m args below meth c s₁ B hml hv
  obtain ⟨rfl, hsz, hP, hK, hD0, hE⟩ := hv
  have hx := B.exec
  have hb := B.bytes
  have hr := B.returns
  have hts0 := atoms_spec (ws := Cond.code ⟨RX4, "<init>", "([LWhirlShafts$Disc;)V"⟩ prog_6_method_1_code 2 none :: q_TW) B.pre
  have hts : ∀ w ∈ q_TW, w.before _ s = true := fun w hw => hts0 w (List.mem_cons_of_mem _ hw)
  have hown : s.vm.findClass RX4 = some m.cls := findClass_of_methodNamed B.named
  have hlocks := B.notSynchronized
  have hin : meth.name = "<init>" := (name_of_methodNamed B.named B.method).1
  subst hsz
  have hD := hD0.self (sz := s.heap.size)
  generalize hAe : va_A [(h0, .inr (4, [.null, .null, .null, .null, .null, .null, .int 0, .int 0, .int 0]))] s.heap.size = A at hD ⊢
  have hA : ∀ q : Nat, s.heap.size ≤ q → A q := fun q h => by rw [← hAe]; exact Or.inr h
  have hS : va_S A s.heap s.heap [] := va_S.rf
  have hl := lv_entry ([.ref h0, .ref k0]) (n := 2) (Nat.le_of_ble_eq_true rfl)
  rw [lg_entry_eq]
  generalize (lg_sl ([.ref h0, .ref k0]) ++ List.replicate (2 - (lg_sl ([.ref h0, .ref k0])).length) Slot.unset).toArray = ls at hl ⊢
  have hl : lv_has ls 2 [(0, .ref h0), (1, .ref k0)] := hl
  refine lv_aload_n hx hb dc_4_0 rfl (lv_at hl 0 rfl) ?_
  refine W.objInit hx hb hown (hts _ wc_8) (hts _ wc_oi) (hts _ wc_oc) rfl (by rw [hml]; exact hl.1) rfl dc_4_1 (Nat.le_of_ble_eq_true rfl) (Nat.le_of_ble_eq_true rfl) ?_
  refine W.eq (g2 := F0 m 4 ls []) rfl ?_
  refine lv_aload_n hx hb dc_4_4 rfl (lv_at hl 0 rfl) ?_
  refine lv_bipush (v := 8) hx hb dc_4_5 (by decide) ?_
  refine q_newI (N := 8) hx hb hts hK hP hD hS hA (by decide) (by decide) (by decide) (Nat.le_of_ble_eq_true rfl) (Nat.le_of_ble_eq_true rfl) dc_4_7 (fun q1 H hP hD hS => ?_)
  have hP : va_P D q_cn [(h0, .inr (4, [.null, .null, .null, .null, .null, .null, .int 0, .int 0, .int 0])), (q1, .inl (cA 0, 8, .inl (fun _ => 0)))] H := hP
  have hD : va_D A [(h0, .inr (4, [.null, .null, .null, .null, .null, .null, .int 0, .int 0, .int 0])), (q1, .inl (cA 0, 8, .inl (fun _ => 0)))] := hD
  refine va_putF (D := D) (ci := 4) (v := .ref q1) (ty := (.array .int)) (C := RX4) (T := TX4) (N := 9) hx hb hts inX4 tyX4 tyX4_ok nmX4 hown hK hP hD hS 0 rfl rfl 1 (by decide) (hts _ wc_9) (fun _ h9 => h9) rfl hin rfl (by decide +kernel) rfl rfl (Nat.le_of_ble_eq_true rfl) dc_4_9 (fun H locs hP hD hS => ?_)
  have hP : va_P D q_cn [(h0, .inr (4, [.null, .ref q1, .null, .null, .null, .null, .int 0, .int 0, .int 0])), (q1, .inl (cA 0, 8, .inl (fun _ => 0)))] H := hP
  have hD : va_D A [(h0, .inr (4, [.null, .ref q1, .null, .null, .null, .null, .int 0, .int 0, .int 0])), (q1, .inl (cA 0, 8, .inl (fun _ => 0)))] := hD
  refine lv_aload_n hx hb dc_4_12 rfl (lv_at hl 0 rfl) ?_
  refine lv_bipush (v := 8) hx hb dc_4_13 (by decide) ?_
  refine q_newI (N := 8) hx hb hts hK hP hD hS hA (by decide) (by decide) (by decide) (Nat.le_of_ble_eq_true rfl) (Nat.le_of_ble_eq_true rfl) dc_4_15 (fun q2 H hP hD hS => ?_)
  have hP : va_P D q_cn [(h0, .inr (4, [.null, .ref q1, .null, .null, .null, .null, .int 0, .int 0, .int 0])), (q1, .inl (cA 0, 8, .inl (fun _ => 0))), (q2, .inl (cA 0, 8, .inl (fun _ => 0)))] H := hP
  have hD : va_D A [(h0, .inr (4, [.null, .ref q1, .null, .null, .null, .null, .int 0, .int 0, .int 0])), (q1, .inl (cA 0, 8, .inl (fun _ => 0))), (q2, .inl (cA 0, 8, .inl (fun _ => 0)))] := hD
  refine va_putF (D := D) (ci := 4) (v := .ref q2) (ty := (.array .int)) (C := RX4) (T := TX4) (N := 9) hx hb hts inX4 tyX4 tyX4_ok nmX4 hown hK hP hD hS 0 rfl rfl 2 (by decide) (hts _ wc_10) (fun _ h9 => h9) rfl hin rfl (by decide +kernel) rfl rfl (Nat.le_of_ble_eq_true rfl) dc_4_17 (fun H locs hP hD hS => ?_)
  have hP : va_P D q_cn [(h0, .inr (4, [.null, .ref q1, .ref q2, .null, .null, .null, .int 0, .int 0, .int 0])), (q1, .inl (cA 0, 8, .inl (fun _ => 0))), (q2, .inl (cA 0, 8, .inl (fun _ => 0)))] H := hP
  have hD : va_D A [(h0, .inr (4, [.null, .ref q1, .ref q2, .null, .null, .null, .int 0, .int 0, .int 0])), (q1, .inl (cA 0, 8, .inl (fun _ => 0))), (q2, .inl (cA 0, 8, .inl (fun _ => 0)))] := hD
  refine lv_aload_n hx hb dc_4_20 rfl (lv_at hl 0 rfl) ?_
  refine lv_bipush (v := 8) hx hb dc_4_21 (by decide) ?_
  refine q_newI (N := 8) hx hb hts hK hP hD hS hA (by decide) (by decide) (by decide) (Nat.le_of_ble_eq_true rfl) (Nat.le_of_ble_eq_true rfl) dc_4_23 (fun q3 H hP hD hS => ?_)
  have hP : va_P D q_cn [(h0, .inr (4, [.null, .ref q1, .ref q2, .null, .null, .null, .int 0, .int 0, .int 0])), (q1, .inl (cA 0, 8, .inl (fun _ => 0))), (q2, .inl (cA 0, 8, .inl (fun _ => 0))), (q3, .inl (cA 0, 8, .inl (fun _ => 0)))] H := hP
  have hD : va_D A [(h0, .inr (4, [.null, .ref q1, .ref q2, .null, .null, .null, .int 0, .int 0, .int 0])), (q1, .inl (cA 0, 8, .inl (fun _ => 0))), (q2, .inl (cA 0, 8, .inl (fun _ => 0))), (q3, .inl (cA 0, 8, .inl (fun _ => 0)))] := hD
  refine va_putF (D := D) (ci := 4) (v := .ref q3) (ty := (.array .int)) (C := RX4) (T := TX4) (N := 9) hx hb hts inX4 tyX4 tyX4_ok nmX4 hown hK hP hD hS 0 rfl rfl 3 (by decide) (hts _ wc_11) (fun _ h9 => h9) rfl hin rfl (by decide +kernel) rfl rfl (Nat.le_of_ble_eq_true rfl) dc_4_25 (fun H locs hP hD hS => ?_)
  have hP : va_P D q_cn [(h0, .inr (4, [.null, .ref q1, .ref q2, .ref q3, .null, .null, .int 0, .int 0, .int 0])), (q1, .inl (cA 0, 8, .inl (fun _ => 0))), (q2, .inl (cA 0, 8, .inl (fun _ => 0))), (q3, .inl (cA 0, 8, .inl (fun _ => 0)))] H := hP
  have hD : va_D A [(h0, .inr (4, [.null, .ref q1, .ref q2, .ref q3, .null, .null, .int 0, .int 0, .int 0])), (q1, .inl (cA 0, 8, .inl (fun _ => 0))), (q2, .inl (cA 0, 8, .inl (fun _ => 0))), (q3, .inl (cA 0, 8, .inl (fun _ => 0)))] := hD
  refine lv_aload_n hx hb dc_4_28 rfl (lv_at hl 0 rfl) ?_
  refine lv_bipush (v := 8) hx hb dc_4_29 (by decide) ?_
  refine q_newI (N := 8) hx hb hts hK hP hD hS hA (by decide) (by decide) (by decide) (Nat.le_of_ble_eq_true rfl) (Nat.le_of_ble_eq_true rfl) dc_4_31 (fun q4 H hP hD hS => ?_)
  have hP : va_P D q_cn [(h0, .inr (4, [.null, .ref q1, .ref q2, .ref q3, .null, .null, .int 0, .int 0, .int 0])), (q1, .inl (cA 0, 8, .inl (fun _ => 0))), (q2, .inl (cA 0, 8, .inl (fun _ => 0))), (q3, .inl (cA 0, 8, .inl (fun _ => 0))), (q4, .inl (cA 0, 8, .inl (fun _ => 0)))] H := hP
  have hD : va_D A [(h0, .inr (4, [.null, .ref q1, .ref q2, .ref q3, .null, .null, .int 0, .int 0, .int 0])), (q1, .inl (cA 0, 8, .inl (fun _ => 0))), (q2, .inl (cA 0, 8, .inl (fun _ => 0))), (q3, .inl (cA 0, 8, .inl (fun _ => 0))), (q4, .inl (cA 0, 8, .inl (fun _ => 0)))] := hD
  refine va_putF (D := D) (ci := 4) (v := .ref q4) (ty := (.array .int)) (C := RX4) (T := TX4) (N := 9) hx hb hts inX4 tyX4 tyX4_ok nmX4 hown hK hP hD hS 0 rfl rfl 4 (by decide) (hts _ wc_12) (fun _ h9 => h9) rfl hin rfl (by decide +kernel) rfl rfl (Nat.le_of_ble_eq_true rfl) dc_4_33 (fun H locs hP hD hS => ?_)
  have hP : va_P D q_cn [(h0, .inr (4, [.null, .ref q1, .ref q2, .ref q3, .ref q4, .null, .int 0, .int 0, .int 0])), (q1, .inl (cA 0, 8, .inl (fun _ => 0))), (q2, .inl (cA 0, 8, .inl (fun _ => 0))), (q3, .inl (cA 0, 8, .inl (fun _ => 0))), (q4, .inl (cA 0, 8, .inl (fun _ => 0)))] H := hP
  have hD : va_D A [(h0, .inr (4, [.null, .ref q1, .ref q2, .ref q3, .ref q4, .null, .int 0, .int 0, .int 0])), (q1, .inl (cA 0, 8, .inl (fun _ => 0))), (q2, .inl (cA 0, 8, .inl (fun _ => 0))), (q3, .inl (cA 0, 8, .inl (fun _ => 0))), (q4, .inl (cA 0, 8, .inl (fun _ => 0)))] := hD
  refine lv_aload_n hx hb dc_4_36 rfl (lv_at hl 0 rfl) ?_
  refine lv_bipush (v := 8) hx hb dc_4_37 (by decide) ?_
  refine q_newI (N := 8) hx hb hts hK hP hD hS hA (by decide) (by decide) (by decide) (Nat.le_of_ble_eq_true rfl) (Nat.le_of_ble_eq_true rfl) dc_4_39 (fun q5 H hP hD hS => ?_)
  have hP : va_P D q_cn [(h0, .inr (4, [.null, .ref q1, .ref q2, .ref q3, .ref q4, .null, .int 0, .int 0, .int 0])), (q1, .inl (cA 0, 8, .inl (fun _ => 0))), (q2, .inl (cA 0, 8, .inl (fun _ => 0))), (q3, .inl (cA 0, 8, .inl (fun _ => 0))), (q4, .inl (cA 0, 8, .inl (fun _ => 0))), (q5, .inl (cA 0, 8, .inl (fun _ => 0)))] H := hP
  have hD : va_D A [(h0, .inr (4, [.null, .ref q1, .ref q2, .ref q3, .ref q4, .null, .int 0, .int 0, .int 0])), (q1, .inl (cA 0, 8, .inl (fun _ => 0))), (q2, .inl (cA 0, 8, .inl (fun _ => 0))), (q3, .inl (cA 0, 8, .inl (fun _ => 0))), (q4, .inl (cA 0, 8, .inl (fun _ => 0))), (q5, .inl (cA 0, 8, .inl (fun _ => 0)))] := hD
  refine va_putF (D := D) (ci := 4) (v := .ref q5) (ty := (.array .int)) (C := RX4) (T := TX4) (N := 9) hx hb hts inX4 tyX4 tyX4_ok nmX4 hown hK hP hD hS 0 rfl rfl 5 (by decide) (hts _ wc_13) (fun _ h9 => h9) rfl hin rfl (by decide +kernel) rfl rfl (Nat.le_of_ble_eq_true rfl) dc_4_41 (fun H locs hP hD hS => ?_)
  have hP : va_P D q_cn [(h0, .inr (4, [.null, .ref q1, .ref q2, .ref q3, .ref q4, .ref q5, .int 0, .int 0, .int 0])), (q1, .inl (cA 0, 8, .inl (fun _ => 0))), (q2, .inl (cA 0, 8, .inl (fun _ => 0))), (q3, .inl (cA 0, 8, .inl (fun _ => 0))), (q4, .inl (cA 0, 8, .inl (fun _ => 0))), (q5, .inl (cA 0, 8, .inl (fun _ => 0)))] H := hP
  have hD : va_D A [(h0, .inr (4, [.null, .ref q1, .ref q2, .ref q3, .ref q4, .ref q5, .int 0, .int 0, .int 0])), (q1, .inl (cA 0, 8, .inl (fun _ => 0))), (q2, .inl (cA 0, 8, .inl (fun _ => 0))), (q3, .inl (cA 0, 8, .inl (fun _ => 0))), (q4, .inl (cA 0, 8, .inl (fun _ => 0))), (q5, .inl (cA 0, 8, .inl (fun _ => 0)))] := hD
  refine lv_aload_n hx hb dc_4_44 rfl (lv_at hl 0 rfl) ?_
  refine lv_aload_n hx hb dc_4_45 rfl (lv_at hl 1 rfl) ?_
  refine va_putF (D := D) (ci := 4) (v := .ref k0) (ty := (.array (.object "WhirlShafts$Disc"))) (C := RX4) (T := TX4) (N := 9) hx hb hts inX4 tyX4 tyX4_ok nmX4 hown hK hP hD hS 0 rfl rfl 0 (by decide) (hts _ wc_14) (fun _ h9 => h9) rfl hin rfl (by decide +kernel) rfl rfl (Nat.le_of_ble_eq_true rfl) dc_4_46 (fun H locs hP hD hS => ?_)
  have hP : va_P D q_cn [(h0, .inr (4, [.ref k0, .ref q1, .ref q2, .ref q3, .ref q4, .ref q5, .int 0, .int 0, .int 0])), (q1, .inl (cA 0, 8, .inl (fun _ => 0))), (q2, .inl (cA 0, 8, .inl (fun _ => 0))), (q3, .inl (cA 0, 8, .inl (fun _ => 0))), (q4, .inl (cA 0, 8, .inl (fun _ => 0))), (q5, .inl (cA 0, 8, .inl (fun _ => 0)))] H := hP
  have hD : va_D A [(h0, .inr (4, [.ref k0, .ref q1, .ref q2, .ref q3, .ref q4, .ref q5, .int 0, .int 0, .int 0])), (q1, .inl (cA 0, 8, .inl (fun _ => 0))), (q2, .inl (cA 0, 8, .inl (fun _ => 0))), (q3, .inl (cA 0, 8, .inl (fun _ => 0))), (q4, .inl (cA 0, 8, .inl (fun _ => 0))), (q5, .inl (cA 0, 8, .inl (fun _ => 0)))] := hD
  refine W.widen (k := 5) (n := 40) (by decide) (by decide) ?_
  have hq : ∀ t : State, t.heap = H → s.WarmedH t.vm → va_Qv (fun _ : Unit => True) (fun _ t => ∃ q1 q2 q3 q4 q5 : Nat, va_P D q_cn [(h0, .inr (4, [.ref k0, .ref q1, .ref q2, .ref q3, .ref q4, .ref q5, .int 0, .int 0, .int 0])), (q1, .inl (cA 0, 8, .inl (fun _ => 0))), (q2, .inl (cA 0, 8, .inl (fun _ => 0))), (q3, .inl (cA 0, 8, .inl (fun _ => 0))), (q4, .inl (cA 0, 8, .inl (fun _ => 0))), (q5, .inl (cA 0, 8, .inl (fun _ => 0)))] t.heap ∧ va_D A [(h0, .inr (4, [.ref k0, .ref q1, .ref q2, .ref q3, .ref q4, .ref q5, .int 0, .int 0, .int 0])), (q1, .inl (cA 0, 8, .inl (fun _ => 0))), (q2, .inl (cA 0, 8, .inl (fun _ => 0))), (q3, .inl (cA 0, 8, .inl (fun _ => 0))), (q4, .inl (cA 0, 8, .inl (fun _ => 0))), (q5, .inl (cA 0, 8, .inl (fun _ => 0)))]) A [Value.ref h0, Value.ref k0].toArray s (.returned none) t := fun t ht hW => ⟨⟨(), rfl, trivial, q1, q2, q3, q4, q5, by rw [ht]; exact hP, hD⟩, hS.F ht⟩
  exact W.vret hx hb hr hq hS.2.2 dc_4_49
set_option maxHeartbeats 4000000 in
set_option maxRecDepth 100000 in
theorem k_5_5 (l : Launch) (D : va_G) (cA : Nat → ClassId) (h0 : Nat) (sz : Nat) : Met l ⟨RX5, "<init>", "()V"⟩ (Cond.code ⟨RX5, "<init>", "()V"⟩ prog_7_method_1_code 1 none :: q_TW) ({ frames := 1, cells := 3, slots := 24, locals := 12 }) (va_Pc [.ref h0] (cn_Pre D cA [(h0, .inr (5, [.null, .null, .null, .int 0]))] sz)) (va_Qv (fun _ : Unit => True) (fun _ t => ∃ q1 q2 q3 : Nat, va_P D q_cn [(h0, .inr (5, [.ref q1, .ref q2, .ref q3, .int 0])), (q1, .inl (cA 0, 8, .inl (fun _ => 0))), (q2, .inl (cA 0, 8, .inl (fun _ => 0))), (q3, .inl (cA 0, 8, .inl (fun _ => 0)))] t.heap ∧ va_D (va_A [(h0, .inr (5, [.null, .null, .null, .int 0]))] sz) [(h0, .inr (5, [.ref q1, .ref q2, .ref q3, .int 0])), (q1, .inl (cA 0, 8, .inl (fun _ => 0))), (q2, .inl (cA 0, 8, .inl (fun _ => 0))), (q3, .inl (cA 0, 8, .inl (fun _ => 0)))]) (va_A [(h0, .inr (5, [.null, .null, .null, .int 0]))] sz)) 3 24 (va_A [(h0, .inr (5, [.null, .null, .null, .int 0]))] sz) := by
  refine q_ofW (cc := prog_7_method_1_code) (maxL := 1) (ret := none) (plainFor_of_name (by decide +kernel)) rfl ?_
  intro p e s m args below meth c s₁ B hml hv
  obtain ⟨rfl, hsz, hP, hK, hD0, hE⟩ := hv
  have hx := B.exec
  have hb := B.bytes
  have hr := B.returns
  have hts0 := atoms_spec (ws := Cond.code ⟨RX5, "<init>", "()V"⟩ prog_7_method_1_code 1 none :: q_TW) B.pre
  have hts : ∀ w ∈ q_TW, w.before _ s = true := fun w hw => hts0 w (List.mem_cons_of_mem _ hw)
  have hown : s.vm.findClass RX5 = some m.cls := findClass_of_methodNamed B.named
  have hlocks := B.notSynchronized
  have hin : meth.name = "<init>" := (name_of_methodNamed B.named B.method).1
  subst hsz
  have hD := hD0.self (sz := s.heap.size)
  generalize hAe : va_A [(h0, .inr (5, [.null, .null, .null, .int 0]))] s.heap.size = A at hD ⊢
  have hA : ∀ q : Nat, s.heap.size ≤ q → A q := fun q h => by rw [← hAe]; exact Or.inr h
  have hS : va_S A s.heap s.heap [] := va_S.rf
  have hl := lv_entry ([.ref h0]) (n := 1) (Nat.le_of_ble_eq_true rfl)
  rw [lg_entry_eq]
  generalize (lg_sl ([.ref h0]) ++ List.replicate (1 - (lg_sl ([.ref h0])).length) Slot.unset).toArray = ls at hl ⊢
  have hl : lv_has ls 1 [(0, .ref h0)] := hl
  refine lv_aload_n hx hb dc_5_0 rfl (lv_at hl 0 rfl) ?_
  refine W.objInit hx hb hown (hts _ wc_15) (hts _ wc_oi) (hts _ wc_oc) rfl (by rw [hml]; exact hl.1) rfl dc_5_1 (Nat.le_of_ble_eq_true rfl) (Nat.le_of_ble_eq_true rfl) ?_
  refine W.eq (g2 := F0 m 4 ls []) rfl ?_
  refine lv_aload_n hx hb dc_5_4 rfl (lv_at hl 0 rfl) ?_
  refine lv_bipush (v := 8) hx hb dc_5_5 (by decide) ?_
  refine q_newI (N := 8) hx hb hts hK hP hD hS hA (by decide) (by decide) (by decide) (Nat.le_of_ble_eq_true rfl) (Nat.le_of_ble_eq_true rfl) dc_5_7 (fun q1 H hP hD hS => ?_)
  have hP : va_P D q_cn [(h0, .inr (5, [.null, .null, .null, .int 0])), (q1, .inl (cA 0, 8, .inl (fun _ => 0)))] H := hP
  have hD : va_D A [(h0, .inr (5, [.null, .null, .null, .int 0])), (q1, .inl (cA 0, 8, .inl (fun _ => 0)))] := hD
  refine va_putF (D := D) (ci := 5) (v := .ref q1) (ty := (.array .int)) (C := RX5) (T := TX5) (N := 4) hx hb hts inX5 tyX5 tyX5_ok nmX5 hown hK hP hD hS 0 rfl rfl 0 (by decide) (hts _ wc_16) (fun _ h9 => h9) rfl hin rfl (by decide +kernel) rfl rfl (Nat.le_of_ble_eq_true rfl) dc_5_9 (fun H locs hP hD hS => ?_)
  have hP : va_P D q_cn [(h0, .inr (5, [.ref q1, .null, .null, .int 0])), (q1, .inl (cA 0, 8, .inl (fun _ => 0)))] H := hP
  have hD : va_D A [(h0, .inr (5, [.ref q1, .null, .null, .int 0])), (q1, .inl (cA 0, 8, .inl (fun _ => 0)))] := hD
  refine lv_aload_n hx hb dc_5_12 rfl (lv_at hl 0 rfl) ?_
  refine lv_bipush (v := 8) hx hb dc_5_13 (by decide) ?_
  refine q_newI (N := 8) hx hb hts hK hP hD hS hA (by decide) (by decide) (by decide) (Nat.le_of_ble_eq_true rfl) (Nat.le_of_ble_eq_true rfl) dc_5_15 (fun q2 H hP hD hS => ?_)
  have hP : va_P D q_cn [(h0, .inr (5, [.ref q1, .null, .null, .int 0])), (q1, .inl (cA 0, 8, .inl (fun _ => 0))), (q2, .inl (cA 0, 8, .inl (fun _ => 0)))] H := hP
  have hD : va_D A [(h0, .inr (5, [.ref q1, .null, .null, .int 0])), (q1, .inl (cA 0, 8, .inl (fun _ => 0))), (q2, .inl (cA 0, 8, .inl (fun _ => 0)))] := hD
  refine va_putF (D := D) (ci := 5) (v := .ref q2) (ty := (.array .int)) (C := RX5) (T := TX5) (N := 4) hx hb hts inX5 tyX5 tyX5_ok nmX5 hown hK hP hD hS 0 rfl rfl 1 (by decide) (hts _ wc_17) (fun _ h9 => h9) rfl hin rfl (by decide +kernel) rfl rfl (Nat.le_of_ble_eq_true rfl) dc_5_17 (fun H locs hP hD hS => ?_)
  have hP : va_P D q_cn [(h0, .inr (5, [.ref q1, .ref q2, .null, .int 0])), (q1, .inl (cA 0, 8, .inl (fun _ => 0))), (q2, .inl (cA 0, 8, .inl (fun _ => 0)))] H := hP
  have hD : va_D A [(h0, .inr (5, [.ref q1, .ref q2, .null, .int 0])), (q1, .inl (cA 0, 8, .inl (fun _ => 0))), (q2, .inl (cA 0, 8, .inl (fun _ => 0)))] := hD
  refine lv_aload_n hx hb dc_5_20 rfl (lv_at hl 0 rfl) ?_
  refine lv_bipush (v := 8) hx hb dc_5_21 (by decide) ?_
  refine q_newI (N := 8) hx hb hts hK hP hD hS hA (by decide) (by decide) (by decide) (Nat.le_of_ble_eq_true rfl) (Nat.le_of_ble_eq_true rfl) dc_5_23 (fun q3 H hP hD hS => ?_)
  have hP : va_P D q_cn [(h0, .inr (5, [.ref q1, .ref q2, .null, .int 0])), (q1, .inl (cA 0, 8, .inl (fun _ => 0))), (q2, .inl (cA 0, 8, .inl (fun _ => 0))), (q3, .inl (cA 0, 8, .inl (fun _ => 0)))] H := hP
  have hD : va_D A [(h0, .inr (5, [.ref q1, .ref q2, .null, .int 0])), (q1, .inl (cA 0, 8, .inl (fun _ => 0))), (q2, .inl (cA 0, 8, .inl (fun _ => 0))), (q3, .inl (cA 0, 8, .inl (fun _ => 0)))] := hD
  refine va_putF (D := D) (ci := 5) (v := .ref q3) (ty := (.array .int)) (C := RX5) (T := TX5) (N := 4) hx hb hts inX5 tyX5 tyX5_ok nmX5 hown hK hP hD hS 0 rfl rfl 2 (by decide) (hts _ wc_18) (fun _ h9 => h9) rfl hin rfl (by decide +kernel) rfl rfl (Nat.le_of_ble_eq_true rfl) dc_5_25 (fun H locs hP hD hS => ?_)
  have hP : va_P D q_cn [(h0, .inr (5, [.ref q1, .ref q2, .ref q3, .int 0])), (q1, .inl (cA 0, 8, .inl (fun _ => 0))), (q2, .inl (cA 0, 8, .inl (fun _ => 0))), (q3, .inl (cA 0, 8, .inl (fun _ => 0)))] H := hP
  have hD : va_D A [(h0, .inr (5, [.ref q1, .ref q2, .ref q3, .int 0])), (q1, .inl (cA 0, 8, .inl (fun _ => 0))), (q2, .inl (cA 0, 8, .inl (fun _ => 0))), (q3, .inl (cA 0, 8, .inl (fun _ => 0)))] := hD
  refine W.widen (k := 3) (n := 24) (by decide) (by decide) ?_
  have hq : ∀ t : State, t.heap = H → s.WarmedH t.vm → va_Qv (fun _ : Unit => True) (fun _ t => ∃ q1 q2 q3 : Nat, va_P D q_cn [(h0, .inr (5, [.ref q1, .ref q2, .ref q3, .int 0])), (q1, .inl (cA 0, 8, .inl (fun _ => 0))), (q2, .inl (cA 0, 8, .inl (fun _ => 0))), (q3, .inl (cA 0, 8, .inl (fun _ => 0)))] t.heap ∧ va_D A [(h0, .inr (5, [.ref q1, .ref q2, .ref q3, .int 0])), (q1, .inl (cA 0, 8, .inl (fun _ => 0))), (q2, .inl (cA 0, 8, .inl (fun _ => 0))), (q3, .inl (cA 0, 8, .inl (fun _ => 0)))]) A [Value.ref h0].toArray s (.returned none) t := fun t ht hW => ⟨⟨(), rfl, trivial, q1, q2, q3, by rw [ht]; exact hP, hD⟩, hS.F ht⟩
  exact W.vret hx hb hr hq hS.2.2 dc_5_28
set_option maxHeartbeats 4000000 in
set_option maxRecDepth 100000 in
theorem k_0_0 (l : Launch) (D : va_G) (cA : Nat → ClassId) (h0 : Nat) (sz : Nat) : Met l ⟨RX0, "<init>", "()V"⟩ (Cond.code ⟨RX0, "<init>", "()V"⟩ prog_2_method_1_code 1 none :: q_TW) ({ frames := 1, cells := 4, slots := 48, locals := 12 }) (va_Pc [.ref h0] (cn_Pre D cA [(h0, .inr (0, [.null, .null, .null, .null, .int 0, .int 0]))] sz)) (va_Qv (fun _ : Unit => True) (fun _ t => ∃ q1 q2 q3 q4 : Nat, va_P D q_cn [(h0, .inr (0, [.ref q1, .ref q2, .ref q3, .ref q4, .int 0, .int 0])), (q1, .inl (cA 0, 12, .inl (fun _ => 0))), (q2, .inl (cA 0, 12, .inl (fun _ => 0))), (q3, .inl (cA 0, 12, .inl (fun _ => 0))), (q4, .inl (cA 0, 12, .inl (fun _ => 0)))] t.heap ∧ va_D (va_A [(h0, .inr (0, [.null, .null, .null, .null, .int 0, .int 0]))] sz) [(h0, .inr (0, [.ref q1, .ref q2, .ref q3, .ref q4, .int 0, .int 0])), (q1, .inl (cA 0, 12, .inl (fun _ => 0))), (q2, .inl (cA 0, 12, .inl (fun _ => 0))), (q3, .inl (cA 0, 12, .inl (fun _ => 0))), (q4, .inl (cA 0, 12, .inl (fun _ => 0)))]) (va_A [(h0, .inr (0, [.null, .null, .null, .null, .int 0, .int 0]))] sz)) 4 48 (va_A [(h0, .inr (0, [.null, .null, .null, .null, .int 0, .int 0]))] sz) := by
  refine q_ofW (cc := prog_2_method_1_code) (maxL := 1) (ret := none) (plainFor_of_name (by decide +kernel)) rfl ?_
  intro p e s m args below meth c s₁ B hml hv
  obtain ⟨rfl, hsz, hP, hK, hD0, hE⟩ := hv
  have hx := B.exec
  have hb := B.bytes
  have hr := B.returns
  have hts0 := atoms_spec (ws := Cond.code ⟨RX0, "<init>", "()V"⟩ prog_2_method_1_code 1 none :: q_TW) B.pre
  have hts : ∀ w ∈ q_TW, w.before _ s = true := fun w hw => hts0 w (List.mem_cons_of_mem _ hw)
  have hown : s.vm.findClass RX0 = some m.cls := findClass_of_methodNamed B.named
  have hlocks := B.notSynchronized
  have hin : meth.name = "<init>" := (name_of_methodNamed B.named B.method).1
  subst hsz
  have hD := hD0.self (sz := s.heap.size)
  generalize hAe : va_A [(h0, .inr (0, [.null, .null, .null, .null, .int 0, .int 0]))] s.heap.size = A at hD ⊢
  have hA : ∀ q : Nat, s.heap.size ≤ q → A q := fun q h => by rw [← hAe]; exact Or.inr h
  have hS : va_S A s.heap s.heap [] := va_S.rf
  have hl := lv_entry ([.ref h0]) (n := 1) (Nat.le_of_ble_eq_true rfl)
  rw [lg_entry_eq]
  generalize (lg_sl ([.ref h0]) ++ List.replicate (1 - (lg_sl ([.ref h0])).length) Slot.unset).toArray = ls at hl ⊢
  have hl : lv_has ls 1 [(0, .ref h0)] := hl
  refine lv_aload_n hx hb dc_0_0 rfl (lv_at hl 0 rfl) ?_
  refine W.objInit hx hb hown (hts _ wc_19) (hts _ wc_oi) (hts _ wc_oc) rfl (by rw [hml]; exact hl.1) rfl dc_0_1 (Nat.le_of_ble_eq_true rfl) (Nat.le_of_ble_eq_true rfl) ?_
  refine W.eq (g2 := F0 m 4 ls []) rfl ?_
  refine lv_aload_n hx hb dc_0_4 rfl (lv_at hl 0 rfl) ?_
  refine lv_bipush (v := 12) hx hb dc_0_5 (by decide) ?_
  refine q_newI (N := 12) hx hb hts hK hP hD hS hA (by decide) (by decide) (by decide) (Nat.le_of_ble_eq_true rfl) (Nat.le_of_ble_eq_true rfl) dc_0_7 (fun q1 H hP hD hS => ?_)
  have hP : va_P D q_cn [(h0, .inr (0, [.null, .null, .null, .null, .int 0, .int 0])), (q1, .inl (cA 0, 12, .inl (fun _ => 0)))] H := hP
  have hD : va_D A [(h0, .inr (0, [.null, .null, .null, .null, .int 0, .int 0])), (q1, .inl (cA 0, 12, .inl (fun _ => 0)))] := hD
  refine va_putF (D := D) (ci := 0) (v := .ref q1) (ty := (.array .int)) (C := RX0) (T := TX0) (N := 6) hx hb hts inX0 tyX0 tyX0_ok nmX0 hown hK hP hD hS 0 rfl rfl 0 (by decide) (hts _ wc_20) (fun _ h9 => h9) rfl hin rfl (by decide +kernel) rfl rfl (Nat.le_of_ble_eq_true rfl) dc_0_9 (fun H locs hP hD hS => ?_)
  have hP : va_P D q_cn [(h0, .inr (0, [.ref q1, .null, .null, .null, .int 0, .int 0])), (q1, .inl (cA 0, 12, .inl (fun _ => 0)))] H := hP
  have hD : va_D A [(h0, .inr (0, [.ref q1, .null, .null, .null, .int 0, .int 0])), (q1, .inl (cA 0, 12, .inl (fun _ => 0)))] := hD
  refine lv_aload_n hx hb dc_0_12 rfl (lv_at hl 0 rfl) ?_
  refine lv_bipush (v := 12) hx hb dc_0_13 (by decide) ?_
  refine q_newI (N := 12) hx hb hts hK hP hD hS hA (by decide) (by decide) (by decide) (Nat.le_of_ble_eq_true rfl) (Nat.le_of_ble_eq_true rfl) dc_0_15 (fun q2 H hP hD hS => ?_)
  have hP : va_P D q_cn [(h0, .inr (0, [.ref q1, .null, .null, .null, .int 0, .int 0])), (q1, .inl (cA 0, 12, .inl (fun _ => 0))), (q2, .inl (cA 0, 12, .inl (fun _ => 0)))] H := hP
  have hD : va_D A [(h0, .inr (0, [.ref q1, .null, .null, .null, .int 0, .int 0])), (q1, .inl (cA 0, 12, .inl (fun _ => 0))), (q2, .inl (cA 0, 12, .inl (fun _ => 0)))] := hD
  refine va_putF (D := D) (ci := 0) (v := .ref q2) (ty := (.array .int)) (C := RX0) (T := TX0) (N := 6) hx hb hts inX0 tyX0 tyX0_ok nmX0 hown hK hP hD hS 0 rfl rfl 1 (by decide) (hts _ wc_21) (fun _ h9 => h9) rfl hin rfl (by decide +kernel) rfl rfl (Nat.le_of_ble_eq_true rfl) dc_0_17 (fun H locs hP hD hS => ?_)
  have hP : va_P D q_cn [(h0, .inr (0, [.ref q1, .ref q2, .null, .null, .int 0, .int 0])), (q1, .inl (cA 0, 12, .inl (fun _ => 0))), (q2, .inl (cA 0, 12, .inl (fun _ => 0)))] H := hP
  have hD : va_D A [(h0, .inr (0, [.ref q1, .ref q2, .null, .null, .int 0, .int 0])), (q1, .inl (cA 0, 12, .inl (fun _ => 0))), (q2, .inl (cA 0, 12, .inl (fun _ => 0)))] := hD
  refine lv_aload_n hx hb dc_0_20 rfl (lv_at hl 0 rfl) ?_
  refine lv_bipush (v := 12) hx hb dc_0_21 (by decide) ?_
  refine q_newI (N := 12) hx hb hts hK hP hD hS hA (by decide) (by decide) (by decide) (Nat.le_of_ble_eq_true rfl) (Nat.le_of_ble_eq_true rfl) dc_0_23 (fun q3 H hP hD hS => ?_)
  have hP : va_P D q_cn [(h0, .inr (0, [.ref q1, .ref q2, .null, .null, .int 0, .int 0])), (q1, .inl (cA 0, 12, .inl (fun _ => 0))), (q2, .inl (cA 0, 12, .inl (fun _ => 0))), (q3, .inl (cA 0, 12, .inl (fun _ => 0)))] H := hP
  have hD : va_D A [(h0, .inr (0, [.ref q1, .ref q2, .null, .null, .int 0, .int 0])), (q1, .inl (cA 0, 12, .inl (fun _ => 0))), (q2, .inl (cA 0, 12, .inl (fun _ => 0))), (q3, .inl (cA 0, 12, .inl (fun _ => 0)))] := hD
  refine va_putF (D := D) (ci := 0) (v := .ref q3) (ty := (.array .int)) (C := RX0) (T := TX0) (N := 6) hx hb hts inX0 tyX0 tyX0_ok nmX0 hown hK hP hD hS 0 rfl rfl 2 (by decide) (hts _ wc_22) (fun _ h9 => h9) rfl hin rfl (by decide +kernel) rfl rfl (Nat.le_of_ble_eq_true rfl) dc_0_25 (fun H locs hP hD hS => ?_)
  have hP : va_P D q_cn [(h0, .inr (0, [.ref q1, .ref q2, .ref q3, .null, .int 0, .int 0])), (q1, .inl (cA 0, 12, .inl (fun _ => 0))), (q2, .inl (cA 0, 12, .inl (fun _ => 0))), (q3, .inl (cA 0, 12, .inl (fun _ => 0)))] H := hP
  have hD : va_D A [(h0, .inr (0, [.ref q1, .ref q2, .ref q3, .null, .int 0, .int 0])), (q1, .inl (cA 0, 12, .inl (fun _ => 0))), (q2, .inl (cA 0, 12, .inl (fun _ => 0))), (q3, .inl (cA 0, 12, .inl (fun _ => 0)))] := hD
  refine lv_aload_n hx hb dc_0_28 rfl (lv_at hl 0 rfl) ?_
  refine lv_bipush (v := 12) hx hb dc_0_29 (by decide) ?_
  refine q_newI (N := 12) hx hb hts hK hP hD hS hA (by decide) (by decide) (by decide) (Nat.le_of_ble_eq_true rfl) (Nat.le_of_ble_eq_true rfl) dc_0_31 (fun q4 H hP hD hS => ?_)
  have hP : va_P D q_cn [(h0, .inr (0, [.ref q1, .ref q2, .ref q3, .null, .int 0, .int 0])), (q1, .inl (cA 0, 12, .inl (fun _ => 0))), (q2, .inl (cA 0, 12, .inl (fun _ => 0))), (q3, .inl (cA 0, 12, .inl (fun _ => 0))), (q4, .inl (cA 0, 12, .inl (fun _ => 0)))] H := hP
  have hD : va_D A [(h0, .inr (0, [.ref q1, .ref q2, .ref q3, .null, .int 0, .int 0])), (q1, .inl (cA 0, 12, .inl (fun _ => 0))), (q2, .inl (cA 0, 12, .inl (fun _ => 0))), (q3, .inl (cA 0, 12, .inl (fun _ => 0))), (q4, .inl (cA 0, 12, .inl (fun _ => 0)))] := hD
  refine va_putF (D := D) (ci := 0) (v := .ref q4) (ty := (.array .int)) (C := RX0) (T := TX0) (N := 6) hx hb hts inX0 tyX0 tyX0_ok nmX0 hown hK hP hD hS 0 rfl rfl 3 (by decide) (hts _ wc_23) (fun _ h9 => h9) rfl hin rfl (by decide +kernel) rfl rfl (Nat.le_of_ble_eq_true rfl) dc_0_33 (fun H locs hP hD hS => ?_)
  have hP : va_P D q_cn [(h0, .inr (0, [.ref q1, .ref q2, .ref q3, .ref q4, .int 0, .int 0])), (q1, .inl (cA 0, 12, .inl (fun _ => 0))), (q2, .inl (cA 0, 12, .inl (fun _ => 0))), (q3, .inl (cA 0, 12, .inl (fun _ => 0))), (q4, .inl (cA 0, 12, .inl (fun _ => 0)))] H := hP
  have hD : va_D A [(h0, .inr (0, [.ref q1, .ref q2, .ref q3, .ref q4, .int 0, .int 0])), (q1, .inl (cA 0, 12, .inl (fun _ => 0))), (q2, .inl (cA 0, 12, .inl (fun _ => 0))), (q3, .inl (cA 0, 12, .inl (fun _ => 0))), (q4, .inl (cA 0, 12, .inl (fun _ => 0)))] := hD
  refine W.widen (k := 4) (n := 48) (by decide) (by decide) ?_
  have hq : ∀ t : State, t.heap = H → s.WarmedH t.vm → va_Qv (fun _ : Unit => True) (fun _ t => ∃ q1 q2 q3 q4 : Nat, va_P D q_cn [(h0, .inr (0, [.ref q1, .ref q2, .ref q3, .ref q4, .int 0, .int 0])), (q1, .inl (cA 0, 12, .inl (fun _ => 0))), (q2, .inl (cA 0, 12, .inl (fun _ => 0))), (q3, .inl (cA 0, 12, .inl (fun _ => 0))), (q4, .inl (cA 0, 12, .inl (fun _ => 0)))] t.heap ∧ va_D A [(h0, .inr (0, [.ref q1, .ref q2, .ref q3, .ref q4, .int 0, .int 0])), (q1, .inl (cA 0, 12, .inl (fun _ => 0))), (q2, .inl (cA 0, 12, .inl (fun _ => 0))), (q3, .inl (cA 0, 12, .inl (fun _ => 0))), (q4, .inl (cA 0, 12, .inl (fun _ => 0)))]) A [Value.ref h0].toArray s (.returned none) t := fun t ht hW => ⟨⟨(), rfl, trivial, q1, q2, q3, q4, by rw [ht]; exact hP, hD⟩, hS.F ht⟩
  exact W.vret hx hb hr hq hS.2.2 dc_0_36
set_option maxHeartbeats 4000000 in
set_option maxRecDepth 100000 in
theorem k_8_8 (l : Launch) (D : va_G) (cA : Nat → ClassId) (h0 : Nat) (sz : Nat) : Met l ⟨RX8, "<init>", "()V"⟩ (Cond.code ⟨RX8, "<init>", "()V"⟩ prog_10_method_1_code 1 none :: q_TW) ({ frames := 1, cells := 1, slots := 40, locals := 12 }) (va_Pc [.ref h0] (cn_Pre D cA [(h0, .inr (8, [.null, .int 0, .int 0]))] sz)) (va_Qv (fun _ : Unit => True) (fun _ t => ∃ q1 : Nat, va_P D q_cn [(h0, .inr (8, [.ref q1, .int (-1), .int 0])), (q1, .inl (cA 1, 40, .inr (.inl (fun _ => 0))))] t.heap ∧ va_D (va_A [(h0, .inr (8, [.null, .int 0, .int 0]))] sz) [(h0, .inr (8, [.ref q1, .int (-1), .int 0])), (q1, .inl (cA 1, 40, .inr (.inl (fun _ => 0))))]) (va_A [(h0, .inr (8, [.null, .int 0, .int 0]))] sz)) 1 40 (va_A [(h0, .inr (8, [.null, .int 0, .int 0]))] sz) := by
  refine q_ofW (cc := prog_10_method_1_code) (maxL := 1) (ret := none) (plainFor_of_name (by decide +kernel)) rfl ?_
  intro p e s m args below meth c s₁ B hml hv
  obtain ⟨rfl, hsz, hP, hK, hD0, hE⟩ := hv
  have hx := B.exec
  have hb := B.bytes
  have hr := B.returns
  have hts0 := atoms_spec (ws := Cond.code ⟨RX8, "<init>", "()V"⟩ prog_10_method_1_code 1 none :: q_TW) B.pre
  have hts : ∀ w ∈ q_TW, w.before _ s = true := fun w hw => hts0 w (List.mem_cons_of_mem _ hw)
  have hown : s.vm.findClass RX8 = some m.cls := findClass_of_methodNamed B.named
  have hlocks := B.notSynchronized
  have hin : meth.name = "<init>" := (name_of_methodNamed B.named B.method).1
  subst hsz
  have hD := hD0.self (sz := s.heap.size)
  generalize hAe : va_A [(h0, .inr (8, [.null, .int 0, .int 0]))] s.heap.size = A at hD ⊢
  have hA : ∀ q : Nat, s.heap.size ≤ q → A q := fun q h => by rw [← hAe]; exact Or.inr h
  have hS : va_S A s.heap s.heap [] := va_S.rf
  have hl := lv_entry ([.ref h0]) (n := 1) (Nat.le_of_ble_eq_true rfl)
  rw [lg_entry_eq]
  generalize (lg_sl ([.ref h0]) ++ List.replicate (1 - (lg_sl ([.ref h0])).length) Slot.unset).toArray = ls at hl ⊢
  have hl : lv_has ls 1 [(0, .ref h0)] := hl
  refine lv_aload_n hx hb dc_8_0 rfl (lv_at hl 0 rfl) ?_
  refine W.objInit hx hb hown (hts _ wc_24) (hts _ wc_oi) (hts _ wc_oc) rfl (by rw [hml]; exact hl.1) rfl dc_8_1 (Nat.le_of_ble_eq_true rfl) (Nat.le_of_ble_eq_true rfl) ?_
  refine W.eq (g2 := F0 m 4 ls []) rfl ?_
  refine lv_aload_n hx hb dc_8_4 rfl (lv_at hl 0 rfl) ?_
  refine lv_bipush (v := 40) hx hb dc_8_5 (by decide) ?_
  refine q_newL (N := 40) hx hb hts hK hP hD hS hA (by decide) (by decide) (by decide) (Nat.le_of_ble_eq_true rfl) (Nat.le_of_ble_eq_true rfl) dc_8_7 (fun q1 H hP hD hS => ?_)
  have hP : va_P D q_cn [(h0, .inr (8, [.null, .int 0, .int 0])), (q1, .inl (cA 1, 40, .inr (.inl (fun _ => 0))))] H := hP
  have hD : va_D A [(h0, .inr (8, [.null, .int 0, .int 0])), (q1, .inl (cA 1, 40, .inr (.inl (fun _ => 0))))] := hD
  refine va_putF (D := D) (ci := 8) (v := .ref q1) (ty := (.array .long)) (C := RX8) (T := TX8) (N := 3) hx hb hts inX8 tyX8 tyX8_ok nmX8 hown hK hP hD hS 0 rfl rfl 0 (by decide) (hts _ wc_25) (fun _ h9 => h9) rfl hin rfl (by decide +kernel) rfl rfl (Nat.le_of_ble_eq_true rfl) dc_8_9 (fun H locs hP hD hS => ?_)
  have hP : va_P D q_cn [(h0, .inr (8, [.ref q1, .int 0, .int 0])), (q1, .inl (cA 1, 40, .inr (.inl (fun _ => 0))))] H := hP
  have hD : va_D A [(h0, .inr (8, [.ref q1, .int 0, .int 0])), (q1, .inl (cA 1, 40, .inr (.inl (fun _ => 0))))] := hD
  refine lv_aload_n hx hb dc_8_12 rfl (lv_at hl 0 rfl) ?_
  refine lv_iconst (v := (-1)) hx hb dc_8_13 (by decide) ?_
  refine va_put (D := D) (ci := 8) (v := .int (-1)) (ty := .int) (C := RX8) (T := TX8) (N := 3) hx hb hts inX8 tyX8 tyX8_ok nmX8 hown hK hP hD hS 0 rfl rfl 1 (by decide) (hts _ wc_26) (fun _ h9 => h9) rfl (by decide +kernel) rfl rfl (Nat.le_of_ble_eq_true rfl) dc_8_14 (fun H locs hP hD hS => ?_)
  have hP : va_P D q_cn [(h0, .inr (8, [.ref q1, .int (-1), .int 0])), (q1, .inl (cA 1, 40, .inr (.inl (fun _ => 0))))] H := hP
  have hD : va_D A [(h0, .inr (8, [.ref q1, .int (-1), .int 0])), (q1, .inl (cA 1, 40, .inr (.inl (fun _ => 0))))] := hD
  refine W.widen (k := 1) (n := 40) (by decide) (by decide) ?_
  have hq : ∀ t : State, t.heap = H → s.WarmedH t.vm → va_Qv (fun _ : Unit => True) (fun _ t => ∃ q1 : Nat, va_P D q_cn [(h0, .inr (8, [.ref q1, .int (-1), .int 0])), (q1, .inl (cA 1, 40, .inr (.inl (fun _ => 0))))] t.heap ∧ va_D A [(h0, .inr (8, [.ref q1, .int (-1), .int 0])), (q1, .inl (cA 1, 40, .inr (.inl (fun _ => 0))))]) A [Value.ref h0].toArray s (.returned none) t := fun t ht hW => ⟨⟨(), rfl, trivial, q1, by rw [ht]; exact hP, hD⟩, hS.F ht⟩
  exact W.vret hx hb hr hq hS.2.2 dc_8_17
set_option maxHeartbeats 4000000 in
set_option maxRecDepth 100000 in
theorem k_10_10 (l : Launch) (D : va_G) (cA : Nat → ClassId) (h0 : Nat) (sz : Nat) : Met l ⟨RX10, "<init>", "()V"⟩ (Cond.code ⟨RX10, "<init>", "()V"⟩ prog_12_method_1_code 1 none :: q_TW) ({ frames := 1, cells := 2, slots := 83, locals := 12 }) (va_Pc [.ref h0] (cn_Pre D cA [(h0, .inr (10, [.null, .int 0, .int 0, .null]))] sz)) (va_Qv (fun _ : Unit => True) (fun _ t => ∃ q1 q2 : Nat, va_P D q_cn [(h0, .inr (10, [.ref q1, .int 0, .int 0, .ref q2])), (q1, .inl (cA 0, 80, .inl (fun _ => 0))), (q2, .inl (cA 0, 3, .inl (fun _ => 0)))] t.heap ∧ va_D (va_A [(h0, .inr (10, [.null, .int 0, .int 0, .null]))] sz) [(h0, .inr (10, [.ref q1, .int 0, .int 0, .ref q2])), (q1, .inl (cA 0, 80, .inl (fun _ => 0))), (q2, .inl (cA 0, 3, .inl (fun _ => 0)))]) (va_A [(h0, .inr (10, [.null, .int 0, .int 0, .null]))] sz)) 2 83 (va_A [(h0, .inr (10, [.null, .int 0, .int 0, .null]))] sz) := by
  refine q_ofW (cc := prog_12_method_1_code) (maxL := 1) (ret := none) (plainFor_of_name (by decide +kernel)) rfl ?_
  intro p e s m args below meth c s₁ B hml hv
  obtain ⟨rfl, hsz, hP, hK, hD0, hE⟩ := hv
  have hx := B.exec
  have hb := B.bytes
  have hr := B.returns
  have hts0 := atoms_spec (ws := Cond.code ⟨RX10, "<init>", "()V"⟩ prog_12_method_1_code 1 none :: q_TW) B.pre
  have hts : ∀ w ∈ q_TW, w.before _ s = true := fun w hw => hts0 w (List.mem_cons_of_mem _ hw)
  have hown : s.vm.findClass RX10 = some m.cls := findClass_of_methodNamed B.named
  have hlocks := B.notSynchronized
  have hin : meth.name = "<init>" := (name_of_methodNamed B.named B.method).1
  subst hsz
  have hD := hD0.self (sz := s.heap.size)
  generalize hAe : va_A [(h0, .inr (10, [.null, .int 0, .int 0, .null]))] s.heap.size = A at hD ⊢
  have hA : ∀ q : Nat, s.heap.size ≤ q → A q := fun q h => by rw [← hAe]; exact Or.inr h
  have hS : va_S A s.heap s.heap [] := va_S.rf
  have hl := lv_entry ([.ref h0]) (n := 1) (Nat.le_of_ble_eq_true rfl)
  rw [lg_entry_eq]
  generalize (lg_sl ([.ref h0]) ++ List.replicate (1 - (lg_sl ([.ref h0])).length) Slot.unset).toArray = ls at hl ⊢
  have hl : lv_has ls 1 [(0, .ref h0)] := hl
  refine lv_aload_n hx hb dc_10_0 rfl (lv_at hl 0 rfl) ?_
  refine W.objInit hx hb hown (hts _ wc_27) (hts _ wc_oi) (hts _ wc_oc) rfl (by rw [hml]; exact hl.1) rfl dc_10_1 (Nat.le_of_ble_eq_true rfl) (Nat.le_of_ble_eq_true rfl) ?_
  refine W.eq (g2 := F0 m 4 ls []) rfl ?_
  refine lv_aload_n hx hb dc_10_4 rfl (lv_at hl 0 rfl) ?_
  refine lv_bipush (v := 80) hx hb dc_10_5 (by decide) ?_
  refine q_newI (N := 80) hx hb hts hK hP hD hS hA (by decide) (by decide) (by decide) (Nat.le_of_ble_eq_true rfl) (Nat.le_of_ble_eq_true rfl) dc_10_7 (fun q1 H hP hD hS => ?_)
  have hP : va_P D q_cn [(h0, .inr (10, [.null, .int 0, .int 0, .null])), (q1, .inl (cA 0, 80, .inl (fun _ => 0)))] H := hP
  have hD : va_D A [(h0, .inr (10, [.null, .int 0, .int 0, .null])), (q1, .inl (cA 0, 80, .inl (fun _ => 0)))] := hD
  refine va_putF (D := D) (ci := 10) (v := .ref q1) (ty := (.array .int)) (C := RX10) (T := TX10) (N := 4) hx hb hts inX10 tyX10 tyX10_ok nmX10 hown hK hP hD hS 0 rfl rfl 0 (by decide) (hts _ wc_28) (fun _ h9 => h9) rfl hin rfl (by decide +kernel) rfl rfl (Nat.le_of_ble_eq_true rfl) dc_10_9 (fun H locs hP hD hS => ?_)
  have hP : va_P D q_cn [(h0, .inr (10, [.ref q1, .int 0, .int 0, .null])), (q1, .inl (cA 0, 80, .inl (fun _ => 0)))] H := hP
  have hD : va_D A [(h0, .inr (10, [.ref q1, .int 0, .int 0, .null])), (q1, .inl (cA 0, 80, .inl (fun _ => 0)))] := hD
  refine lv_aload_n hx hb dc_10_12 rfl (lv_at hl 0 rfl) ?_
  refine lv_iconst (v := 3) hx hb dc_10_13 (by decide) ?_
  refine q_newI (N := 3) hx hb hts hK hP hD hS hA (by decide) (by decide) (by decide) (Nat.le_of_ble_eq_true rfl) (Nat.le_of_ble_eq_true rfl) dc_10_14 (fun q2 H hP hD hS => ?_)
  have hP : va_P D q_cn [(h0, .inr (10, [.ref q1, .int 0, .int 0, .null])), (q1, .inl (cA 0, 80, .inl (fun _ => 0))), (q2, .inl (cA 0, 3, .inl (fun _ => 0)))] H := hP
  have hD : va_D A [(h0, .inr (10, [.ref q1, .int 0, .int 0, .null])), (q1, .inl (cA 0, 80, .inl (fun _ => 0))), (q2, .inl (cA 0, 3, .inl (fun _ => 0)))] := hD
  refine va_putF (D := D) (ci := 10) (v := .ref q2) (ty := (.array .int)) (C := RX10) (T := TX10) (N := 4) hx hb hts inX10 tyX10 tyX10_ok nmX10 hown hK hP hD hS 0 rfl rfl 3 (by decide) (hts _ wc_29) (fun _ h9 => h9) rfl hin rfl (by decide +kernel) rfl rfl (Nat.le_of_ble_eq_true rfl) dc_10_16 (fun H locs hP hD hS => ?_)
  have hP : va_P D q_cn [(h0, .inr (10, [.ref q1, .int 0, .int 0, .ref q2])), (q1, .inl (cA 0, 80, .inl (fun _ => 0))), (q2, .inl (cA 0, 3, .inl (fun _ => 0)))] H := hP
  have hD : va_D A [(h0, .inr (10, [.ref q1, .int 0, .int 0, .ref q2])), (q1, .inl (cA 0, 80, .inl (fun _ => 0))), (q2, .inl (cA 0, 3, .inl (fun _ => 0)))] := hD
  refine W.widen (k := 2) (n := 83) (by decide) (by decide) ?_
  have hq : ∀ t : State, t.heap = H → s.WarmedH t.vm → va_Qv (fun _ : Unit => True) (fun _ t => ∃ q1 q2 : Nat, va_P D q_cn [(h0, .inr (10, [.ref q1, .int 0, .int 0, .ref q2])), (q1, .inl (cA 0, 80, .inl (fun _ => 0))), (q2, .inl (cA 0, 3, .inl (fun _ => 0)))] t.heap ∧ va_D A [(h0, .inr (10, [.ref q1, .int 0, .int 0, .ref q2])), (q1, .inl (cA 0, 80, .inl (fun _ => 0))), (q2, .inl (cA 0, 3, .inl (fun _ => 0)))]) A [Value.ref h0].toArray s (.returned none) t := fun t ht hW => ⟨⟨(), rfl, trivial, q1, q2, by rw [ht]; exact hP, hD⟩, hS.F ht⟩
  exact W.vret hx hb hr hq hS.2.2 dc_10_19
