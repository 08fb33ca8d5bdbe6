/-! ===== making: arrays whose class is known; what no word hands on ===== -/
theorem wa_I : Cond.arrayClass .int ∈ q_TW := q_in 92 (by decide +kernel) (by decide +kernel)
theorem wa_L : Cond.arrayClass .long ∈ q_TW := q_in 252 (by decide +kernel) (by decide +kernel)
theorem ct_eq {D : va_G} {cl : List vw_C} {tys : List (ClassId × FieldType)} {s : State} (hK : va_K D cl tys s) {i j : Nat} {c1 c2 : ClassId} {ty : FieldType} (hi : tys[i]? = some (c1, ty)) (hj : tys[j]? = some (c2, ty)) : c1 = c2 := by
  have h1 := (hK.2 i _ hi).2
  have h2 := (hK.2 j _ hj).2
  cases ty with
  | object C =>
    obtain ⟨_, _, -, -, -, e1⟩ := h1
    obtain ⟨_, _, -, -, -, e2⟩ := h2
    exact Option.some.inj (e1.symm.trans e2)
  | _ => exact Option.some.inj (Eq.trans (Eq.symm h1) h2)
def cn_N : List (String × Nat × MethodName × String) := [("WhirlShafts", 21, ⟨"WhirlShafts$Disc", "<init>", "()V"⟩, "WhirlShafts"), ("WhirlShafts", 24, ⟨"WhirlShafts$Rim", "<init>", "()V"⟩, "WhirlShafts"), ("WhirlShafts$Rim", 1, ⟨"WhirlShafts$Disc", "<init>", "()V"⟩, "WhirlShafts"), ("WhirlShafts", 27, ⟨"WhirlShafts$Hub", "<init>", "()V"⟩, "WhirlShafts"), ("WhirlShafts$Hub", 1, ⟨"WhirlShafts$Disc", "<init>", "()V"⟩, "WhirlShafts"), ("WhirlShafts", 30, ⟨"WhirlShafts$Crown", "<init>", "()V"⟩, "WhirlShafts"), ("WhirlShafts$Crown", 1, ⟨"WhirlShafts$Rim", "<init>", "()V"⟩, "WhirlShafts"), ("WhirlShafts", 33, ⟨"WhirlShafts$Shell", "<init>", "()V"⟩, "WhirlShafts"), ("WhirlShafts$Shell", 1, ⟨"WhirlShafts$Hub", "<init>", "()V"⟩, "WhirlShafts"), ("WhirlShafts", 51, ⟨"WhirlShafts$Orders", "<init>", "()V"⟩, "WhirlShafts"), ("WhirlShafts", 61, ⟨"WhirlShafts$Changes", "<init>", "()V"⟩, "WhirlShafts"), ("WhirlShafts", 68, ⟨"WhirlShafts$Rates", "<init>", "()V"⟩, "WhirlShafts"), ("WhirlShafts", 75, ⟨"WhirlShafts$Tape", "<init>", "()V"⟩, "WhirlShafts"), ("WhirlShafts", 86, ⟨"WhirlShafts$Row", "<init>", "()V"⟩, "WhirlShafts")]
def cn_T : List (String × String) := [("WhirlShafts$Rim", "WhirlShafts$Disc"), ("WhirlShafts$Hub", "WhirlShafts$Disc"), ("WhirlShafts$Crown", "WhirlShafts$Disc"), ("WhirlShafts$Shell", "WhirlShafts$Disc")]
/-- what no word hands on: nest mates, stores, arrays of references -/
def cn_E (cA : Nat → ClassId) (U : State) : Prop := (∀ q ∈ cn_N, va_Nw (.methodLinkNest q.1 q.2.1 q.2.2.1 q.2.2.2) U) ∧ (∀ q ∈ cn_T, va_Nw (.castable q.1 q.2) U) ∧ va_AO "WhirlShafts$Disc" U ∧ va_AO "WhirlShafts$Row" U ∧ ∃ k : Class, U.vm.classes[cA 4]? = some k ∧ k.kind = .array (cA 1) (.array .long)
theorem cn_E_moved {cA : Nat → ClassId} {u U : State} (h : cn_E cA u) (hW : u.WarmedH U.vm) : cn_E cA U := by
  obtain ⟨h1, h2, h3, h4, k, h5, h6⟩ := h
  refine ⟨fun q hq => va_Nw.warmM hW (h1 q hq), fun q hq => va_Nw.warmC hW (h2 q hq), va_AO.moved hW.alike h3, va_AO.moved hW.alike h4, ?_⟩
  obtain ⟨k', hk', he⟩ := hW.alike.2.2 _ _ h5
  exact ⟨k', hk', by rw [he]; exact h6⟩
theorem cn_E_same {cA : Nat → ClassId} {u U : State} (h : cn_E cA u) (e : u.vm = U.vm) : cn_E cA U := by
  obtain ⟨h1, h2, h3, h4, h5⟩ := h
  have ha : u.vm.Alike U.vm := by rw [e]; exact Vm.Alike.refl _
  exact ⟨fun q hq => va_Nw.same rfl e (h1 q hq), fun q hq => va_Nw.same rfl e (h2 q hq), va_AO.moved ha h3, va_AO.moved ha h4, by rw [← e]; exact h5⟩
/-- what a constructor is begun with -/
def cn_Pre (D : va_G) (cA : Nat → ClassId) (ws : va_W) (sz : Nat) : State → Prop := fun U => U.heap.size = sz ∧ va_P D q_cn ws U.heap ∧ va_K D q_cn (q_tys cA) U ∧ va_D (fun _ => True) ws ∧ cn_E cA U
theorem cn_blind {D : va_G} {cA : Nat → ClassId} {ws : va_W} {sz : Nat} {as : List Value} : FrameBlind (va_Pc as (cn_Pre D cA ws sz)) := by
  intro a U g mk q
  obtain ⟨q0, q1, q2, qK, q3, q4⟩ := q
  exact ⟨q0, q1, q2, va_K.moved (u := U) (U := U.calling g mk a) (Vm.Alike.refl U.vm) qK, q3, cn_E_same (u := U) (U := U.calling g mk a) q4 rfl⟩
theorem cn_pre {D : va_G} {cA : Nat → ClassId} {ws : va_W} {as : List Value} {s U : State} {H : Heap} {A : Nat → Prop} (hP : va_P D q_cn ws H) (hK : va_K D q_cn (q_tys cA) s) (hD : va_D A ws) (hE : cn_E cA s) (hU : U.heap = H) (hW : s.WarmedH U.vm) : va_Pc as (cn_Pre D cA ws H.size) as.toArray U :=
  ⟨rfl, by rw [hU], by rw [hU]; exact hP, va_K.moved hW.alike hK, hD.weaken (fun _ _ _ _ => trivial), cn_E_moved hE hW⟩
theorem cn_good {y : MethodName} {cc : ByteArray} {n : Nat} {r : Option FieldType} (h : Cond.code y cc n r ∈ q_TW) : GoodIn q_TW (.code y cc n r :: q_TW) := by
  intro w hw
  rcases List.mem_cons.mp hw with e | e
  · rw [e]; exact ⟨h, q_TW_good h⟩
  · exact ⟨e, q_TW_good e⟩
section CN
variable {p : Program} {l : Launch} {e : Env} {R : Room} {s : State} {m : MethodId} {args : Array Value} {below : List Frame} {meth : Method} {c : Code} {H : Heap} {locs : List Loc} {cells slots : Nat} {Q : State → Prop}
variable {cc : ByteArray} {pc : Nat} {ls : Array Slot} {rest : List Value} {D : va_G} {A : Nat → Prop} {ws : va_W} {H0 : Heap} {cA : Nat → ClassId}
theorem q_newI (hx : p.tables.exec = Jvm.exec) (hb : c.code = cc) (hts : ∀ w ∈ q_TW, w.before args s = true) (hK : va_K D q_cn (q_tys cA) s) (hP : va_P D q_cn ws H) (hD : va_D A ws) (hS : va_S A H0 H locs) (hA : ∀ q, H0.size ≤ q → A q) {n : Int32} {N : Nat} (hn : ¬ n < 0) (hN : n.toNatClampNeg = N) (hbytes : N * componentBytes .int ≤ 536870912) (hcells : cells + 1 ≤ R.cells) (hslots : slots + N ≤ R.slots) (hdg : decode cc pc = .ok (.newarray .int, 2))
    (kk : ∀ (q : Nat) (H1 : Heap), va_P D q_cn (ws ++ [(q, .inl (cA 0, N, .inl (fun _ => 0)))]) H1 → va_D A (ws ++ [(q, .inl (cA 0, N, .inl (fun _ => 0)))]) → va_S A H0 H1 locs → W p l e R s m args below meth c H1 locs (cells + 1) (slots + N) Q (F0 m (pc + 2) ls (.ref q :: rest))) : W p l e R s m args below meth c H locs cells slots Q (F0 m pc ls (.int n :: rest)) := by
  refine va_newa (atype := .int) (ty := .int) (a0 := (N, .inl (fun _ => 0))) hx hb (hts _ wa_I) rfl hK hP hD hS hA (fun _ => rfl) hn hN hbytes hcells hslots hdg (fun q cB H1 hK1 hP1 hD1 hS1 => ?_)
  have e : cB = cA 0 := ct_eq hK1 (i := 5) (j := 0) rfl rfl
  subst e
  exact kk q H1 hP1 hD1 hS1
theorem q_newL (hx : p.tables.exec = Jvm.exec) (hb : c.code = cc) (hts : ∀ w ∈ q_TW, w.before args s = true) (hK : va_K D q_cn (q_tys cA) s) (hP : va_P D q_cn ws H) (hD : va_D A ws) (hS : va_S A H0 H locs) (hA : ∀ q, H0.size ≤ q → A q) {n : Int32} {N : Nat} (hn : ¬ n < 0) (hN : n.toNatClampNeg = N) (hbytes : N * componentBytes .long ≤ 536870912) (hcells : cells + 1 ≤ R.cells) (hslots : slots + N ≤ R.slots) (hdg : decode cc pc = .ok (.newarray .long, 2))
    (kk : ∀ (q : Nat) (H1 : Heap), va_P D q_cn (ws ++ [(q, .inl (cA 1, N, .inr (.inl (fun _ => 0))))]) H1 → va_D A (ws ++ [(q, .inl (cA 1, N, .inr (.inl (fun _ => 0))))]) → va_S A H0 H1 locs → W p l e R s m args below meth c H1 locs (cells + 1) (slots + N) Q (F0 m (pc + 2) ls (.ref q :: rest))) : W p l e R s m args below meth c H locs cells slots Q (F0 m pc ls (.int n :: rest)) := by
  refine va_newa (atype := .long) (ty := .long) (a0 := (N, .inr (.inl (fun _ => 0)))) hx hb (hts _ wa_L) rfl hK hP hD hS hA (fun _ => rfl) hn hN hbytes hcells hslots hdg (fun q cB H1 hK1 hP1 hD1 hS1 => ?_)
  have e : cB = cA 1 := ct_eq hK1 (i := 5) (j := 1) rfl rfl
  subst e
  exact kk q H1 hP1 hD1 hS1
theorem q_newq {C own : String} {index t : Nat} (ht : (q_tys cA)[t]? = some (cA t, .object C)) (hx : p.tables.exec = Jvm.exec) (hb : c.code = cc) (hown : s.vm.findClass own = some m.cls) (hcl : (Cond.classLink own index C).before args s = true) (hao : va_AO C s) (hK : va_K D q_cn (q_tys cA) s) (hP : va_P D q_cn ws H) (hD : va_D A ws) (hS : va_S A H0 H locs) (hA : ∀ q, H0.size ≤ q → A q) {n : Int32} {N : Nat} (hn : ¬ n < 0) (hN : n.toNatClampNeg = N) (hbytes : N * 4 ≤ 536870912) (hcells : cells + 1 ≤ R.cells) (hslots : slots + N ≤ R.slots) (hdg : decode cc pc = .ok (.anewarray index, 3))
    (kk : ∀ (q : Nat) (H1 : Heap), va_P D q_cn (ws ++ [(q, .inl (cA t, N, .inr (.inr (.inr (.inr (fun _ => none))))))]) H1 → va_D A (ws ++ [(q, .inl (cA t, N, .inr (.inr (.inr (.inr (fun _ => none))))))]) → va_S A H0 H1 locs → W p l e R s m args below meth c H1 locs (cells + 1) (slots + N) Q (F0 m (pc + 3) ls (.ref q :: rest))) : W p l e R s m args below meth c H locs cells slots Q (F0 m pc ls (.int n :: rest)) := by
  refine va_newq hx hb hown hcl hao hK hP hD hS hA hn hN hbytes hcells hslots hdg (fun q cB H1 hK1 hP1 hD1 hS1 => ?_)
  have ht' : (q_tys cA ++ [(cB, .object C)])[t]? = some (cA t, .object C) := by
    rw [List.getElem?_append_left (List.getElem?_eq_some_iff.mp ht).1]; exact ht
  have e : cB = cA t := ct_eq hK1 (i := 5) (j := t) rfl ht'
  subst e
  exact kk q H1 hP1 hD1 hS1
end CN
