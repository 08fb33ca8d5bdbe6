/-! ===== new long[9][9] ===== -/
def mn_f (h i j : Nat) : Value := if j < i then .ref (h + 1 + j) else .null
/-- the state when i rows stand -/
def mn_st (s : State) (a b : ClassId) : Nat → State
  | 0 => s.pushCell (arrV a 9 (mn_f s.heap.size 0))
  | i + 1 => ((mn_st s a b i).pushCell (arrV b 9 (fun _ => .long 0))).setCell s.heap.size (arrV a 9 (mn_f s.heap.size (i + 1)))
theorem mn_all (s : State) (a b : ClassId) : ∀ i, (mn_st s a b i).heap.size = s.heap.size + 1 + i ∧ (mn_st s a b i).heap[s.heap.size]? = some (arrV a 9 (mn_f s.heap.size i)) ∧ (mn_st s a b i).vm = s.vm ∧ (mn_st s a b i).slotsUsed = s.slotsUsed + 9 + 9 * i := by
  intro i
  induction i with
  | zero => exact ⟨by simp [mn_st], by simp [mn_st], rfl, by simp [mn_st, arrV_size]⟩
  | succ i ih =>
    obtain ⟨h1, h2, h3, h4⟩ := ih
    have hlt : s.heap.size < (mn_st s a b i).heap.size := by rw [h1]; omega
    have hc : ((mn_st s a b i).pushCell (arrV b 9 (fun _ => .long 0))).heap[s.heap.size]? = some (arrV a 9 (mn_f s.heap.size i)) := (State.heap_pushCell_of_lt _ _ hlt).trans h2
    refine ⟨?_, State.heap_setCell_self hc, by simp [mn_st, h3], ?_⟩
    · simp [mn_st, State.setCell, h1]
      omega
    · simp [mn_st, h4, arrV_size]
      omega
theorem mn_old (s : State) (a b : ClassId) {x : Nat} (hx : x < s.heap.size) : ∀ i, (mn_st s a b i).heap[x]? = s.heap[x]? := by
  intro i
  induction i with
  | zero => exact State.heap_pushCell_of_lt _ _ hx
  | succ i ih =>
    have h1 := (mn_all s a b i).1
    have hlt : x < (mn_st s a b i).heap.size := by rw [h1]; omega
    show (((mn_st s a b i).pushCell _).setCell s.heap.size _).heap[x]? = _
    rw [State.heap_setCell_other (Nat.ne_of_gt hx)]
    exact (State.heap_pushCell_of_lt _ _ hlt).trans ih
theorem mn_row (s : State) (a b : ClassId) : ∀ i j, j < i → (mn_st s a b i).heap[s.heap.size + 1 + j]? = some (arrV b 9 (fun _ => .long 0)) := by
  intro i
  induction i with
  | zero => intro j hj; omega
  | succ i ih =>
    intro j hj
    have h1 := (mn_all s a b i).1
    have hne : s.heap.size ≠ s.heap.size + 1 + j := by omega
    show (((mn_st s a b i).pushCell _).setCell s.heap.size _).heap[s.heap.size + 1 + j]? = _
    rw [State.heap_setCell_other hne]
    by_cases w : j = i
    · subst w
      rw [← h1]
      exact State.heap_pushCell_size _ _
    · have hlt : s.heap.size + 1 + j < (mn_st s a b i).heap.size := by rw [h1]; omega
      exact (State.heap_pushCell_of_lt _ _ hlt).trans (ih j (by omega))
theorem mn_top (s : State) (f : JFrame) (a b : ClassId) : ∀ i, mn_st (s.setTop f) a b i = (mn_st s a b i).setTop f := by
  intro i
  induction i with
  | zero => rfl
  | succ i ih => simp only [mn_st, ih, State.heap_setTop, State.pushCell_setTop, State.setCell_setTop]
theorem mn_fs (h i : Nat) : updV (mn_f h i) i (.ref (h + 1 + i)) = mn_f h (i + 1) := by
  funext j
  unfold updV mn_f
  by_cases w : j = i
  · subst w
    rw [if_pos rfl, if_pos (by omega)]
  · rw [if_neg w]
    by_cases v : j < i
    · rw [if_pos v, if_pos (by omega)]
    · rw [if_neg v, if_neg (by omega)]
section MW
variable {E : CtlPost} {e : Env} {d : Bool} {acts : List Action} {s : State}
theorem mn_new {a b : ClassId} {k : Class} {ty : FieldType} {v : Value} (hk : s.vm.classes[a]? = some k) (hkind : k.kind = .array b ty) (hl : ¬ 9 > e.platform.arrayLengthLimit) (hh : ¬ 9 * componentBytes ty > e.platform.maxHeapBytes) (hf : fits ty v = true) (hd : v.isDefault = true) (h1 : s.heap.size < e.platform.maxCells) (h2 : s.slotsUsed + 9 ≤ e.platform.maxSlots) {Q : Addr → Pre} (hq : Q s.heap.size d acts (s.pushCell (arrV a 9 (fun _ => v)))) : wp (Jvm.newArray a 9 v) Q E e d acts s := by
  have h3 : ∀ i w, (Array.replicate 9 v)[i]? = some w → s.fitsSlot a .none i w = true := by
    intro i w hw
    rw [Array.getElem?_replicate] at hw
    split at hw
    · cases hw
      simp [State.fitsSlot, State.slotType?, hk, hkind, hf]
    · cases hw
  have h4 : allocActs (Array.replicate 9 v) s.heap.size acts = acts := by
    unfold allocActs
    rw [if_pos (by rw [Array.all_replicate]; simp [hd])]
  rw [← arrV_new] at hq
  simp only [Jvm.newArray, Jvm.arrayFits, wp_bind', W.ask, W.ite, hl, if_false, wp_pure', W.theClass, hk, hkind, hh, W.alloc, W.stop, Option.some.injEq, exists_eq_left', Array.size_replicate, h4]
  rw [if_neg (by omega)]
  exact ⟨h1, h2, h3, hq⟩
theorem mn_make {a b b0 : ClassId} {k k1 : Class} (hk : s.vm.classes[a]? = some k) (hkind : k.kind = .array b (.array .long)) (hk1 : s.vm.classes[b]? = some k1) (hkind1 : k1.kind = .array b0 .long) (hl : ¬ 9 > e.platform.arrayLengthLimit) (hh : ¬ 9 * componentBytes (.array .long) > e.platform.maxHeapBytes) (hh1 : ¬ 9 * componentBytes .long > e.platform.maxHeapBytes) (h1 : s.heap.size + 10 ≤ e.platform.maxCells) (h2 : s.slotsUsed + 90 ≤ e.platform.maxSlots) {Q : Addr → Pre} (hq : ∀ d' acts', Q s.heap.size d' acts' (mn_st s a b 9)) : wp (multianewarray.make a [9, 9]) Q E e d acts s := by
  have n9 : ¬ (9 : Int32) < 0 := by decide
  have c9 : (9 : Int32).toNatClampNeg = 9 := by decide
  rw [multianewarray.make]
  simp only [wp_bind', W.ite, n9, if_false, wp_pure', W.theClass, hk, hkind, Option.some.injEq, exists_eq_left', c9]
  refine mn_new hk hkind hl hh rfl rfl (by omega) (by omega) ?_
  rw [if_neg (by decide)]
  rw [wp_bind', Std.Legacy.Range.forIn_eq_forIn_range']
  show wp (forIn (List.range' 0 9 1) PUnit.unit _) _ E e d acts _
  refine wp_forIn_inv (fun rest s' => ∃ i, i ≤ 9 ∧ rest = List.range' i (9 - i) ∧ s' = mn_st s a b i) _ _ ⟨0, by omega, rfl, rfl⟩ ?_ ?_
  · rintro x rest s' d' acts' Q' ⟨i, hi, hr, rfl⟩ next
    have hi9 : i < 9 := by
      rcases Nat.lt_or_ge i 9 with q | q
      · exact q
      · rw [show 9 - i = 0 by omega] at hr
        cases hr
    rw [show 9 - i = (9 - (i + 1)) + 1 by omega, List.range'_succ] at hr
    injection hr with hr1 hr2
    subst hr1
    obtain ⟨f1, f2, f3, f4⟩ := mn_all s a b x
    simp only [wp_bind']
    rw [multianewarray.make]
    simp only [wp_bind', W.ite, n9, if_false, wp_pure', W.theClass, f3, hk1, hkind1, Option.some.injEq, exists_eq_left', c9]
    refine mn_new (by rw [f3]; exact hk1) hkind1 hl hh1 rfl rfl (by omega) (by omega) ?_
    have hlt : s.heap.size < (mn_st s a b x).heap.size := by rw [f1]; omega
    simp only [wp_bind', W.writeLoc, wp_pure']
    refine ⟨arrV a 9 (mn_f s.heap.size x), (State.heap_pushCell_of_lt _ _ hlt).trans f2, by simp [arrV], by rw [arrV_size]; exact hi9, ?_, ?_⟩
    · simp [arrV, State.fitsSlot, State.slotType?, f3, hk, hkind, fits]
    · refine next _ _ _ ⟨x + 1, by omega, hr2, ?_⟩
      rw [arrV_store, f1, mn_fs]
      rfl
  · rintro s' d' acts' ⟨i, hi, hr, rfl⟩
    have : i = 9 := by
      rcases Nat.lt_or_ge i 9 with q | q
      · rw [show 9 - i = (9 - (i + 1)) + 1 by omega, List.range'_succ] at hr
        cases hr
      · omega
    subst this
    simp only [wp_pure']
    exact hq _ _
end MW
section MS
variable {p : Program} {l : Launch} {e : Env} {R : Room} {s : State} {m : MethodId} {args : Array Value} {below : List Frame} {meth : Method} {c : Code} {T : State} {locs : List Loc} {cells slots : Nat}
theorem mn_stand (X : Stand p l e R s m args below meth c T locs cells slots) (a b : ClassId) : ∀ i, Stand p l e R s m args below meth c (mn_st T a b i) (locs ++ (List.range i).map (fun j => (⟨T.heap.size, j⟩ : Loc))) (cells + 1 + i) (slots + 9 + 9 * i) := by
  intro i
  induction i with
  | zero =>
    have h := X.pushed (arrV a 9 (mn_f T.heap.size 0))
    rw [arrV_size] at h
    simpa [mn_st] using h
  | succ i ih =>
    obtain ⟨h1, h2, h3, h4⟩ := mn_all T a b i
    have hlt : T.heap.size < (mn_st T a b i).heap.size := by rw [h1]; omega
    have h := (ih.pushed (arrV b 9 (fun _ => .long 0))).stored ((State.heap_pushCell_of_lt _ _ hlt).trans h2) i (.ref (T.heap.size + 1 + i))
    rw [arrV_size, arrV_store, mn_fs] at h
    rw [List.range_succ, List.map_append, ← List.append_assoc, show slots + 9 + 9 * (i + 1) = slots + 9 + 9 * i + 9 by omega]
    exact h
theorem mn_step (X : Stand p l e R s m args below meth c T locs cells slots) (hexec : p.tables.exec = Jvm.exec) {own : String} {index : Nat} {a b b0 : ClassId} {k k1 : Class} (hown : s.vm.findClass own = some m.cls) (hcl : (Cond.classLink own index "[[J").before args s = true) (ha : s.vm.findClass "[[J" = some a) (hk : s.vm.classes[a]? = some k) (hkind : k.kind = .array b (.array .long)) (hk1 : s.vm.classes[b]? = some k1) (hkind1 : k1.kind = .array b0 .long) {g : JFrame} (hg : g.method = m) (hdg : decode c.code g.pc = .ok (.multianewarray index 2, 4)) {rest : List Value} (hst : g.stack = .int 9 :: .int 9 :: rest) (hcells : cells + 10 ≤ R.cells) (hslots : slots + 90 ≤ R.slots) :
    ∃ vm₁ : Vm, s.WarmedH vm₁ ∧ Stand p l e R s m args below meth c (mn_st (T.setVm vm₁) a b 9) (locs ++ (List.range 9).map (fun j => (⟨T.heap.size, j⟩ : Loc))) (cells + 1 + 9) (slots + 9 + 9 * 9) ∧ ∀ target, Steps p.tables e below ((mn_st (T.setVm vm₁) a b 9).setTop { g with pc := g.pc + 4, stack := .ref T.heap.size :: rest }) target → Steps p.tables e below (T.setTop g) target := by
  subst hg
  obtain ⟨c0, e0, hc0⟩ := Cond.classLink_spec hown hcl e.platform (by rw [X.admits.platform])
  cases ha.symm.trans e0
  obtain ⟨hg1, hw1, -⟩ := State.classEntry (e := e) X.warmed hc0
  generalize T.vm.noted g.method.cls index (.cls a) = vm₁ at hg1 hw1
  obtain ⟨k', hk', he⟩ := hw1.alike.2.2 _ _ hk
  obtain ⟨k1', hk1', he1⟩ := hw1.alike.2.2 _ _ hk1
  have X1 := X.noted hw1
  obtain ⟨r1, r2⟩ := X.roomAbove hcells hslots
  have XF := mn_stand X1 a b 9
  refine ⟨vm₁, hw1, XF, fun target hrest => ?_⟩
  have hl : ¬ 9 > e.platform.arrayLengthLimit := by rw [Launch.admits_arrayLengthLimit X.admits]; omega
  have hb : e.platform.maxHeapBytes = 536870912 := Launch.admits_maxHeapBytes X.admits
  jvm_step X.here [hexec, hdg]
  simp only [multianewarray.sem, wp_bind', W.resolveClassAt_links (State.method?_setTop g X.here.top) hg1]
  rw [W.popN, if_neg (by decide)]
  refine ⟨g, State.topJava?_setTop' (s := T.setVm vm₁) g X.here.top, [.int 9, .int 9], rest, rfl, hst, ?_⟩
  simp only [List.mapM_cons, List.mapM_nil, wp_bind', wp_pure']
  refine mn_make (k := k') (k1 := k1') hk' (by rw [he]; exact hkind) hk1' (by rw [he1]; exact hkind1) hl (by rw [hb]; decide) (by rw [hb]; decide) (by show T.heap.size + 10 ≤ _; omega) (by show T.slotsUsed + 90 ≤ _; omega) (fun d' acts' => ?_)
  have eS : ((T.setTop g).setVm vm₁).setTop { g with stack := rest } = (T.setVm vm₁).setTop { g with stack := rest } := by
    show ((T.setVm vm₁).setTop g).setTop _ = _
    rw [State.setTop_setTop]
  rw [eS, mn_top]
  simp only [wp_bind', W.mark, W.pushRef, State.topJava?_setTop' _ XF.here.top, Option.some.injEq, exists_eq_left', State.setTop_setTop, State.heap_setTop]
  intro acts
  simp [jvm, XF.here.top]
  exact hrest
end MS
section MN
variable {p : Program} {l : Launch} {e : Env} {R : Room} {s : State} {m : MethodId} {args : Array Value} {below : List Frame} {meth : Method} {c : Code} {H : Heap} {locs : List Loc} {cells slots : Nat} {Q : State → Prop}
variable {cc : ByteArray} {pc : Nat} {ls : Array Slot} {rest : List Value} {D : va_G} {A : Nat → Prop} {ws : va_W} {H0 : Heap} {cA : Nat → ClassId}
theorem q_mna {own : String} {index : Nat} (hx : p.tables.exec = Jvm.exec) (hb : c.code = cc) (hown : s.vm.findClass own = some m.cls) (hcl : (Cond.classLink own index "[[J").before args s = true) (harr : (Cond.arrayClass .long).before args s = true) (hk4 : ∃ k : Class, s.vm.classes[cA 4]? = some k ∧ k.kind = .array (cA 1) (.array .long)) (hK : va_K D q_cn (q_tys cA) s) (hP : va_P D q_cn ws H) (hD : va_D A ws) (hS : va_S A H0 H locs) (hA : ∀ q, H0.size ≤ q → A q) (hcells : cells + 10 ≤ R.cells) (hslots : slots + 90 ≤ R.slots) (hdg : decode cc pc = .ok (.multianewarray index 2, 4))
    (kk : ∀ (q r0 r1 r2 r3 r4 r5 r6 r7 r8 : Nat) (H1 : Heap) (locs1 : List Loc), va_P D q_cn (ws ++ [(q, .inl (cA 4, 9, .inr (.inr (.inr (.inr (va_up (va_up (va_up (va_up (va_up (va_up (va_up (va_up (va_up (fun _ => none) 0 (some r0)) 1 (some r1)) 2 (some r2)) 3 (some r3)) 4 (some r4)) 5 (some r5)) 6 (some r6)) 7 (some r7)) 8 (some r8))))))), (r0, .inl (cA 1, 9, .inr (.inl (fun _ => 0)))), (r1, .inl (cA 1, 9, .inr (.inl (fun _ => 0)))), (r2, .inl (cA 1, 9, .inr (.inl (fun _ => 0)))), (r3, .inl (cA 1, 9, .inr (.inl (fun _ => 0)))), (r4, .inl (cA 1, 9, .inr (.inl (fun _ => 0)))), (r5, .inl (cA 1, 9, .inr (.inl (fun _ => 0)))), (r6, .inl (cA 1, 9, .inr (.inl (fun _ => 0)))), (r7, .inl (cA 1, 9, .inr (.inl (fun _ => 0)))), (r8, .inl (cA 1, 9, .inr (.inl (fun _ => 0))))]) H1 → va_D A (ws ++ [(q, .inl (cA 4, 9, .inr (.inr (.inr (.inr (va_up (va_up (va_up (va_up (va_up (va_up (va_up (va_up (va_up (fun _ => none) 0 (some r0)) 1 (some r1)) 2 (some r2)) 3 (some r3)) 4 (some r4)) 5 (some r5)) 6 (some r6)) 7 (some r7)) 8 (some r8))))))), (r0, .inl (cA 1, 9, .inr (.inl (fun _ => 0)))), (r1, .inl (cA 1, 9, .inr (.inl (fun _ => 0)))), (r2, .inl (cA 1, 9, .inr (.inl (fun _ => 0)))), (r3, .inl (cA 1, 9, .inr (.inl (fun _ => 0)))), (r4, .inl (cA 1, 9, .inr (.inl (fun _ => 0)))), (r5, .inl (cA 1, 9, .inr (.inl (fun _ => 0)))), (r6, .inl (cA 1, 9, .inr (.inl (fun _ => 0)))), (r7, .inl (cA 1, 9, .inr (.inl (fun _ => 0)))), (r8, .inl (cA 1, 9, .inr (.inl (fun _ => 0))))]) → va_S A H0 H1 locs1 → W p l e R s m args below meth c H1 locs1 (cells + 10) (slots + 90) Q (F0 m (pc + 4) ls (.ref q :: rest))) : W p l e R s m args below meth c H locs cells slots Q (F0 m pc ls (.int 9 :: .int 9 :: rest)) := by
  obtain ⟨k, hk, hkind⟩ := hk4
  obtain ⟨cB, k1, b0, e1, hk1, hkind1⟩ := Cond.arrayClass_spec harr
  have hc1 : s.vm.findClass ("[" ++ FieldType.long.toString) = some (cA 1) := (hK.2 1 _ rfl).2
  have eB : cB = cA 1 := Option.some.inj (e1.symm.trans hc1)
  subst eB
  have hc4 : s.vm.findClass "[[J" = some (cA 4) := (hK.2 4 _ rfl).2
  intro T hT X
  obtain ⟨vm₁, hw, XF, step⟩ := mn_step X hx hown hcl hc4 hk hkind hk1 hkind1 (g := F0 m pc ls (.int 9 :: .int 9 :: rest)) rfl (by rw [hb]; exact hdg) rfl hcells hslots
  have eT : (T.setVm vm₁).heap = H := hT
  obtain ⟨z1, z2, -, -⟩ := mn_all (T.setVm vm₁) (cA 4) (cA 1) 9
  have zo : ∀ x : Nat, x < H.size → (mn_st (T.setVm vm₁) (cA 4) (cA 1) 9).heap[x]? = H[x]? := fun x hx => by
    rw [mn_old (T.setVm vm₁) (cA 4) (cA 1) (by rw [eT]; exact hx) 9, eT]
  have zr : ∀ j, j < 9 → (mn_st (T.setVm vm₁) (cA 4) (cA 1) 9).heap[H.size + 1 + j]? = some (arrV (cA 1) 9 (fun _ => .long 0)) := fun j hj => by
    have := mn_row (T.setVm vm₁) (cA 4) (cA 1) 9 j hj
    rwa [eT] at this
  rw [eT] at z1 z2
  have XF2 : Stand p l e R s m args below meth c (mn_st (T.setVm vm₁) (cA 4) (cA 1) 9) (locs ++ (List.range 9).map (fun j => (⟨T.heap.size, j⟩ : Loc))) (cells + 10) (slots + 90) := by
    rw [show cells + 10 = cells + 1 + 9 by omega, show slots + 90 = slots + 9 + 9 * 9 by omega]
    exact XF
  generalize mn_st (T.setVm vm₁) (cA 4) (cA 1) 9 = F at z1 z2 zo zr XF2 step
  have hold : va_P D q_cn ws F.heap := hP.kept (fun k x hx => zo x.1 ((hP k x hx).lt))
  have hF : mn_f H.size 9 = fun j => va_rf ((va_up (va_up (va_up (va_up (va_up (va_up (va_up (va_up (va_up (fun _ => none) 0 (some (H.size + 1 + 0))) 1 (some (H.size + 1 + 1))) 2 (some (H.size + 1 + 2))) 3 (some (H.size + 1 + 3))) 4 (some (H.size + 1 + 4))) 5 (some (H.size + 1 + 5))) 6 (some (H.size + 1 + 6))) 7 (some (H.size + 1 + 7))) 8 (some (H.size + 1 + 8))) j) := by
    funext j
    by_cases w : j < 9
    · rcases (show j = 0 ∨ j = 1 ∨ j = 2 ∨ j = 3 ∨ j = 4 ∨ j = 5 ∨ j = 6 ∨ j = 7 ∨ j = 8 by omega) with rfl | rfl | rfl | rfl | rfl | rfl | rfl | rfl | rfl <;> rfl
    · unfold mn_f va_up
      rw [if_neg w, if_neg (by omega), if_neg (by omega), if_neg (by omega), if_neg (by omega), if_neg (by omega), if_neg (by omega), if_neg (by omega), if_neg (by omega), if_neg (by omega)]
      rfl
  have hnew : ∀ (k : Nat) (x : Nat × va_E), ([(H.size, .inl (cA 4, 9, .inr (.inr (.inr (.inr (va_up (va_up (va_up (va_up (va_up (va_up (va_up (va_up (va_up (fun _ => none) 0 (some (H.size + 1 + 0))) 1 (some (H.size + 1 + 1))) 2 (some (H.size + 1 + 2))) 3 (some (H.size + 1 + 3))) 4 (some (H.size + 1 + 4))) 5 (some (H.size + 1 + 5))) 6 (some (H.size + 1 + 6))) 7 (some (H.size + 1 + 7))) 8 (some (H.size + 1 + 8)))))))), ((H.size + 1 + 0), .inl (cA 1, 9, .inr (.inl (fun _ => 0)))), ((H.size + 1 + 1), .inl (cA 1, 9, .inr (.inl (fun _ => 0)))), ((H.size + 1 + 2), .inl (cA 1, 9, .inr (.inl (fun _ => 0)))), ((H.size + 1 + 3), .inl (cA 1, 9, .inr (.inl (fun _ => 0)))), ((H.size + 1 + 4), .inl (cA 1, 9, .inr (.inl (fun _ => 0)))), ((H.size + 1 + 5), .inl (cA 1, 9, .inr (.inl (fun _ => 0)))), ((H.size + 1 + 6), .inl (cA 1, 9, .inr (.inl (fun _ => 0)))), ((H.size + 1 + 7), .inl (cA 1, 9, .inr (.inl (fun _ => 0)))), ((H.size + 1 + 8), .inl (cA 1, 9, .inr (.inl (fun _ => 0))))] : va_W)[k]? = some x → va_at D q_cn x F.heap ∧ x.1 = H.size + k := by
    intro k x hx
    have hk : k < 10 := (List.getElem?_eq_some_iff.mp hx).1
    rcases (show k = 0 ∨ k = 1 ∨ k = 2 ∨ k = 3 ∨ k = 4 ∨ k = 5 ∨ k = 6 ∨ k = 7 ∨ k = 8 ∨ k = 9 by omega) with rfl | rfl | rfl | rfl | rfl | rfl | rfl | rfl | rfl | rfl
    · cases hx
      refine ⟨?_, rfl⟩
      show F.heap[H.size]? = some (vp_cell _ _)
      rw [vp_cell_q, ← hF]
      exact z2
    · cases hx
      refine ⟨?_, rfl⟩
      exact zr 0 (by omega)
    · cases hx
      refine ⟨?_, rfl⟩
      exact zr 1 (by omega)
    · cases hx
      refine ⟨?_, rfl⟩
      exact zr 2 (by omega)
    · cases hx
      refine ⟨?_, rfl⟩
      exact zr 3 (by omega)
    · cases hx
      refine ⟨?_, rfl⟩
      exact zr 4 (by omega)
    · cases hx
      refine ⟨?_, rfl⟩
      exact zr 5 (by omega)
    · cases hx
      refine ⟨?_, rfl⟩
      exact zr 6 (by omega)
    · cases hx
      refine ⟨?_, rfl⟩
      exact zr 7 (by omega)
    · cases hx
      refine ⟨?_, rfl⟩
      exact zr 8 (by omega)
  refine (fun (h : _) => by obtain ⟨t, a1, b1⟩ := h; exact ⟨t, step t (by rw [hT]; exact a1), b1⟩) (kk H.size (H.size + 1 + 0) (H.size + 1 + 1) (H.size + 1 + 2) (H.size + 1 + 3) (H.size + 1 + 4) (H.size + 1 + 5) (H.size + 1 + 6) (H.size + 1 + 7) (H.size + 1 + 8) F.heap _ (hold.app (fun k x hx => (hnew k x hx).1)) ?_ ?_ F rfl (by
    have e9 : T.heap.size = H.size := by rw [hT]
    exact XF2))
  · have cs : ∀ (k : Nat) (x : Nat × va_E), (ws ++ ([(H.size, .inl (cA 4, 9, .inr (.inr (.inr (.inr (va_up (va_up (va_up (va_up (va_up (va_up (va_up (va_up (va_up (fun _ => none) 0 (some (H.size + 1 + 0))) 1 (some (H.size + 1 + 1))) 2 (some (H.size + 1 + 2))) 3 (some (H.size + 1 + 3))) 4 (some (H.size + 1 + 4))) 5 (some (H.size + 1 + 5))) 6 (some (H.size + 1 + 6))) 7 (some (H.size + 1 + 7))) 8 (some (H.size + 1 + 8)))))))), ((H.size + 1 + 0), .inl (cA 1, 9, .inr (.inl (fun _ => 0)))), ((H.size + 1 + 1), .inl (cA 1, 9, .inr (.inl (fun _ => 0)))), ((H.size + 1 + 2), .inl (cA 1, 9, .inr (.inl (fun _ => 0)))), ((H.size + 1 + 3), .inl (cA 1, 9, .inr (.inl (fun _ => 0)))), ((H.size + 1 + 4), .inl (cA 1, 9, .inr (.inl (fun _ => 0)))), ((H.size + 1 + 5), .inl (cA 1, 9, .inr (.inl (fun _ => 0)))), ((H.size + 1 + 6), .inl (cA 1, 9, .inr (.inl (fun _ => 0)))), ((H.size + 1 + 7), .inl (cA 1, 9, .inr (.inl (fun _ => 0)))), ((H.size + 1 + 8), .inl (cA 1, 9, .inr (.inl (fun _ => 0))))] : va_W))[k]? = some x → (ws[k]? = some x ∧ x.1 < H.size) ∨ (x.1 = H.size + (k - ws.length) ∧ ws.length ≤ k) := by
      intro k x hx
      by_cases w : k < ws.length
      · rw [List.getElem?_append_left w] at hx
        exact Or.inl ⟨hx, (hP k x hx).lt⟩
      · rw [List.getElem?_append_right (by omega)] at hx
        exact Or.inr ⟨(hnew _ x hx).2, by omega⟩
    refine ⟨fun i j x y hi hj e => ?_, fun k x hx => ?_⟩
    · rcases cs i x hi with ⟨a1, a2⟩ | ⟨a1, a2⟩ <;> rcases cs j y hj with ⟨b1, b2⟩ | ⟨b1, b2⟩
      · exact hD.1 i j x y a1 b1 e
      · omega
      · omega
      · omega
    · rcases cs k x hx with ⟨a1, a2⟩ | ⟨a1, a2⟩
      · exact hD.2 k x a1
      · exact hA _ (by have := hS.1; omega)
  · refine ⟨Nat.le_trans hS.1 (by omega), fun x h1 h2 => (zo x (Nat.lt_of_lt_of_le h1 hS.1)).trans (hS.2.1 x h1 h2), fun q hq => ?_⟩
    rcases List.mem_append.mp hq with h | h
    · exact hS.2.2 q h
    · obtain ⟨j, -, rfl⟩ := List.mem_map.mp h
      show A T.heap.size
      rw [hT]
      exact hA _ hS.1
end MN
