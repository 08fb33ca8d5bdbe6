/-! ===== the heap, switches ===== -/
theorem q_w_nat : (Cond.native arraycopyName) ∈ q_TW := q_in 405 (by decide +kernel) (by decide +kernel)
theorem q_w_sta : (Cond.static arraycopyName) ∈ q_TW := q_in 404 (by decide +kernel) (by decide +kernel)
theorem q_w_sys : (Cond.initialized "java/lang/System") ∈ q_TW := q_in 58 (by decide +kernel) (by decide +kernel)
section QH
variable {p : Program} {l : Launch} {e : Env} {R : Room} {s : State} {m : MethodId} {args : Array Value} {below : List Frame} {meth : Method} {c : Code} {cells slots : Nat} {Q : State → Prop} {D : va_G} {cA : Nat → ClassId} {ad : Nat → Nat} {A : Nat → Prop} {X : q_X} {cc : ByteArray} {own : String} {nL : Nat}
variable {E : q_E} {O : q_O} {k : q_K} {pc : Nat} {L : q_L} {st : List Value} {h : q_S} {r : q_S × Option Value} {au : List Nat} {sw : List (Int32 × Nat)}
theorem qs_ifnullR {a : Nat} {off : Int} (hC : q_Cx p l R s m args c D cA ad A X cc own nL) (hd : decode cc pc = .ok (.ifnull off, 3)) (k : q_Psi p l e R s m args below meth c cells slots Q D cA ad A nL (pc + 3) L st h) : q_Psi p l e R s m args below meth c cells slots Q D cA ad A nL pc L (.ref a :: st) h := by
  intro H locs ls hP hS hl
  exact lv_ifnull hC.1 hC.2.1 hd (k H locs ls hP hS hl)
theorem qs_ifnullN {off : Int} {t : Nat} (hC : q_Cx p l R s m args c D cA ad A X cc own nL) (hd : decode cc pc = .ok (.ifnull off, 3)) (ht : (pc : Int) + off = (t : Int)) (k : q_Psi p l e R s m args below meth c cells slots Q D cA ad A nL t L st h) : q_Psi p l e R s m args below meth c cells slots Q D cA ad A nL pc L (.null :: st) h := by
  intro H locs ls hP hS hl
  exact lv_ifnullN hC.1 hC.2.1 hd ht (k H locs ls hP hS hl)
theorem qs_tsw {x : Int32} {d lo hi : Int} {offs : Array Int} {len dt : Nat} (hC : q_Cx p l R s m args c D cA ad A X cc own nL) (hd : decode cc pc = .ok (.tableswitch d lo hi offs, len)) (hlo : -2147483648 ≤ lo) (hhi : hi < 2147483648) (hn : (sw.length : Int) = hi - lo + 1) (hdt : (pc : Int) + d = (dt : Int))
    (hj : ∀ (j : Nat) (q : Int32 × Nat), sw[j]? = some q → q.1 = Int32.ofInt (lo + j) ∧ ∃ off, offs[j]? = some off ∧ (pc : Int) + off = (q.2 : Int))
    (k1 : ∀ (j : Nat) (q : Int32 × Nat), sw[j]? = some q → x = q.1 → q_Psi p l e R s m args below meth c cells slots Q D cA ad A nL q.2 L st h) (k2 : (∀ q ∈ sw, x ≠ q.1) → q_Psi p l e R s m args below meth c cells slots Q D cA ad A nL dt L st h) : q_Psi p l e R s m args below meth c cells slots Q D cA ad A nL pc L (.int x :: st) h := by
  intro H locs ls hP hS hl
  by_cases hin : x.toInt < lo ∨ hi < x.toInt
  · refine lv_tableOut hC.1 hC.2.1 hd hin hdt (k2 (fun q hq hx => ?_) H locs ls hP hS hl)
    obtain ⟨j, hjq⟩ := List.getElem?_of_mem hq
    have hlt := (List.getElem?_eq_some_iff.mp hjq).1
    have h1 := (hj j q hjq).1
    rw [hx, h1, Int32.toInt_ofInt_of_le (by omega) (by omega)] at hin
    omega
  · have hlt : (x.toInt - lo).toNat < sw.length := by omega
    obtain ⟨q, hq⟩ : ∃ q, sw[(x.toInt - lo).toNat]? = some q := ⟨_, List.getElem?_eq_getElem hlt⟩
    obtain ⟨h1, off, h2, h3⟩ := hj _ q hq
    have hx : x = q.1 := by
      rw [h1, show lo + ((x.toInt - lo).toNat : Int) = x.toInt by omega]
      exact (Int32.ofInt_toInt x).symm
    exact lv_tableIn hC.1 hC.2.1 hd (by omega) (by omega) h2 h3 (k1 _ q hq hx H locs ls hP hS hl)
theorem qs_lsw_off {x : Int32} {d : Int} {f : Nat → q_A} {r : q_S × Option Value} {pc dt : Nat} (hdt : (pc : Int) + d = (dt : Int)) : ∀ {ps : List (Int × Int)} {sw : List (Int32 × Nat)}, (ps.length = sw.length) → (∀ (j : Nat) (q : Int32 × Nat) (o : Int × Int), sw[j]? = some q → ps[j]? = some o → (-2147483648 ≤ o.1 ∧ o.1 < 2147483648) ∧ q.1 = Int32.ofInt o.1 ∧ (pc : Int) + o.2 = (q.2 : Int)) → q_sw sw dt x f = some r → ∃ t : Nat, (pc : Int) + Op.lookupswitch.offset ps d x.toInt = (t : Int) ∧ f t = some r
  | [], [], _, _, h => ⟨dt, hdt, h⟩
  | [], _ :: _, hn, _, _ => by simp at hn
  | _ :: _, [], hn, _, _ => by simp at hn
  | o :: ps, q :: sw, hn, hj, h => by
    obtain ⟨⟨b1, b2⟩, h1, h2⟩ := hj 0 q o rfl rfl
    unfold q_sw at h
    obtain ⟨a, b⟩ := o
    rw [lookupswitch.offset_cons]
    split at h
    · rename_i hx
      have : a = x.toInt := by rw [hx, h1, Int32.toInt_ofInt_of_le b1 b2]
      rw [if_pos this]
      exact ⟨q.2, h2, h⟩
    · rename_i hx
      have : ¬ a = x.toInt := fun e => hx (by rw [h1]; simp only; rw [e]; exact (Int32.ofInt_toInt x).symm)
      rw [if_neg this]
      exact qs_lsw_off hdt (by simpa using hn) (fun j q o h1 h2 => hj (j + 1) q o h1 h2) h
theorem qs_lsw {x : Int32} {d : Int} {ps : Array (Int × Int)} {len t : Nat} (hC : q_Cx p l R s m args c D cA ad A X cc own nL) (hd : decode cc pc = .ok (.lookupswitch d ps, len)) (hp : (ps.toList.zip (ps.toList.drop 1)).all (fun (a, next) => a.1 < next.1) = true) (ht : (pc : Int) + Op.lookupswitch.offset ps.toList d x.toInt = (t : Int)) (k : q_Psi p l e R s m args below meth c cells slots Q D cA ad A nL t L st h) : q_Psi p l e R s m args below meth c cells slots Q D cA ad A nL pc L (.int x :: st) h := by
  intro H locs ls hP hS hl
  exact lv_lookup hC.1 hC.2.1 hd hp rfl ht (k H locs ls hP hS hl)
theorem qs_gets {i a : Nat} {nm : String} (hC : q_Cx p l R s m args c D cA ad A X cc own nL) (hd : decode cc pc = .ok (.getstatic i, 3)) (hw : Cond.fieldLink own i "WhirlShafts" nm "[I" ∈ q_TW) (hZ : va_Z "WhirlShafts" nm "[I" (.ref (ad a)) A s s.heap) (k : q_Psi p l e R s m args below meth c cells slots Q D cA ad A nL (pc + 3) L (.ref a :: st) h) : q_Psi p l e R s m args below meth c cells slots Q D cA ad A nL pc L st h := by
  intro H locs ls hP hS hl
  exact va_gets hC.1 hC.2.1 hZ hS hC.2.2.2.1 (hC.2.2.2.2.1 _ hw) (fun _ q => q) hd (k H locs ls hP hS hl)
/-- a field's row: class D declares it as its place n, of type t -/
def q_fok (own : String) (i D n t : Nat) : Prop := ∀ c, q_sub c D = true → ∃ (C : String) (T : u_T), q_cn[c]? = some (C, T, q_nf c) ∧ n < q_nf c ∧ (∃ R0, (T n).1 = R0 ∧ Cond.fieldLink own i R0 (T n).2.1 (T n).2.2.1 ∈ q_TW) ∧ q_ft c n = t
def q_gv (h : q_S) (a n t : Nat) : Value := match t with
  | 0 => .int (h.1 a n)
  | 1 => .ref (q_rf a n)
  | _ => q_rv h.2.2
theorem qs_getf {i Dn n t a : Nat} (hC : q_Cx p l R s m args c D cA ad A X cc own nL) (hd : decode cc pc = .ok (.getfield i, 3)) (hf : q_fok own i Dn n t) (hs : q_sub (q_cls a) Dn = true)
    (k : q_Psi p l e R s m args below meth c cells slots Q D cA ad A nL (pc + 3) L (q_gv h a n t :: st) h) : q_Psi p l e R s m args below meth c cells slots Q D cA ad A nL pc L (.ref a :: st) h := by
  intro H locs ls hP hS hl
  obtain ⟨ha, ht, hc⟩ := q_sub_obj hs
  obtain ⟨C, T, hcn, hn, ⟨R0, hR0, hw⟩, hft⟩ := hf _ hs
  obtain ⟨C', T', ty0, hcn', hin, -, -⟩ := q_cn_ok _ hc
  have e1 := Option.some.inj (hcn.symm.trans hcn')
  obtain ⟨rfl, e2⟩ := Prod.mk.inj e1
  obtain ⟨rfl, -⟩ := Prod.mk.inj e2
  have he := q_w_at (ad := ad) (cA := cA) (h := h) ha
  rw [q_cell_obj ht] at he
  subst hR0
  refine va_get hC.1 hC.2.1 hC.2.2.2.2.1 hin hC.2.2.2.1 hC.2.2.2.2.2.2.2.1.1 hP a he hcn n hn (hC.2.2.2.2.1 _ hw) (fun _ q => q) (v := q_fv ad h a n) (by simp [hn]) hd ?_
  have hv : q_fv ad h a n = q_cv ad (q_gv h a n t) := by
    unfold q_fv q_gv
    rw [hft]
    rcases t with _ | _ | t <;> rfl
  rw [hv]
  exact k H locs ls hP hS hl

theorem qs_iald {a : Nat} {i : Int32} {f : Int32 → q_A} (hC : q_Cx p l R s m args c D cA ad A X cc own nL) (hd : decode cc pc = .ok (.iaload, 1)) (hr : q_ald X h a i f = some r) (k : ∀ x, f x = some r → q_Psi p l e R s m args below meth c cells slots Q D cA ad A nL (pc + 1) L (.int x :: st) h) : q_Psi p l e R s m args below meth c cells slots Q D cA ad A nL pc L (.int i :: .ref a :: st) h := by
  intro H locs ls hP hS hl
  rcases q_ty_cases a with ht | ht | ht | ht | ht | ht
  · simp only [q_ald, ht] at hr
    obtain ⟨hin, hr⟩ := q_ix_inv hr
    have he := q_w_at (ad := ad) (cA := cA) (h := h) (q_ty_lt ht (by decide) (by decide))
    rw [q_cell_i ht] at he
    exact va_iald hC.1 hC.2.1 hC.2.2.2.2.2.2.2.1.1 hP a 0 he rfl hin hd (k _ hr H locs ls hP hS hl)
  · simp [q_ald, ht] at hr
  · simp [q_ald, ht] at hr
  · simp [q_ald, ht] at hr
  · simp only [q_ald, ht] at hr
    cases hx : X a with
    | none => simp [hx] at hr
    | some nf =>
      obtain ⟨n, g⟩ := nf
      simp only [hx] at hr
      obtain ⟨hin, hr⟩ := q_ix_inv hr
      exact va_ti hC.1 hC.2.1 (hC.2.2.2.2.2.2.2.2 a n g hx) hS hin rfl hd (k _ hr H locs ls hP hS hl)
  · simp [q_ald, ht] at hr
theorem qs_lald {a : Nat} {i : Int32} (hC : q_Cx p l R s m args c D cA ad A X cc own nL) (hd : decode cc pc = .ok (.laload, 1)) (ht : q_ty a = 1) (hin : vp_in i (q_ln a)) (k : q_Psi p l e R s m args below meth c cells slots Q D cA ad A nL (pc + 1) L (.long (h.2.1 a i.toNatClampNeg) :: st) h) : q_Psi p l e R s m args below meth c cells slots Q D cA ad A nL pc L (.int i :: .ref a :: st) h := by
  intro H locs ls hP hS hl
  have he := q_w_at (ad := ad) (cA := cA) (h := h) (q_ty_lt ht (by decide) (by decide))
  rw [q_cell_l ht] at he
  exact va_lald hC.1 hC.2.1 hC.2.2.2.2.2.2.2.1.1 hP a 1 he rfl hin hd (k H locs ls hP hS hl)
theorem q_ak_ok (a : Nat) (ht : q_ty a = 2) (cA : Nat → ClassId) : ∃ ty : FieldType, (q_tys cA)[q_ak a]? = some (cA (q_ak a), ty) ∧ ty.isReference = true := by
  have : ∀ b, b < 102 → q_ty b = 2 → (q_ak b = 2 ∨ q_ak b = 3 ∨ q_ak b = 4) := by decide +kernel
  rcases this a (q_ty_lt ht (by decide) (by decide)) ht with e | e | e <;> rw [e]
  · exact ⟨_, rfl, rfl⟩
  · exact ⟨_, rfl, rfl⟩
  · exact ⟨_, rfl, rfl⟩
theorem qs_aald {a : Nat} {i : Int32} (hC : q_Cx p l R s m args c D cA ad A X cc own nL) (hd : decode cc pc = .ok (.aaload, 1)) (ht : q_ty a = 2) (hin : vp_in i (q_ln a)) (k : q_Psi p l e R s m args below meth c cells slots Q D cA ad A nL (pc + 1) L (.ref (q_rf a i.toNatClampNeg) :: st) h) : q_Psi p l e R s m args below meth c cells slots Q D cA ad A nL pc L (.int i :: .ref a :: st) h := by
  intro H locs ls hP hS hl
  have he := q_w_at (ad := ad) (cA := cA) (h := h) (q_ty_lt ht (by decide) (by decide))
  rw [q_cell_r ht] at he
  obtain ⟨ty, h1, h2⟩ := q_ak_ok a ht cA
  have hlt : i.toNatClampNeg < q_ln a := Nat.not_le.mp fun q => hin (Or.inr q)
  exact W.aald (v := .ref (ad (q_rf a i.toNatClampNeg))) (ty := ty) hC.1 hC.2.1 (hP a _ he) ((hC.2.2.2.2.2.2.2.1.1.2 _ _ h1).1 (q_ln a) (fun j => .ref (ad (q_rf a j)))) h2 (fun q => by cases q) (by show ¬ (i < 0 ∨ (arrV _ _ _).slots.size ≤ _); rw [arrV_size]; exact hin) (by show (arrV _ _ _).slots[_]? = _; rw [arrV_read _ _ hlt]; rfl) rfl rfl hd (k H locs ls hP hS hl)
theorem qs_iast {a : Nat} {i x : Int32} (hC : q_Cx p l R s m args c D cA ad A X cc own nL) (hd : decode cc pc = .ok (.iastore, 1)) (ht : q_ty a = 0) (hin : vp_in i (q_ln a)) (k : q_Psi p l e R s m args below meth c cells slots Q D cA ad A nL (pc + 1) L st (q_si h a i.toNatClampNeg x)) : q_Psi p l e R s m args below meth c cells slots Q D cA ad A nL pc L (.int x :: .int i :: .ref a :: st) h := by
  intro H locs ls hP hS hl
  have hlt := q_ty_lt ht (by decide) (by decide)
  have he := q_w_at (ad := ad) (cA := cA) (h := h) hlt
  rw [q_cell_i ht] at he
  refine va_iast hC.1 hC.2.1 hC.2.2.2.2.2.2.2.1.1 hP (hC.2.2.2.2.2.1 h) hS a 0 he rfl hin hd (fun H1 locs1 hP1 _ hS1 => ?_)
  rw [q_w_set (h' := q_si h a i.toNatClampNeg x) hlt ?_ (fun j _ hj => q_cell_si hj)] at hP1
  · exact k H1 locs1 ls hP1 hS1 hl
  · rw [q_cell_i ht]
    congr 4
    funext j
    simp [q_si, upd]
theorem qs_last {a : Nat} {i : Int32} {x : Int64} (hC : q_Cx p l R s m args c D cA ad A X cc own nL) (hd : decode cc pc = .ok (.lastore, 1)) (ht : q_ty a = 1) (hin : vp_in i (q_ln a)) (k : q_Psi p l e R s m args below meth c cells slots Q D cA ad A nL (pc + 1) L st (q_sl h a i.toNatClampNeg x)) : q_Psi p l e R s m args below meth c cells slots Q D cA ad A nL pc L (.long x :: .int i :: .ref a :: st) h := by
  intro H locs ls hP hS hl
  have hlt := q_ty_lt ht (by decide) (by decide)
  have he := q_w_at (ad := ad) (cA := cA) (h := h) hlt
  rw [q_cell_l ht] at he
  refine va_last hC.1 hC.2.1 hC.2.2.2.2.2.2.2.1.1 hP (hC.2.2.2.2.2.1 h) hS a 1 he rfl hin hd (fun H1 locs1 hP1 _ hS1 => ?_)
  rw [q_w_set (h' := q_sl h a i.toNatClampNeg x) hlt ?_ (fun j _ hj => q_cell_sl hj)] at hP1
  · exact k H1 locs1 ls hP1 hS1 hl
  · rw [q_cell_l ht]
    congr 5
    funext j
    simp [q_sl, vp_updL]
theorem qs_alen {a : Nat} {f : Int32 → q_A} (hC : q_Cx p l R s m args c D cA ad A X cc own nL) (hd : decode cc pc = .ok (.arraylength, 1)) (hr : q_len X a f = some r) (k : ∀ x, f x = some r → q_Psi p l e R s m args below meth c cells slots Q D cA ad A nL (pc + 1) L (.int x :: st) h) : q_Psi p l e R s m args below meth c cells slots Q D cA ad A nL pc L (.ref a :: st) h := by
  intro H locs ls hP hS hl
  rcases q_ty_cases a with ht | ht | ht | ht | ht | ht
  · simp only [q_len, ht] at hr
    have he := q_w_at (ad := ad) (cA := cA) (h := h) (q_ty_lt ht (by decide) (by decide))
    rw [q_cell_i ht] at he
    exact va_alen hC.1 hC.2.1 hC.2.2.2.2.2.2.2.1.1 hP a 0 he rfl rfl hd (k _ hr H locs ls hP hS hl)
  · simp only [q_len, ht] at hr
    have he := q_w_at (ad := ad) (cA := cA) (h := h) (q_ty_lt ht (by decide) (by decide))
    rw [q_cell_l ht] at he
    exact va_alen hC.1 hC.2.1 hC.2.2.2.2.2.2.2.1.1 hP a 1 he rfl rfl hd (k _ hr H locs ls hP hS hl)
  · simp only [q_len, ht] at hr
    have he := q_w_at (ad := ad) (cA := cA) (h := h) (q_ty_lt ht (by decide) (by decide))
    rw [q_cell_r ht] at he
    obtain ⟨ty, h1, h2⟩ := q_ak_ok a ht cA
    exact va_alen hC.1 hC.2.1 hC.2.2.2.2.2.2.2.1.1 hP a _ he h1 rfl hd (k _ hr H locs ls hP hS hl)
  · simp [q_len, ht] at hr
  · simp only [q_len, ht] at hr
    cases hx : X a with
    | none => simp [hx] at hr
    | some nf =>
      obtain ⟨n, g⟩ := nf
      simp only [hx] at hr
      exact va_tlen hC.1 hC.2.1 (hC.2.2.2.2.2.2.2.2 a n g hx) hS rfl hd (k _ hr H locs ls hP hS hl)
  · simp [q_len, ht] at hr

/-- a field that may be written -/
def q_pok (own : String) (i Dn n : Nat) (ty : FieldType) : Prop := ∀ c, q_sub c Dn = true → ∃ (C : String) (T : u_T), q_cn[c]? = some (C, T, q_nf c) ∧ n < q_nf c ∧ (∃ R0, (T n).1 = R0 ∧ Cond.fieldLink own i R0 (T n).2.1 (T n).2.2.1 ∈ q_TW) ∧ (T n).2.2.2 = false ∧ parseFieldDescriptor (T n).2.2.1 = some ty ∧ (match ty with | .int => q_ft c n = 0 | .boolean => q_ft c n = 0 | _ => q_ft c n = 2)
theorem qs_putf {i Dn n a : Nat} {ty : FieldType} {v : Value} {h' : q_S} (hC : q_Cx p l R s m args c D cA ad A X cc own nL) (hd : decode cc pc = .ok (.putfield i, 3)) (hf : q_pok own i Dn n ty) (hs : q_sub (q_cls a) Dn = true) (hnar : narrow ty (q_cv ad v) = q_cv ad v) (hfit : fits ty (q_cv ad v) = true)
    (h1 : q_fv ad h' a n = q_cv ad v) (h2 : ∀ j, j < q_nf (q_cls a) → j ≠ n → q_fv ad h' a j = q_fv ad h a j) (h3 : ∀ j, j < 102 → j ≠ a → q_cell ad cA h' j = q_cell ad cA h j) (k : q_Psi p l e R s m args below meth c cells slots Q D cA ad A nL (pc + 3) L st h') : q_Psi p l e R s m args below meth c cells slots Q D cA ad A nL pc L (v :: .ref a :: st) h := by
  intro H locs ls hP hS hl
  obtain ⟨ha, ht, hc⟩ := q_sub_obj hs
  obtain ⟨C, T, hcn, hn, ⟨R0, hR0, hw⟩, hfin, hty, -⟩ := hf _ hs
  obtain ⟨C', T', ty0, hcn', hin, htys, hnm⟩ := q_cn_ok _ hc
  have e1 := Option.some.inj (hcn.symm.trans hcn')
  obtain ⟨rfl, e2⟩ := Prod.mk.inj e1
  obtain ⟨rfl, -⟩ := Prod.mk.inj e2
  have he := q_w_at (ad := ad) (cA := cA) (h := h) ha
  rw [q_cell_obj ht] at he
  subst hR0
  refine va_put hC.1 hC.2.1 hC.2.2.2.2.1 hin ty0 htys hnm hC.2.2.2.1 hC.2.2.2.2.2.2.2.1.1 hP (hC.2.2.2.2.2.1 h) hS a he hcn n hn (hC.2.2.2.2.1 _ hw) (fun _ q => q) hfin hty hnar hfit (by simp [hn]) hd (fun H1 locs1 hP1 _ hS1 => ?_)
  rw [q_w_set (h' := h') ha ?_ h3] at hP1
  · exact k H1 locs1 ls hP1 hS1 hl
  · rw [q_cell_obj ht, q_range_set h1 h2]
theorem qs_puti {i Dn n a : Nat} {x : Int32} (hC : q_Cx p l R s m args c D cA ad A X cc own nL) (hd : decode cc pc = .ok (.putfield i, 3)) (hf : q_pok own i Dn n .int) (hs : q_sub (q_cls a) Dn = true) (k : q_Psi p l e R s m args below meth c cells slots Q D cA ad A nL (pc + 3) L st (q_si h a n x)) : q_Psi p l e R s m args below meth c cells slots Q D cA ad A nL pc L (.int x :: .ref a :: st) h := by
  obtain ⟨C, T, hcn, hn, -, -, -, hft⟩ := hf _ hs
  refine qs_putf hC hd hf hs rfl rfl ?_ (fun j hjn hj => ?_) (fun j _ hj => q_cell_si hj) k
  · unfold q_fv
    rw [show q_ft (q_cls a) n = 0 from hft]
    simp [q_si, q_cv]
  · unfold q_fv
    simp [q_si, hj]
theorem qs_putz {i Dn n a : Nat} {x : Int32} (hC : q_Cx p l R s m args c D cA ad A X cc own nL) (hd : decode cc pc = .ok (.putfield i, 3)) (hf : q_pok own i Dn n .boolean) (hs : q_sub (q_cls a) Dn = true) (hx : x = 0 ∨ x = 1) (k : q_Psi p l e R s m args below meth c cells slots Q D cA ad A nL (pc + 3) L st (q_si h a n x)) : q_Psi p l e R s m args below meth c cells slots Q D cA ad A nL pc L (.int x :: .ref a :: st) h := by
  obtain ⟨C, T, hcn, hn, -, -, -, hft⟩ := hf _ hs
  refine qs_putf hC hd hf hs ?_ ?_ ?_ (fun j hjn hj => ?_) (fun j _ hj => q_cell_si hj) k
  · rcases hx with rfl | rfl <;> rfl
  · rcases hx with rfl | rfl <;> rfl
  · unfold q_fv
    rw [show q_ft (q_cls a) n = 0 from hft]
    simp [q_si, q_cv]
  · unfold q_fv
    simp [q_si, hj]
/-- the one field that moves: it is object 0's, and the only one of its type -/
theorem q_ft2 {a j : Nat} (h : q_ft (q_cls a) j ≠ 0) (h2 : q_ft (q_cls a) j ≠ 1) (hc : q_cls a < 13) (hj : j < q_nf (q_cls a)) : a = 0 ∧ j = 1 := by
  have t1 : ∀ c, c < 13 → ∀ i, i < 47 → i < q_nf c → (q_ft c i = 0 ∨ q_ft c i = 1 ∨ q_ft c i = 2) := by decide +kernel
  have t2 : ∀ b, b < 102 → ∀ i, i < 47 → q_ft (q_cls b) i = 2 → (b = 0 ∧ i = 1) := by decide +kernel
  have hl : a < 102 := (q_cls_obj (by omega)).1
  have hn : ∀ c, c < 13 → q_nf c ≤ 47 := by decide +kernel
  have hj47 := Nat.lt_of_lt_of_le hj (hn _ hc)
  rcases t1 _ hc j hj47 hj with e | e | e
  · exact absurd e h
  · exact absurd e h2
  · exact t2 a hl j hj47 e
theorem q_map_congr {N : Nat} {f g : Nat → Value} (h : ∀ j, j < N → f j = g j) : (List.range N).map f = (List.range N).map g := List.map_congr_left (fun j hj => h j (List.mem_range.mp hj))
theorem q_fv_dyn {ad : Nat → Nat} {h : q_S} {a j : Nat} {z : Option Nat} (ha : a ≠ 0) (hc : q_cls a < 13) (hj : j < q_nf (q_cls a)) : q_fv ad (h.1, h.2.1, z) a j = q_fv ad h a j := by
  unfold q_fv
  by_cases h0 : q_ft (q_cls a) j = 0
  · rw [h0]
    rfl
  · by_cases h1 : q_ft (q_cls a) j = 1
    · rw [h1]
      rfl
    · exact absurd (q_ft2 h0 h1 hc hj).1 ha
theorem q_cell_dyn {ad : Nat → Nat} {cA : Nat → ClassId} {h : q_S} {j : Nat} {z : Option Nat} (hl : j < 102) (hj : j ≠ 0) : q_cell ad cA (h.1, h.2.1, z) j = q_cell ad cA h j := by
  rcases q_ty_cases j with ht | ht | ht | ht | ht | ht
  · rw [q_cell_i ht, q_cell_i ht]
  · rw [q_cell_l ht, q_cell_l ht]
  · rw [q_cell_r ht, q_cell_r ht]
  · rw [q_cell_obj ht, q_cell_obj ht]
    have hlt := q_ty_lt ht (by decide) (by decide)
    have : ∀ b, b < 102 → q_ty b = 3 → q_cls b < 13 := by decide +kernel
    have hc := this j hlt ht
    rw [q_map_congr (fun k hk => q_fv_dyn hj hc hk)]
  · have : ∀ b, b < 102 → q_ty b ≠ 4 := by decide +kernel
    exact absurd ht (this j hl)
  · have : ∀ b, b < 102 → q_ty b ≠ 9 := by decide +kernel
    exact absurd ht (this j hl)
theorem qs_putd {i Dn n a b : Nat} (hC : q_Cx p l R s m args c D cA ad A X cc own nL) (hd : decode cc pc = .ok (.putfield i, 3)) (hf : q_pok own i Dn n (.object "WhirlShafts$Disc")) (hs : q_sub (q_cls a) Dn = true) (k : q_Psi p l e R s m args below meth c cells slots Q D cA ad A nL (pc + 3) L st (h.1, h.2.1, some b)) : q_Psi p l e R s m args below meth c cells slots Q D cA ad A nL pc L (.ref b :: .ref a :: st) h := by
  obtain ⟨C, T, hcn, hn, -, -, -, hft⟩ := hf _ hs
  have hft : q_ft (q_cls a) n = 2 := hft
  obtain ⟨ha, ht, hc⟩ := q_sub_obj hs
  have h01 := q_ft2 (a := a) (j := n) (by rw [hft]; decide) (by rw [hft]; decide) hc hn
  obtain ⟨rfl, rfl⟩ := h01
  refine qs_putf hC hd hf hs rfl rfl ?_ (fun j hjn hj => ?_) (fun j hl hj => q_cell_dyn hl hj) k
  · unfold q_fv
    rw [hft]
    rfl
  · have : ∀ i, i < 12 → i ≠ 1 → (q_ft (q_cls 0) i = 0 ∨ q_ft (q_cls 0) i = 1) := by decide +kernel
    unfold q_fv
    rcases this j hjn hj with e0 | e0
    · rw [e0]
      rfl
    · rw [e0]
      rfl
theorem qs_arc {a b : Nat} {sp dp n : Int32} {i : Nat} {f : q_S → q_A} (hC : q_Cx p l R s m args c D cA ad A X cc own nL) (hd : decode cc pc = .ok (.invokestatic i, 3)) (hw : Cond.methodLink own i arraycopyName ∈ q_TW) (hr : q_arc h a sp b dp n f = some r) (hfr : 1 ≤ R.frames) (hlo : 26 ≤ R.locals) (hst : q_ca st ≤ 8)
    (k : ∀ h', f h' = some r → q_Psi p l e R s m args below meth c cells slots Q D cA ad A nL (pc + 3) L st h') : q_Psi p l e R s m args below meth c cells slots Q D cA ad A nL pc L (.int n :: .int dp :: .ref b :: .int sp :: .ref a :: st) h := by
  intro H locs ls hP hS hl
  unfold q_arc at hr
  split at hr
  · cases hr
  · rename_i hg
    have hg1 : ¬ sp < 0 := fun q => hg (Or.inl q)
    have hg2 : ¬ dp < 0 := fun q => hg (Or.inr (Or.inl q))
    have hg3 : ¬ n < 0 := fun q => hg (Or.inr (Or.inr (Or.inl q)))
    have hg4 : sp.toNatClampNeg + n.toNatClampNeg ≤ q_ln a := Nat.not_lt.mp fun q => hg (Or.inr (Or.inr (Or.inr (Or.inl q))))
    have hg5 : dp.toNatClampNeg + n.toNatClampNeg ≤ q_ln b := Nat.not_lt.mp fun q => hg (Or.inr (Or.inr (Or.inr (Or.inr q))))
    have hml : c.maxLocals = ls.size := hC.2.2.1.trans hl.1.symm
    have hnat := hC.2.2.2.2.1 (.native arraycopyName) q_w_nat
    have hsta := hC.2.2.2.2.1 (.static arraycopyName) q_w_sta
    have hini := hC.2.2.2.2.1 (.initialized "java/lang/System") q_w_sys
    have hloc : ((st.map (q_cv ad)).map fun v => v.category).sum + (nativeFrameWords "java/lang/System" "arraycopy" 5 + 11) ≤ R.locals := by
      rw [q_ca_sum]
      have : nativeFrameWords "java/lang/System" "arraycopy" 5 = 7 := by decide +kernel
      omega
    split at hr
    · rename_i hta htb
      have la := q_ty_lt hta (by decide) (by decide)
      have lb := q_ty_lt htb (by decide) (by decide)
      have hea := q_w_at (ad := ad) (cA := cA) (h := h) la
      have heb := q_w_at (ad := ad) (cA := cA) (h := h) lb
      rw [q_cell_i hta] at hea
      rw [q_cell_i htb] at heb
      refine va_copyi hC.1 hC.2.1 hml hC.2.2.2.1 (hC.2.2.2.2.1 _ hw) hnat hsta hini hC.2.2.2.2.2.2.2.1.1 hP (hC.2.2.2.2.2.1 h) hS a b 0 0 hea heb rfl rfl rfl hg1 hg2 hg3 hg4 hg5 (fun _ _ => rfl) hfr hloc hd (fun H1 locs1 hP1 _ hS1 => ?_)
      rw [q_w_set (h' := q_cpi h a sp.toNatClampNeg b dp.toNatClampNeg n.toNatClampNeg) lb ?_ (fun j _ hj => q_cell_cpi hj)] at hP1
      · exact k _ hr H1 locs1 ls hP1 hS1 hl
      · rw [q_cell_i htb]
        congr 4
        funext j
        simp [q_cpi]
    · rename_i hta htb
      have la := q_ty_lt hta (by decide) (by decide)
      have lb := q_ty_lt htb (by decide) (by decide)
      have hea := q_w_at (ad := ad) (cA := cA) (h := h) la
      have heb := q_w_at (ad := ad) (cA := cA) (h := h) lb
      rw [q_cell_l hta] at hea
      rw [q_cell_l htb] at heb
      refine va_copyl hC.1 hC.2.1 hml hC.2.2.2.1 (hC.2.2.2.2.1 _ hw) hnat hsta hini hC.2.2.2.2.2.2.2.1.1 hP (hC.2.2.2.2.2.1 h) hS a b 1 1 hea heb rfl rfl rfl hg1 hg2 hg3 hg4 hg5 (fun _ _ => rfl) hfr hloc hd (fun H1 locs1 hP1 _ hS1 => ?_)
      rw [q_w_set (h' := q_cpl h a sp.toNatClampNeg b dp.toNatClampNeg n.toNatClampNeg) lb ?_ (fun j _ hj => q_cell_cpl hj)] at hP1
      · exact k _ hr H1 locs1 ls hP1 hS1 hl
      · rw [q_cell_l htb]
        congr 5
        funext j
        simp [q_cpl]
    · cases hr

end QH
