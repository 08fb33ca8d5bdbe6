/-! ===== what a method does, as a function; and that it does so ===== -/
def q_owL : List Nat := [0, 0, 0, 0, 0, 1, 1, 1, 2, 2, 2, 2, 2, 2, 3, 3, 4, 4, 4, 4, 4, 4, 4, 4, 4, 4, 4, 4, 4, 4, 4, 4, 4, 4, 5, 5, 6, 6, 6, 6, 6, 6, 6, 6, 6, 6, 7, 7, 8, 8, 8, 8, 8, 9, 9, 10, 10, 10, 10, 10, 10, 11, 11, 11, 11, 11, 11, 11, 11, 11, 11, 11, 11, 11, 11, 11, 11, 11, 11, 11, 11, 11, 11, 11, 11, 11, 11, 11, 11, 11, 11, 11, 11, 11, 11, 11, 11, 11, 11, 11, 11, 11, 11, 11, 11, 11, 11, 11, 11, 11, 11, 11, 11, 11, 11, 11, 11, 11, 11, 11, 12, 12, 12, 12, 12, 12, 12, 12, 12, 12, 12, 12, 12, 12, 12, 12, 12, 12, 12, 12, 12, 12, 12, 12, 12, 12, 12, 12, 12, 12, 12, 12, 12, 12, 12, 12, 12, 12, 12, 12, 12, 12, 12, 12, 12, 12, 12, 12, 12, 12, 12, 12, 12, 12, 12, 12, 12, 12, 12, 12, 12, 12, 12, 12, 12, 12, 12, 12, 12, 12, 12, 12, 12, 12, 12, 12, 12, 12, 12, 12, 12, 12, 12, 12, 12, 12, 12, 12, 13, 13, 13]
def q_ow (y : Nat) : Nat := (q_owL[y]?).getD 0
def q_sem : Nat → q_O
  | 0 => fun _ _ _ => none
  | d + 1 => fun y h as => if y < 211 ∧ q_ca as ≤ q_mx y then q_go (q_en y) q_X0 (q_sem d) 1000 0 (lv_args 0 as) [] h else none
theorem q_sem_s {d y : Nat} {h : q_S} {as : List Value} (hy : y < 211) (ha : q_ca as ≤ q_mx y) : q_sem (d + 1) y h as = q_go (q_en y) q_X0 (q_sem d) 1000 0 (lv_args 0 as) [] h := by
  rw [q_sem]
  exact if_pos ⟨hy, ha⟩
theorem q_ow_ok : ∀ y, y < 211 → (q_yn y).cls = q_cs (q_ow y) := by decide +kernel
theorem q_ml_ok : ∀ y, y < 211 → (q_en y).2.2.1 = q_mx y := by decide +kernel
theorem q_rt_ok : ∀ y, y < 211 → ((q_en y).2.1 = 0 ∧ q_rt y = none) ∨ ((q_en y).2.1 = 1 ∧ q_rt y = some .int) ∨ ((q_en y).2.1 = 2 ∧ q_rt y = some .boolean) ∨ ((q_en y).2.1 = 3 ∧ q_rt y = some .long) := by decide +kernel
theorem ck_all : ∀ (y : Nat), y < 211 → q_chkM (q_cc y) (q_ow y) (q_fr y) (q_lo y) 0 (q_en y).1 = true
  | 0, _ => ck_0
  | 1, _ => ck_1
  | 2, _ => ck_2
  | 3, _ => ck_3
  | 4, _ => ck_4
  | 5, _ => ck_5
  | 6, _ => ck_6
  | 7, _ => ck_7
  | 8, _ => ck_8
  | 9, _ => ck_9
  | 10, _ => ck_10
  | 11, _ => ck_11
  | 12, _ => ck_12
  | 13, _ => ck_13
  | 14, _ => ck_14
  | 15, _ => ck_15
  | 16, _ => ck_16
  | 17, _ => ck_17
  | 18, _ => ck_18
  | 19, _ => ck_19
  | 20, _ => ck_20
  | 21, _ => ck_21
  | 22, _ => ck_22
  | 23, _ => ck_23
  | 24, _ => ck_24
  | 25, _ => ck_25
  | 26, _ => ck_26
  | 27, _ => ck_27
  | 28, _ => ck_28
  | 29, _ => ck_29
  | 30, _ => ck_30
  | 31, _ => ck_31
  | 32, _ => ck_32
  | 33, _ => ck_33
  | 34, _ => ck_34
  | 35, _ => ck_35
  | 36, _ => ck_36
  | 37, _ => ck_37
  | 38, _ => ck_38
  | 39, _ => ck_39
  | 40, _ => ck_40
  | 41, _ => ck_41
  | 42, _ => ck_42
  | 43, _ => ck_43
  | 44, _ => ck_44
  | 45, _ => ck_45
  | 46, _ => ck_46
  | 47, _ => ck_47
  | 48, _ => ck_48
  | 49, _ => ck_49
  | 50, _ => ck_50
  | 51, _ => ck_51
  | 52, _ => ck_52
  | 53, _ => ck_53
  | 54, _ => ck_54
  | 55, _ => ck_55
  | 56, _ => ck_56
  | 57, _ => ck_57
  | 58, _ => ck_58
  | 59, _ => ck_59
  | 60, _ => ck_60
  | 61, _ => ck_61
  | 62, _ => ck_62
  | 63, _ => ck_63
  | 64, _ => ck_64
  | 65, _ => ck_65
  | 66, _ => ck_66
  | 67, _ => ck_67
  | 68, _ => ck_68
  | 69, _ => ck_69
  | 70, _ => ck_70
  | 71, _ => ck_71
  | 72, _ => ck_72
  | 73, _ => ck_73
  | 74, _ => ck_74
  | 75, _ => ck_75
  | 76, _ => ck_76
  | 77, _ => ck_77
  | 78, _ => ck_78
  | 79, _ => ck_79
  | 80, _ => ck_80
  | 81, _ => ck_81
  | 82, _ => ck_82
  | 83, _ => ck_83
  | 84, _ => ck_84
  | 85, _ => ck_85
  | 86, _ => ck_86
  | 87, _ => ck_87
  | 88, _ => ck_88
  | 89, _ => ck_89
  | 90, _ => ck_90
  | 91, _ => ck_91
  | 92, _ => ck_92
  | 93, _ => ck_93
  | 94, _ => ck_94
  | 95, _ => ck_95
  | 96, _ => ck_96
  | 97, _ => ck_97
  | 98, _ => ck_98
  | 99, _ => ck_99
  | 100, _ => ck_100
  | 101, _ => ck_101
  | 102, _ => ck_102
  | 103, _ => ck_103
  | 104, _ => ck_104
  | 105, _ => ck_105
  | 106, _ => ck_106
  | 107, _ => ck_107
  | 108, _ => ck_108
  | 109, _ => ck_109
  | 110, _ => ck_110
  | 111, _ => ck_111
  | 112, _ => ck_112
  | 113, _ => ck_113
  | 114, _ => ck_114
  | 115, _ => ck_115
  | 116, _ => ck_116
  | 117, _ => ck_117
  | 118, _ => ck_118
  | 119, _ => ck_119
  | 120, _ => ck_120
  | 121, _ => ck_121
  | 122, _ => ck_122
  | 123, _ => ck_123
  | 124, _ => ck_124
  | 125, _ => ck_125
  | 126, _ => ck_126
  | 127, _ => ck_127
  | 128, _ => ck_128
  | 129, _ => ck_129
  | 130, _ => ck_130
  | 131, _ => ck_131
  | 132, _ => ck_132
  | 133, _ => ck_133
  | 134, _ => ck_134
  | 135, _ => ck_135
  | 136, _ => ck_136
  | 137, _ => ck_137
  | 138, _ => ck_138
  | 139, _ => ck_139
  | 140, _ => ck_140
  | 141, _ => ck_141
  | 142, _ => ck_142
  | 143, _ => ck_143
  | 144, _ => ck_144
  | 145, _ => ck_145
  | 146, _ => ck_146
  | 147, _ => ck_147
  | 148, _ => ck_148
  | 149, _ => ck_149
  | 150, _ => ck_150
  | 151, _ => ck_151
  | 152, _ => ck_152
  | 153, _ => ck_153
  | 154, _ => ck_154
  | 155, _ => ck_155
  | 156, _ => ck_156
  | 157, _ => ck_157
  | 158, _ => ck_158
  | 159, _ => ck_159
  | 160, _ => ck_160
  | 161, _ => ck_161
  | 162, _ => ck_162
  | 163, _ => ck_163
  | 164, _ => ck_164
  | 165, _ => ck_165
  | 166, _ => ck_166
  | 167, _ => ck_167
  | 168, _ => ck_168
  | 169, _ => ck_169
  | 170, _ => ck_170
  | 171, _ => ck_171
  | 172, _ => ck_172
  | 173, _ => ck_173
  | 174, _ => ck_174
  | 175, _ => ck_175
  | 176, _ => ck_176
  | 177, _ => ck_177
  | 178, _ => ck_178
  | 179, _ => ck_179
  | 180, _ => ck_180
  | 181, _ => ck_181
  | 182, _ => ck_182
  | 183, _ => ck_183
  | 184, _ => ck_184
  | 185, _ => ck_185
  | 186, _ => ck_186
  | 187, _ => ck_187
  | 188, _ => ck_188
  | 189, _ => ck_189
  | 190, _ => ck_190
  | 191, _ => ck_191
  | 192, _ => ck_192
  | 193, _ => ck_193
  | 194, _ => ck_194
  | 195, _ => ck_195
  | 196, _ => ck_196
  | 197, _ => ck_197
  | 198, _ => ck_198
  | 199, _ => ck_199
  | 200, _ => ck_200
  | 201, _ => ck_201
  | 202, _ => ck_202
  | 203, _ => ck_203
  | 204, _ => ck_204
  | 205, _ => ck_205
  | 206, _ => ck_206
  | 207, _ => ck_207
  | 208, _ => ck_208
  | 209, _ => ck_209
  | 210, _ => ck_210
  | n + 211, h => absurd h (by omega)
theorem q_args (ad : Nat → Nat) : ∀ (as : List Value) (i : Nat), lv_args i (as.map (q_cv ad)) = q_ml ad (lv_args i as)
  | [], _ => rfl
  | v :: as, i => by
    rw [List.map_cons, lv_args, lv_args, q_cv_cat, q_args ad as]
    rfl
theorem q_sl_len (ad : Nat → Nat) : ∀ (as : List Value), (lg_sl (as.map (q_cv ad))).length = q_ca as
  | [] => rfl
  | v :: as => by
    have ih := q_sl_len ad as
    unfold lg_sl at ih ⊢
    rw [List.map_cons, List.flatMap_cons, List.length_append, ih]
    show _ + q_ca as = v.category + q_ca as
    congr 1
    cases v <;> rfl
theorem q_ofW {l : Launch} {y : MethodName} {ws ws' : List Cond} {rm : Room} {Pc : Array Value → State → Prop} {Qc : Array Value → State → Outcome → State → Prop} {mc ms : Nat} {free : Addr → Prop} {cc : ByteArray} {maxL : Nat} {ret : Option FieldType}
    (hy : plainFor y = true) (hw : ws = Cond.code y cc maxL ret :: ws')
    (body : ∀ p e s m args below meth c s₁, BodyLoose p l y (headSpec ws rm) cc maxL ret e s m args below meth c s₁ → c.maxLocals = maxL → Pc args s →
      W p l e (headSpec ws rm).room s m args below meth c s.heap [] 0 0 (MQ below Qc args s mc ms free) (entryFrame m args maxL)) : Met l y ws rm Pc Qc mc ms free := by
  refine MetFree.of_bodySF (code := cc) (maxLocals := maxL) (ret := ret) hy ?_ ?_
  · intro args s m h hn
    obtain ⟨meth, c, h1, h2, h3, h4, h5, h6, -, -⟩ := Cond.code_spec hn (atoms_spec (ws := ws) h _ (by rw [hw]; exact List.mem_cons_self))
    exact ⟨meth, c, h1, h2, h3, h4, h5, h6⟩
  · intro p e s m args below meth c s₁ B hml hP _
    have hh0 : s₁.heap = s.heap := by rw [B.state]; rfl
    obtain ⟨t, a1, o, b1, b2, b3⟩ := body p e s m args below meth c s₁ B hml hP s₁ hh0 (Stand.of_body B)
    exact ⟨t, o, a1, b1, b2, ⟨b3.1, b3.2⟩⟩
theorem q_met (l : Launch) (D : va_G) (cA : Nat → ClassId) (ad : Nat → Nat) : ∀ (d y : Nat) (h : q_S) (as : List Value) (r : q_S × Option Value), q_sem d y h as = some r → q_Met l D cA ad y h as r := by
  intro d
  induction d with
  | zero =>
    intro y h as r hr
    cases hr
  | succ d ih =>
    intro y h as r hr sz
    rw [q_sem] at hr
    dsimp only at hr
    split at hr
    · rename_i hya
      obtain ⟨hy, hca⟩ := hya
      have hY := q_okY_all y hy
      refine q_ofW (cc := q_cc y) (maxL := q_mx y) (ret := q_rt y) hY.1 rfl ?_
      intro p e s m args below meth c s₁ B hml hv
      obtain ⟨rfl, hsz, hP, hD0, hWd⟩ := hv
      subst hsz
      have hts := atoms_spec (ws := q_wy y) B.pre
      have hown : s.vm.findClass (q_yn y).cls = some m.cls := findClass_of_methodNamed B.named
      have hlocks := B.notSynchronized
      have hDs := hD0.self (sz := s.heap.size)
      have hS : va_S (va_A (q_w ad cA h) s.heap.size) s.heap s.heap [] := va_S.rf
      have hC : q_Cx p l (q_rm y) s m (as.map (q_cv ad)).toArray c D cA ad (va_A (q_w ad cA h) s.heap.size) q_X0 (q_cc y) (q_yn y).cls (q_mx y) :=
        ⟨B.exec, B.bytes, hml, hown, fun w hw => hts w (List.mem_cons_of_mem _ hw), fun h' => q_D_any h' hDs, fun q hq => Or.inr hq, hWd, hWd.2.2.2.2.1⟩
      have hl := lv_entry (as.map (q_cv ad)) (n := q_mx y) (by rw [q_sl_len]; exact hca)
      rw [lg_entry_eq]
      generalize (lg_sl (as.map (q_cv ad)) ++ List.replicate (q_mx y - (lg_sl (as.map (q_cv ad))).length) Slot.unset).toArray = ls at hl ⊢
      rw [q_args] at hl
      refine q_go_ok hC (q_ml_ok y hy) (ck_all y hy) (q_ow_ok y hy) rfl rfl ⟨Nat.le_refl 0, Nat.le_refl 0⟩ ih ?_ 1000 0 (lv_args 0 as) [] h hr s.heap [] ls hP hS hl
      intro pc st H locs ls hrt hP1 hS1
      have hq : ∀ t : State, t.heap = H → s.WarmedH t.vm → q_Qc D cA ad h s.heap.size r (as.map (q_cv ad)).toArray s (.returned (r.2.map (q_cv ad))) t := fun t ht _ => ⟨rfl, by rw [ht]; exact hP1, hS1.F ht⟩
      have hret := B.returns
      rcases q_rt_ok y hy with ⟨e1, e2⟩ | ⟨e1, e2⟩ | ⟨e1, e2⟩ | ⟨e1, e2⟩
      · rw [e2] at hret
        rcases hrt with ⟨q1, -⟩ | ⟨q1, -⟩ | ⟨q1, -⟩ | ⟨-, q2, rfl, q4⟩
        · rw [e1] at q1; cases q1
        · rw [e1] at q1; cases q1
        · rw [e1] at q1; cases q1
        · rw [q4] at hq
          exact W.vret B.exec B.bytes hret hq hS1.2.2 q2
      · rw [e2] at hret
        rcases hrt with ⟨-, q2, x, rfl, q4⟩ | ⟨q1, -⟩ | ⟨q1, -⟩ | ⟨q1, -⟩
        · rw [q4] at hq
          exact W.iret B.exec B.bytes hret hq hS1.2.2 q2
        · rw [e1] at q1; cases q1
        · rw [e1] at q1; cases q1
        · rw [e1] at q1; cases q1
      · rw [e2] at hret
        rcases hrt with ⟨q1, -⟩ | ⟨-, q2, x, rfl, q4, q5⟩ | ⟨q1, -⟩ | ⟨q1, -⟩
        · rw [e1] at q1; cases q1
        · rw [q4] at hq
          exact W.zret B.exec B.bytes hret (by rcases q5 with rfl | rfl <;> rfl) hq hS1.2.2 q2
        · rw [e1] at q1; cases q1
        · rw [e1] at q1; cases q1
      · rw [e2] at hret
        rcases hrt with ⟨q1, -⟩ | ⟨q1, -⟩ | ⟨-, q2, x, rfl, q4⟩ | ⟨q1, -⟩
        · rw [e1] at q1; cases q1
        · rw [e1] at q1; cases q1
        · rw [q4] at hq
          exact W.lret B.exec B.bytes hret hq hS1.2.2 q2
        · rw [e1] at q1; cases q1
    · cases hr
