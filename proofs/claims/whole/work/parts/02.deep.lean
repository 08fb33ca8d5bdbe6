/-! ===== the class and the reference as data: a small machine over named cells =====
A cell has a number; 'q_S' is what all cells hold: ints, longs, and the one reference that moves. -/
abbrev q_L : Type := List (Nat × Value)
abbrev q_S : Type := (Nat → Nat → Int32) × (Nat → Nat → Int64) × Option Nat
abbrev q_A : Type := Option (q_S × Option Value)
abbrev q_I : Type := Instr × List Nat × List (Int32 × Nat)
abbrev q_T : Type := List (List (Option q_I))
/-- a method: its table, what it returns (0 nothing, 1 int, 2 boolean, 3 long), its locals, where it is cut -/
abbrev q_E : Type := q_T × Nat × Nat × List (Nat × List Nat)
abbrev q_X : Type := Nat → Option (Nat × (Nat → Int32))
abbrev q_O : Type := Nat → q_S → List Value → q_A
abbrev q_K : Type := Nat → q_L → List Value → q_S → q_A
def q_at2 {α : Type} (d : α) (T : List (List α)) (i : Nat) : α := match T[i / 16]? with
  | some r => (match r[i % 16]? with | some x => x | none => d)
  | none => d
def q_mem (pc : Nat) : List (Nat × List Nat) → Option (List Nat)
  | [] => none
  | c :: r => match Nat.beq c.1 pc with
    | true => some c.2
    | false => q_mem pc r
def q_lk (i : Nat) : q_L → Option Value
  | [] => none
  | q :: t => match Nat.beq q.1 i with
    | true => some q.2
    | false => q_lk i t
/-- the locals that are kept at a cut, in their order -/
def q_nrm : List Nat → q_L → q_L
  | [], _ => []
  | i :: r, L => match q_lk i L with
    | some v => (i, v) :: q_nrm r L
    | none => q_nrm r L
def q_st1 (L : q_L) (i : Nat) (v : Value) : q_L := (i, v) :: L.filter (fun q => !(q.1 == i) && !(q.1 + 1 == i && q.2.category == 2))
def q_st2 (L : q_L) (i : Nat) (v : Value) : q_L := (i, v) :: L.filter (fun q => !(q.1 == i) && (!(q.1 == i + 1) && !(q.1 + 1 == i && q.2.category == 2)))
def q_rv : Option Nat → Value
  | none => .null
  | some a => .ref a
def q_si (h : q_S) (a i : Nat) (x : Int32) : q_S := (fun b j => if b = a ∧ j = i then x else h.1 b j, h.2.1, h.2.2)
def q_sl (h : q_S) (a i : Nat) (x : Int64) : q_S := (h.1, fun b j => if b = a ∧ j = i then x else h.2.1 b j, h.2.2)
def q_cpi (h : q_S) (a sp b dp n : Nat) : q_S := (fun c j => if c = b then va_cpy (h.1 a) (h.1 b) sp dp n j else h.1 c j, h.2.1, h.2.2)
def q_cpl (h : q_S) (a sp b dp n : Nat) : q_S := (h.1, fun c j => if c = b then va_cpy (h.2.1 a) (h.2.1 b) sp dp n j else h.2.1 c j, h.2.2)
-- what stands on the stack, what stands in the locals
def q_i (st : List Value) (f : Int32 → List Value → q_A) : q_A := match st with
  | .int x :: r => f x r
  | _ => none
def q_ii (st : List Value) (f : Int32 → Int32 → List Value → q_A) : q_A := match st with
  | .int y :: .int x :: r => f x y r
  | _ => none
def q_l (st : List Value) (f : Int64 → List Value → q_A) : q_A := match st with
  | .long x :: r => f x r
  | _ => none
def q_ll (st : List Value) (f : Int64 → Int64 → List Value → q_A) : q_A := match st with
  | .long y :: .long x :: r => f x y r
  | _ => none
def q_li (st : List Value) (f : Int64 → Int32 → List Value → q_A) : q_A := match st with
  | .int y :: .long x :: r => f x y r
  | _ => none
def q_r (st : List Value) (f : Nat → List Value → q_A) : q_A := match st with
  | .ref a :: r => f a r
  | _ => none
def q_ri (st : List Value) (f : Nat → Int32 → List Value → q_A) : q_A := match st with
  | .int i :: .ref a :: r => f a i r
  | _ => none
def q_rr (st : List Value) (f : Nat → Nat → List Value → q_A) : q_A := match st with
  | .ref b :: .ref a :: r => f a b r
  | _ => none
def q_rii (st : List Value) (f : Nat → Int32 → Int32 → List Value → q_A) : q_A := match st with
  | .int x :: .int i :: .ref a :: r => f a i x r
  | _ => none
def q_ril (st : List Value) (f : Nat → Int32 → Int64 → List Value → q_A) : q_A := match st with
  | .long x :: .int i :: .ref a :: r => f a i x r
  | _ => none
def q_ac (st : List Value) (f : Nat → Int32 → Nat → Int32 → Int32 → List Value → q_A) : q_A := match st with
  | .int n :: .int dp :: .ref b :: .int sp :: .ref a :: r => f a sp b dp n r
  | _ => none
def q_v (st : List Value) (f : Value → List Value → q_A) : q_A := match st with
  | v :: r => (match Nat.beq v.category 1 with | true => f v r | false => none)
  | _ => none
def q_vv (st : List Value) (f : Value → Value → List Value → q_A) : q_A := match st with
  | v :: w :: r => (match Nat.beq v.category 1 && Nat.beq w.category 1 with | true => f v w r | false => none)
  | _ => none
def q_gi (L : q_L) (i : Nat) (f : Int32 → q_A) : q_A := match q_lk i L with
  | some (.int x) => f x
  | _ => none
def q_gl (L : q_L) (i : Nat) (f : Int64 → q_A) : q_A := match q_lk i L with
  | some (.long x) => f x
  | _ => none
def q_gr (L : q_L) (i : Nat) (f : Nat → q_A) : q_A := match q_lk i L with
  | some (.ref x) => f x
  | _ => none
def q_b (b : Bool) (f : q_A) : q_A := match b with
  | true => f
  | false => none
/-- a place of an array of n -/
def q_ix (i : Int32) (n : Nat) (f : Nat → q_A) : q_A := if i < 0 ∨ n ≤ i.toNatClampNeg then none else f i.toNatClampNeg
/-- what a call gave -/
def q_c0 (r : q_A) (f : q_S → q_A) : q_A := match r with
  | some (h, none) => f h
  | _ => none
def q_c1 (r : q_A) (f : q_S → Int32 → q_A) : q_A := match r with
  | some (h, some (.int v)) => f h v
  | _ => none
def q_c3 (r : q_A) (f : q_S → Int64 → q_A) : q_A := match r with
  | some (h, some (.long v)) => f h v
  | _ => none
def q_cl (rk : Nat) (r : q_A) (st : List Value) (f : List Value → q_S → q_A) : q_A := match rk with
  | 0 => q_c0 r (fun h => f st h)
  | 1 => q_c1 r (fun h v => f (.int v :: st) h)
  | _ => q_c3 r (fun h v => f (.long v :: st) h)
def q_pop : Nat → List Value → List Value → (List Value → List Value → q_A) → q_A
  | 0, as, st, f => f as st
  | n + 1, as, v :: st, f => q_pop n (v :: as) st f
  | _ + 1, _, [], _ => none
def q_ca : List Value → Nat
  | [] => 0
  | v :: r => v.category + q_ca r
def q_sw : List (Int32 × Nat) → Nat → Int32 → (Nat → q_A) → q_A
  | [], d, _, f => f d
  | q :: r, d, x, f => if x = q.1 then f q.2 else q_sw r d x f
-- the cells
def q_ty (i : Nat) : Nat := q_at2 9 [[3, 2, 3, 3, 3, 3, 3, 0, 0, 0, 0, 0, 3, 0, 0, 0], [0, 0, 3, 0, 0, 0, 0, 0, 3, 0, 0, 0, 0, 0, 3, 0], [0, 0, 3, 0, 0, 0, 3, 0, 0, 0, 0, 3, 1, 1, 1, 2], [1, 1, 1, 1, 1, 1, 1, 1, 1, 3, 0, 0, 2, 3, 3, 3], [1, 1, 1, 3, 0, 0, 0, 0, 0, 0, 0, 0, 0, 0, 1, 0], [0, 0, 0, 0, 0, 0, 0, 1, 1, 0, 0, 0, 0, 0, 0, 0], [0, 0, 0, 0, 0, 0, 4, 4, 4, 4]] i
def q_ln (i : Nat) : Nat := q_at2 0 [[0, 5, 0, 0, 0, 0, 0, 24, 24, 24, 24, 24, 0, 8, 8, 8], [8, 8, 0, 8, 8, 8, 8, 8, 0, 8, 8, 8, 8, 8, 0, 8], [8, 8, 0, 8, 8, 8, 0, 12, 12, 12, 12, 0, 8, 8, 8, 9], [9, 9, 9, 9, 9, 9, 9, 9, 9, 0, 80, 3, 3, 0, 0, 0], [40, 40, 40, 0, 8, 8, 8, 8, 8, 8, 8, 8, 8, 8, 30, 9], [9, 12, 12, 12, 12, 3, 3, 120, 40, 8, 8, 8, 80, 40, 40, 40], [40, 24, 140, 8, 8, 8]] i
def q_cls (i : Nat) : Nat := q_at2 99 [[11, 99, 2, 7, 3, 1, 9, 99, 99, 99, 99, 99, 4, 99, 99, 99], [99, 99, 4, 99, 99, 99, 99, 99, 4, 99, 99, 99, 99, 99, 5, 99], [99, 99, 5, 99, 99, 99, 0, 99, 99, 99, 99, 6, 99, 99, 99, 99], [99, 99, 99, 99, 99, 99, 99, 99, 99, 10, 99, 99, 99, 8, 8, 8], [99, 99, 99, 12, 99, 99, 99, 99, 99, 99, 99, 99, 99, 99, 99, 99], [99, 99, 99, 99, 99, 99, 99, 99, 99, 99, 99, 99, 99, 99, 99, 99], [99, 99, 99, 99, 99, 99]] i
def q_ak (i : Nat) : Nat := q_at2 9 [[3, 2, 3, 3, 3, 3, 3, 0, 0, 0, 0, 0, 3, 0, 0, 0], [0, 0, 3, 0, 0, 0, 0, 0, 3, 0, 0, 0, 0, 0, 3, 0], [0, 0, 3, 0, 0, 0, 3, 0, 0, 0, 0, 3, 1, 1, 1, 4], [1, 1, 1, 1, 1, 1, 1, 1, 1, 3, 0, 0, 3, 3, 3, 3], [1, 1, 1, 3, 0, 0, 0, 0, 0, 0, 0, 0, 0, 0, 1, 0], [0, 0, 0, 0, 0, 0, 0, 1, 1, 0, 0, 0, 0, 0, 0, 0], [0, 0, 0, 0, 0, 0]] i
def q_rfT : List (List (List Nat)) := [[[1, 0, 12, 18, 24, 0, 30, 34, 38, 43, 57, 60], [2, 3, 4, 5, 6], [7], [8], [9], [10], [11], [], [], [], [], [], [1, 13, 14, 15, 16, 17], [], [], []], [[], [], [1, 19, 20, 21, 22, 23], [], [], [], [], [], [1, 25, 26, 27, 28, 29], [], [], [], [], [], [31, 32, 33], []], [[], [], [35, 36, 37], [], [], [], [39, 40, 41, 42], [], [], [], [], [0, 44, 45, 46, 47], [], [], [], [48, 49, 50, 51, 52, 53, 54, 55, 56]], [[], [], [], [], [], [], [], [], [], [58, 0, 0, 59], [], [], [61, 62, 63], [64], [65], [66]], [[], [], [], [0, 0, 0, 68, 69, 70, 71, 72, 73, 74, 75, 76, 77, 78, 79, 80, 81, 82, 83, 84, 0, 0, 85, 86, 87, 88, 0, 89, 90, 91, 92, 93, 94, 95, 96, 0, 0, 0, 97, 0, 98, 99, 100, 101], [], [], [], [], [], [], [], [], [], [], [], []], [[], [], [], [], [], [], [], [], [], [], [], [], [], [], [], []], [[], [], [], [], [], []]]
def q_rf (a k : Nat) : Nat := ((q_at2 [] q_rfT a)[k]?).getD 0
def q_subT : List (List Nat) := [[0], [1, 2, 7], [2], [2, 3], [4], [5], [6], [2, 7], [8], [2, 3, 9], [10], [11], [12]]
def q_memb (n : Nat) : List Nat → Bool
  | [] => false
  | c :: r => match Nat.beq c n with
    | true => true
    | false => q_memb n r
/-- class c is D or under it -/
def q_sub (c D : Nat) : Bool := q_memb D ((q_subT[c]?).getD [])
def q_vtT : List (List (Option Nat)) := [[none, some 8, some 8, some 8, none, none, none, some 8, none, some 8, none, none, none], [none, some 9, some 9, some 9, none, none, none, some 9, none, some 9, none, none, none], [none, some 5, some 10, some 14, none, none, none, some 46, none, some 53, none, none, none], [none, some 7, some 11, some 15, none, none, none, some 11, none, some 15, none, none, none], [none, some 47, some 12, some 12, none, none, none, some 47, none, some 54, none, none, none], [none, some 6, some 13, some 13, none, none, none, some 13, none, some 13, none, none, none]]
def q_vt (x c : Nat) : Option Nat := match q_vtT[x]? with
  | some r => (match r[c]? with | some y => y | none => none)
  | none => none
def q_ald (X : q_X) (h : q_S) (a : Nat) (i : Int32) (f : Int32 → q_A) : q_A := match q_ty a with
  | 0 => q_ix i (q_ln a) (fun j => f (h.1 a j))
  | 4 => (match X a with
    | some (n, g) => q_ix i n (fun j => f (g j))
    | none => none)
  | _ => none
def q_len (X : q_X) (a : Nat) (f : Int32 → q_A) : q_A := match q_ty a with
  | 0 => f (Int32.ofNat (q_ln a))
  | 1 => f (Int32.ofNat (q_ln a))
  | 2 => f (Int32.ofNat (q_ln a))
  | 4 => (match X a with
    | some (n, _) => f (Int32.ofNat n)
    | none => none)
  | _ => none
def q_arc (h : q_S) (a : Nat) (sp : Int32) (b : Nat) (dp n : Int32) (f : q_S → q_A) : q_A :=
  if sp < 0 ∨ dp < 0 ∨ n < 0 ∨ q_ln a < sp.toNatClampNeg + n.toNatClampNeg ∨ q_ln b < dp.toNatClampNeg + n.toNatClampNeg then none else
  match q_ty a, q_ty b with
  | 0, 0 => f (q_cpi h a sp.toNatClampNeg b dp.toNatClampNeg n.toNatClampNeg)
  | 1, 1 => f (q_cpl h a sp.toNatClampNeg b dp.toNatClampNeg n.toNatClampNeg)
  | _, _ => none
/-- one instruction; k goes on -/
def q_body (e : q_E) (X : q_X) (O : q_O) (k : q_K) (pc : Nat) (L : q_L) (st : List Value) (h : q_S) : q_A :=
  match q_at2 none e.1 pc with
  | none => none
  | some (i, au, sw) =>
  match i with
  | .aload_n n => q_gr L n.val (fun a => k (pc + 1) L (.ref a :: st) h)
  | .aload n => q_gr L n (fun a => k (pc + 2) L (.ref a :: st) h)
  | .iload_n n => q_gi L n.val (fun x => k (pc + 1) L (.int x :: st) h)
  | .iload n => q_gi L n (fun x => k (pc + 2) L (.int x :: st) h)
  | .lload_n n => q_gl L n.val (fun x => k (pc + 1) L (.long x :: st) h)
  | .lload n => q_gl L n (fun x => k (pc + 2) L (.long x :: st) h)
  | .astore_n n => q_r st (fun a r => q_b (Nat.blt n.val e.2.2.1) (k (pc + 1) (q_st1 L n.val (.ref a)) r h))
  | .astore n => q_r st (fun a r => q_b (Nat.blt n e.2.2.1) (k (pc + 2) (q_st1 L n (.ref a)) r h))
  | .istore_n n => q_i st (fun x r => q_b (Nat.blt n.val e.2.2.1) (k (pc + 1) (q_st1 L n.val (.int x)) r h))
  | .istore n => q_i st (fun x r => q_b (Nat.blt n e.2.2.1) (k (pc + 2) (q_st1 L n (.int x)) r h))
  | .lstore_n n => q_l st (fun x r => q_b (Nat.blt (n.val + 1) e.2.2.1) (k (pc + 1) (q_st2 L n.val (.long x)) r h))
  | .lstore n => q_l st (fun x r => q_b (Nat.blt (n + 1) e.2.2.1) (k (pc + 2) (q_st2 L n (.long x)) r h))
  | .iinc n _ => (match sw with
    | [q] => q_gi L n (fun x => q_b (Nat.blt n e.2.2.1) (k (pc + 3) (q_st1 L n (.int (x + q.1))) st h))
    | _ => none)
  | .iconst _ => (match sw with
    | [q] => k (pc + 1) L (.int q.1 :: st) h
    | _ => none)
  | .bipush _ => (match sw with
    | [q] => k (pc + 2) L (.int q.1 :: st) h
    | _ => none)
  | .sipush _ => (match sw with
    | [q] => k (pc + 3) L (.int q.1 :: st) h
    | _ => none)
  | .lconst n => k (pc + 1) L (.long (Int64.ofNat n.val) :: st) h
  | .ldc2_w _ => (match au with
    | [c] => k (pc + 3) L (.long (Int64.ofNat c) :: st) h
    | _ => none)
  | .iadd => q_ii st (fun x y r => k (pc + 1) L (.int (x + y) :: r) h)
  | .isub => q_ii st (fun x y r => k (pc + 1) L (.int (x - y) :: r) h)
  | .imul => q_ii st (fun x y r => k (pc + 1) L (.int (x * y) :: r) h)
  | .iand => q_ii st (fun x y r => k (pc + 1) L (.int (x &&& y) :: r) h)
  | .ior => q_ii st (fun x y r => k (pc + 1) L (.int (x ||| y) :: r) h)
  | .ixor => q_ii st (fun x y r => k (pc + 1) L (.int (x ^^^ y) :: r) h)
  | .idiv => q_ii st (fun x y r => if y = 0 then none else k (pc + 1) L (.int (x / y) :: r) h)
  | .irem => q_ii st (fun x y r => if y = 0 then none else k (pc + 1) L (.int (x - x / y * y) :: r) h)
  | .ineg => q_i st (fun x r => k (pc + 1) L (.int (-x) :: r) h)
  | .ishl => q_ii st (fun x y r => k (pc + 1) L (.int (x <<< (y &&& 31)) :: r) h)
  | .ishr => q_ii st (fun x y r => k (pc + 1) L (.int (x >>> (y &&& 31)) :: r) h)
  | .ladd => q_ll st (fun x y r => k (pc + 1) L (.long (x + y) :: r) h)
  | .lsub => q_ll st (fun x y r => k (pc + 1) L (.long (x - y) :: r) h)
  | .lmul => q_ll st (fun x y r => k (pc + 1) L (.long (x * y) :: r) h)
  | .land => q_ll st (fun x y r => k (pc + 1) L (.long (x &&& y) :: r) h)
  | .lor => q_ll st (fun x y r => k (pc + 1) L (.long (x ||| y) :: r) h)
  | .lxor => q_ll st (fun x y r => k (pc + 1) L (.long (x ^^^ y) :: r) h)
  | .ldiv => q_ll st (fun x y r => if y = 0 then none else k (pc + 1) L (.long (x / y) :: r) h)
  | .lrem => q_ll st (fun x y r => if y = 0 then none else k (pc + 1) L (.long (x - x / y * y) :: r) h)
  | .lshl => q_li st (fun x y r => k (pc + 1) L (.long (x <<< (y.toInt64 &&& 63)) :: r) h)
  | .lshr => q_li st (fun x y r => k (pc + 1) L (.long (x >>> (y.toInt64 &&& 63)) :: r) h)
  | .lcmp => q_ll st (fun x y r => k (pc + 1) L (.int (lg_cmp x y) :: r) h)
  | .i2l => q_i st (fun x r => k (pc + 1) L (.long x.toInt64 :: r) h)
  | .l2i => q_l st (fun x r => k (pc + 1) L (.int x.toInt32 :: r) h)
  | .i2b => q_i st (fun x r => k (pc + 1) L (.int x.toInt8.toInt32 :: r) h)
  | .dup => q_v st (fun v r => k (pc + 1) L (v :: v :: r) h)
  | .dup_x1 => q_vv st (fun v w r => k (pc + 1) L (v :: w :: v :: r) h)
  | .dup2 => q_vv st (fun v w r => k (pc + 1) L (v :: w :: v :: w :: r) h)
  | .pop => q_v st (fun _ r => k (pc + 1) L r h)
  | .goto _ => (match au with
    | [t] => k t L st h
    | _ => none)
  | .ifCond c _ => (match au with
    | [t] => q_i st (fun x r => match c with
      | .eq => if x = 0 then k t L r h else k (pc + 3) L r h
      | .ne => if x = 0 then k (pc + 3) L r h else k t L r h
      | .lt => if x < 0 then k t L r h else k (pc + 3) L r h
      | .ge => if x < 0 then k (pc + 3) L r h else k t L r h
      | .gt => if 0 < x then k t L r h else k (pc + 3) L r h
      | .le => if 0 < x then k (pc + 3) L r h else k t L r h)
    | _ => none)
  | .if_icmp c _ => (match au with
    | [t] => q_ii st (fun x y r => match c with
      | .eq => if x = y then k t L r h else k (pc + 3) L r h
      | .ne => if x = y then k (pc + 3) L r h else k t L r h
      | .lt => if x < y then k t L r h else k (pc + 3) L r h
      | .ge => if x < y then k (pc + 3) L r h else k t L r h
      | .gt => if y < x then k t L r h else k (pc + 3) L r h
      | .le => if y < x then k (pc + 3) L r h else k t L r h)
    | _ => none)
  | .ifnull _ => (match au, st with
    | [t], .null :: r => k t L r h
    | [_], .ref _ :: r => k (pc + 3) L r h
    | _, _ => none)
  | .tableswitch _ _ _ _ => (match au with
    | [d] => q_i st (fun x r => q_sw sw d x (fun t => k t L r h))
    | _ => none)
  | .lookupswitch _ _ => (match au with
    | [d] => q_i st (fun x r => q_sw sw d x (fun t => k t L r h))
    | _ => none)
  | .getstatic _ => (match au with
    | [a] => k (pc + 3) L (.ref a :: st) h
    | _ => none)
  | .getfield _ => (match au with
    | [D, n, t] => q_r st (fun a r => q_b (q_sub (q_cls a) D) (match t with
      | 0 => k (pc + 3) L (.int (h.1 a n) :: r) h
      | 1 => k (pc + 3) L (.ref (q_rf a n) :: r) h
      | _ => k (pc + 3) L (q_rv h.2.2 :: r) h))
    | _ => none)
  | .putfield _ => (match au with
    | [D, n, t] => (match t with
      | 0 => q_ri st (fun a x r => q_b (q_sub (q_cls a) D) (k (pc + 3) L r (q_si h a n x)))
      | 4 => q_ri st (fun a x r => q_b (q_sub (q_cls a) D) (if x = 0 ∨ x = 1 then k (pc + 3) L r (q_si h a n x) else none))
      | _ => q_rr st (fun a b r => q_b (q_sub (q_cls a) D) (k (pc + 3) L r (h.1, h.2.1, some b))))
    | _ => none)
  | .iaload => q_ri st (fun a i r => q_ald X h a i (fun x => k (pc + 1) L (.int x :: r) h))
  | .laload => q_ri st (fun a i r => q_b (Nat.beq (q_ty a) 1) (q_ix i (q_ln a) (fun j => k (pc + 1) L (.long (h.2.1 a j) :: r) h)))
  | .aaload => q_ri st (fun a i r => q_b (Nat.beq (q_ty a) 2) (q_ix i (q_ln a) (fun j => k (pc + 1) L (.ref (q_rf a j) :: r) h)))
  | .iastore => q_rii st (fun a i x r => q_b (Nat.beq (q_ty a) 0) (q_ix i (q_ln a) (fun j => k (pc + 1) L r (q_si h a j x))))
  | .lastore => q_ril st (fun a i x r => q_b (Nat.beq (q_ty a) 1) (q_ix i (q_ln a) (fun j => k (pc + 1) L r (q_sl h a j x))))
  | .arraylength => q_r st (fun a r => q_len X a (fun x => k (pc + 1) L (.int x :: r) h))
  | .invokestatic _ => (match au with
    | [y, n, rk] => q_pop n [] st (fun as r => q_b (Nat.ble (q_ca r) 8) (q_cl rk (O y h as) r (fun s h => k (pc + 3) L s h)))
    | [_] => q_ac st (fun a sp b dp n r => q_b (Nat.ble (q_ca r) 8) (q_arc h a sp b dp n (fun h => k (pc + 3) L r h)))
    | _ => none)
  | .invokespecial _ => (match au with
    | [y, n, rk, D] => q_pop n [] st (fun as r => q_r r (fun b r => q_b (q_sub (q_cls b) D && Nat.ble (q_ca r) 8) (q_cl rk (O y h (.ref b :: as)) r (fun s h => k (pc + 3) L s h))))
    | _ => none)
  | .invokevirtual _ => (match au with
    | [y, n, rk, D] => q_pop n [] st (fun as r => q_r r (fun b r => q_b (Nat.beq (q_cls b) D && Nat.ble (q_ca r) 8) (q_cl rk (O y h (.ref b :: as)) r (fun s h => k (pc + 3) L s h))))
    | [x, n, rk, D, _] => q_pop n [] st (fun as r => q_r r (fun b r => match q_vt x (q_cls b) with
      | some y => q_b (q_sub (q_cls b) D && Nat.ble (q_ca r) 8) (q_cl rk (O y h (.ref b :: as)) r (fun s h => k (pc + 3) L s h))
      | none => none))
    | _ => none)
  | .ireturn => (match e.2.1, st with
    | 1, [.int x] => some (h, some (.int x))
    | 2, [.int x] => if x = 0 ∨ x = 1 then some (h, some (.int x)) else none
    | _, _ => none)
  | .lreturn => (match e.2.1, st with
    | 3, [.long x] => some (h, some (.long x))
    | _, _ => none)
  | .return_ => (match e.2.1, st with
    | 0, [] => some (h, none)
    | _, _ => none)
  | _ => none
def q_ex (e : q_E) (X : q_X) (O : q_O) (K : q_K) : Nat → q_K
  | 0, _, _, _, _ => none
  | n + 1, pc, L, st, h => match q_mem pc e.2.2.2 with
    | some ks => K pc (q_nrm ks L) st h
    | none => q_body e X O (q_ex e X O K n) pc L st h
/-- from cut to cut -/
def q_go (e : q_E) (X : q_X) (O : q_O) : Nat → q_K
  | 0, _, _, _, _ => none
  | n + 1, pc, L, st, h => q_body e X O (q_ex e X O (q_go e X O n) 500) pc L st h
