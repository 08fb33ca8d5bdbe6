-- WhirlShafts$Changes.forget()V with (38,)
set_option maxRecDepth 20000 in
theorem m0 (d : Nat) (h : q_S)  : q_sem (d + 1) 0 h [.ref 38] =
  some ((q_si (q_si h 38 4 0) 38 5 0), none) := (q_sem_s (by decide) (Nat.le_of_ble_eq_true rfl)).trans (b0_0 q_X0 (q_sem d) 999 h )
-- WhirlShafts$Changes.add(IIII)V with (38, None, None, None, None)
set_option maxRecDepth 20000 in
theorem m1 (d : Nat) (h : q_S) (x1 : Int32) (x2 : Int32) (x3 : Int32) (x4 : Int32) : q_sem (d + 1) 1 h [.ref 38, .int x1, .int x2, .int x3, .int x4] =
  if (h.1 38 4) < 12 then
    q_go e_1 q_X0 (q_sem d) 999 18 [(0, .ref 38), (1, .int x1), (2, .int x2), (3, .int x3), (4, .int x4)] [] (q_si h 38 5 0)
  else
    q_c0 ((q_sem d) 2 (q_si h 38 5 0) [.ref 38]) (fun h1 =>
    q_go e_1 q_X0 (q_sem d) 999 18 [(0, .ref 38), (1, .int x1), (2, .int x2), (3, .int x3), (4, .int x4)] [] h1) := (q_sem_s (by decide) (Nat.le_of_ble_eq_true rfl)).trans (b1_0 q_X0 (q_sem d) 999 h x1 x2 x3 x4)
-- WhirlShafts$Changes.forgetEldest()V with (38,)
set_option maxRecDepth 20000 in
theorem m2 (d : Nat) (h : q_S)  : q_sem (d + 1) 2 h [.ref 38] =
  q_arc (q_si h 38 4 11) 39 1 39 0 11 (fun h1 =>
  q_arc h1 40 1 40 0 (h1.1 38 4) (fun h2 =>
  q_arc h2 41 1 41 0 (h2.1 38 4) (fun h3 =>
  q_arc h3 42 1 42 0 (h3.1 38 4) (fun h4 =>
  some (h4, none))))) := (q_sem_s (by decide) (Nat.le_of_ble_eq_true rfl)).trans (b2_0 q_X0 (q_sem d) 999 h )
-- WhirlShafts$Changes.stepBack(LWhirlShafts$Line;)I with (38, 12)
set_option maxRecDepth 20000 in
theorem m3 (d : Nat) (h : q_S)  : q_sem (d + 1) 3 h [.ref 38, .ref 12] =
  q_ix ((h.1 38 4) - 1) 12 (fun j1 =>
  q_ix ((h.1 38 4) - 1) 12 (fun j2 =>
  q_ix ((h.1 38 4) - 1) 12 (fun j3 =>
  q_c0 ((q_sem d) 24 (q_si (q_si h 38 4 ((h.1 38 4) - 1)) 38 5 ((h.1 38 5) + 1)) [.ref 12, .int (h.1 39 j1), .int (h.1 40 j2), .int (h.1 41 j3)]) (fun h4 =>
  some (h4, some (.int (h4.1 38 4))))))) := (q_sem_s (by decide) (Nat.le_of_ble_eq_true rfl)).trans (b3_0 q_X0 (q_sem d) 999 h )
-- WhirlShafts$Changes.stepOn(LWhirlShafts$Line;)I with (38, 12)
set_option maxRecDepth 20000 in
theorem m4 (d : Nat) (h : q_S)  : q_sem (d + 1) 4 h [.ref 38, .ref 12] =
  q_ix (h.1 38 4) 12 (fun j1 =>
  q_ix (h.1 38 4) 12 (fun j2 =>
  q_ix (h.1 38 4) 12 (fun j3 =>
  q_c0 ((q_sem d) 24 h [.ref 12, .int (h.1 39 j1), .int (h.1 40 j2), .int (h.1 42 j3)]) (fun h4 =>
  some ((q_si (q_si h4 38 4 ((h4.1 38 4) + 1)) 38 5 ((h4.1 38 5) - 1)), some (.int ((h4.1 38 5) - 1))))))) := (q_sem_s (by decide) (Nat.le_of_ble_eq_true rfl)).trans (b4_0 q_X0 (q_sem d) 999 h )
-- WhirlShafts$Crown.weighs(II)I with (5, None, None)
set_option maxRecDepth 20000 in
theorem m5 (d : Nat) (h : q_S) (x1 : Int32) (x2 : Int32) : q_sem (d + 1) 5 h [.ref 5, .int x1, .int x2] =
  q_c1 ((q_sem d) 46 h [.ref 5, .int x1, .int x2]) (fun h1 v2 =>
  some (h1, some (.int (v2 + 3)))) := (q_sem_s (by decide) (Nat.le_of_ble_eq_true rfl)).trans (b5_0 q_X0 (q_sem d) 999 h x1 x2)
-- WhirlShafts$Crown.tells(I)I with (5, None)
set_option maxRecDepth 20000 in
theorem m6 (d : Nat) (h : q_S) (x1 : Int32) : q_sem (d + 1) 6 h [.ref 5, .int x1] =
  q_c0 ((q_sem d) 9 h [.ref 5, .int 40]) (fun h1 =>
  q_c1 ((q_sem d) 13 h1 [.ref 5, .int (x1 + 1)]) (fun h2 v3 =>
  some (h2, some (.int v3)))) := (q_sem_s (by decide) (Nat.le_of_ble_eq_true rfl)).trans (b6_0 q_X0 (q_sem d) 999 h x1)
-- WhirlShafts$Crown.spins(I)I with (5, None)
set_option maxRecDepth 20000 in
theorem m7 (d : Nat) (h : q_S) (x1 : Int32) : q_sem (d + 1) 7 h [.ref 5, .int x1] =
  q_c0 ((q_sem d) 9 h [.ref 5, .int 41]) (fun h1 =>
  q_c1 ((q_sem d) 11 h1 [.ref 5, .int x1]) (fun h2 v3 =>
  some (h2, some (.int (v3 * 3))))) := (q_sem_s (by decide) (Nat.le_of_ble_eq_true rfl)).trans (b7_0 q_X0 (q_sem d) 999 h x1)
-- WhirlShafts$Disc.begin(II)V with (2, None, None)
set_option maxRecDepth 20000 in
theorem m8 (d : Nat) (h : q_S) (x1 : Int32) (x2 : Int32) : q_sem (d + 1) 8 h [.ref 2, .int x1, .int x2] =
  some ((q_si (q_si (q_si h 2 1 0) 2 2 x1) 2 3 x2), none) := (q_sem_s (by decide) (Nat.le_of_ble_eq_true rfl)).trans (b8_0 q_X0 (q_sem d) 999 h x1 x2)
-- WhirlShafts$Disc.begin(II)V with (3, None, None)
set_option maxRecDepth 20000 in
theorem m8_1 (d : Nat) (h : q_S) (x1 : Int32) (x2 : Int32) : q_sem (d + 1) 8 h [.ref 3, .int x1, .int x2] =
  some ((q_si (q_si (q_si h 3 1 0) 3 2 x1) 3 3 x2), none) := (q_sem_s (by decide) (Nat.le_of_ble_eq_true rfl)).trans (b8_0_1 q_X0 (q_sem d) 999 h x1 x2)
-- WhirlShafts$Disc.begin(II)V with (4, None, None)
set_option maxRecDepth 20000 in
theorem m8_2 (d : Nat) (h : q_S) (x1 : Int32) (x2 : Int32) : q_sem (d + 1) 8 h [.ref 4, .int x1, .int x2] =
  some ((q_si (q_si (q_si h 4 1 0) 4 2 x1) 4 3 x2), none) := (q_sem_s (by decide) (Nat.le_of_ble_eq_true rfl)).trans (b8_0_2 q_X0 (q_sem d) 999 h x1 x2)
-- WhirlShafts$Disc.begin(II)V with (5, None, None)
set_option maxRecDepth 20000 in
theorem m8_3 (d : Nat) (h : q_S) (x1 : Int32) (x2 : Int32) : q_sem (d + 1) 8 h [.ref 5, .int x1, .int x2] =
  some ((q_si (q_si (q_si h 5 1 0) 5 2 x1) 5 3 x2), none) := (q_sem_s (by decide) (Nat.le_of_ble_eq_true rfl)).trans (b8_0_3 q_X0 (q_sem d) 999 h x1 x2)
-- WhirlShafts$Disc.begin(II)V with (6, None, None)
set_option maxRecDepth 20000 in
theorem m8_4 (d : Nat) (h : q_S) (x1 : Int32) (x2 : Int32) : q_sem (d + 1) 8 h [.ref 6, .int x1, .int x2] =
  some ((q_si (q_si (q_si h 6 1 0) 6 2 x1) 6 3 x2), none) := (q_sem_s (by decide) (Nat.le_of_ble_eq_true rfl)).trans (b8_0_4 q_X0 (q_sem d) 999 h x1 x2)
-- WhirlShafts$Disc.note(I)V with (2, None)
set_option maxRecDepth 20000 in
theorem m9 (d : Nat) (h : q_S) (x1 : Int32) : q_sem (d + 1) 9 h [.ref 2, .int x1] =
  if (h.1 2 1) < 24 then
    q_ix (h.1 2 1) 24 (fun j1 =>
    some ((q_si (q_si h 7 j1 x1) 2 1 ((h.1 2 1) + 1)), none))
  else
    some (h, none) := (q_sem_s (by decide) (Nat.le_of_ble_eq_true rfl)).trans (b9_0 q_X0 (q_sem d) 999 h x1)
-- WhirlShafts$Disc.note(I)V with (3, None)
set_option maxRecDepth 20000 in
theorem m9_1 (d : Nat) (h : q_S) (x1 : Int32) : q_sem (d + 1) 9 h [.ref 3, .int x1] =
  if (h.1 3 1) < 24 then
    q_ix (h.1 3 1) 24 (fun j1 =>
    some ((q_si (q_si h 8 j1 x1) 3 1 ((h.1 3 1) + 1)), none))
  else
    some (h, none) := (q_sem_s (by decide) (Nat.le_of_ble_eq_true rfl)).trans (b9_0_1 q_X0 (q_sem d) 999 h x1)
-- WhirlShafts$Disc.note(I)V with (4, None)
set_option maxRecDepth 20000 in
theorem m9_2 (d : Nat) (h : q_S) (x1 : Int32) : q_sem (d + 1) 9 h [.ref 4, .int x1] =
  if (h.1 4 1) < 24 then
    q_ix (h.1 4 1) 24 (fun j1 =>
    some ((q_si (q_si h 9 j1 x1) 4 1 ((h.1 4 1) + 1)), none))
  else
    some (h, none) := (q_sem_s (by decide) (Nat.le_of_ble_eq_true rfl)).trans (b9_0_2 q_X0 (q_sem d) 999 h x1)
-- WhirlShafts$Disc.note(I)V with (5, None)
set_option maxRecDepth 20000 in
theorem m9_3 (d : Nat) (h : q_S) (x1 : Int32) : q_sem (d + 1) 9 h [.ref 5, .int x1] =
  if (h.1 5 1) < 24 then
    q_ix (h.1 5 1) 24 (fun j1 =>
    some ((q_si (q_si h 10 j1 x1) 5 1 ((h.1 5 1) + 1)), none))
  else
    some (h, none) := (q_sem_s (by decide) (Nat.le_of_ble_eq_true rfl)).trans (b9_0_3 q_X0 (q_sem d) 999 h x1)
-- WhirlShafts$Disc.note(I)V with (6, None)
set_option maxRecDepth 20000 in
theorem m9_4 (d : Nat) (h : q_S) (x1 : Int32) : q_sem (d + 1) 9 h [.ref 6, .int x1] =
  if (h.1 6 1) < 24 then
    q_ix (h.1 6 1) 24 (fun j1 =>
    some ((q_si (q_si h 11 j1 x1) 6 1 ((h.1 6 1) + 1)), none))
  else
    some (h, none) := (q_sem_s (by decide) (Nat.le_of_ble_eq_true rfl)).trans (b9_0_4 q_X0 (q_sem d) 999 h x1)
-- WhirlShafts$Disc.weighs(II)I with (2, None, None)
set_option maxRecDepth 20000 in
theorem m10 (d : Nat) (h : q_S) (x1 : Int32) (x2 : Int32) : q_sem (d + 1) 10 h [.ref 2, .int x1, .int x2] =
  some (h, some (.int x1)) := (q_sem_s (by decide) (Nat.le_of_ble_eq_true rfl)).trans (b10_0 q_X0 (q_sem d) 999 h x1 x2)
-- WhirlShafts$Disc.spins(I)I with (2, None)
set_option maxRecDepth 20000 in
theorem m11 (d : Nat) (h : q_S) (x1 : Int32) : q_sem (d + 1) 11 h [.ref 2, .int x1] =
  q_c0 ((q_sem d) 9 h [.ref 2, .int 10]) (fun h1 =>
  some (h1, some (.int (x1 + (h1.1 2 2))))) := (q_sem_s (by decide) (Nat.le_of_ble_eq_true rfl)).trans (b11_0 q_X0 (q_sem d) 999 h x1)
-- WhirlShafts$Disc.spins(I)I with (3, None)
set_option maxRecDepth 20000 in
theorem m11_1 (d : Nat) (h : q_S) (x1 : Int32) : q_sem (d + 1) 11 h [.ref 3, .int x1] =
  q_c0 ((q_sem d) 9 h [.ref 3, .int 10]) (fun h1 =>
  some (h1, some (.int (x1 + (h1.1 3 2))))) := (q_sem_s (by decide) (Nat.le_of_ble_eq_true rfl)).trans (b11_0_1 q_X0 (q_sem d) 999 h x1)
-- WhirlShafts$Disc.spins(I)I with (4, None)
set_option maxRecDepth 20000 in
theorem m11_2 (d : Nat) (h : q_S) (x1 : Int32) : q_sem (d + 1) 11 h [.ref 4, .int x1] =
  q_c0 ((q_sem d) 9 h [.ref 4, .int 10]) (fun h1 =>
  some (h1, some (.int (x1 + (h1.1 4 2))))) := (q_sem_s (by decide) (Nat.le_of_ble_eq_true rfl)).trans (b11_0_2 q_X0 (q_sem d) 999 h x1)
-- WhirlShafts$Disc.spins(I)I with (5, None)
set_option maxRecDepth 20000 in
theorem m11_3 (d : Nat) (h : q_S) (x1 : Int32) : q_sem (d + 1) 11 h [.ref 5, .int x1] =
  q_c0 ((q_sem d) 9 h [.ref 5, .int 10]) (fun h1 =>
  some (h1, some (.int (x1 + (h1.1 5 2))))) := (q_sem_s (by decide) (Nat.le_of_ble_eq_true rfl)).trans (b11_0_3 q_X0 (q_sem d) 999 h x1)
-- WhirlShafts$Disc.spins(I)I with (6, None)
set_option maxRecDepth 20000 in
theorem m11_4 (d : Nat) (h : q_S) (x1 : Int32) : q_sem (d + 1) 11 h [.ref 6, .int x1] =
  q_c0 ((q_sem d) 9 h [.ref 6, .int 10]) (fun h1 =>
  some (h1, some (.int (x1 + (h1.1 6 2))))) := (q_sem_s (by decide) (Nat.le_of_ble_eq_true rfl)).trans (b11_0_4 q_X0 (q_sem d) 999 h x1)
-- WhirlShafts$Disc.swings(I)I with (2, None)
set_option maxRecDepth 20000 in
theorem m12 (d : Nat) (h : q_S) (x1 : Int32) : q_sem (d + 1) 12 h [.ref 2, .int x1] =
  q_c0 ((q_sem d) 9 h [.ref 2, .int 11]) (fun h1 =>
  q_c1 ((q_sem d) 11 h1 [.ref 2, .int x1]) (fun h2 v3 =>
  some (h2, some (.int (v3 * 2))))) := (q_sem_s (by decide) (Nat.le_of_ble_eq_true rfl)).trans (b12_0 q_X0 (q_sem d) 999 h x1)
-- WhirlShafts$Disc.swings(I)I with (3, None)
set_option maxRecDepth 20000 in
theorem m12_1 (d : Nat) (h : q_S) (x1 : Int32) : q_sem (d + 1) 12 h [.ref 3, .int x1] =
  q_c0 ((q_sem d) 9 h [.ref 3, .int 11]) (fun h1 =>
  q_c1 ((q_sem d) 11 h1 [.ref 3, .int x1]) (fun h2 v3 =>
  some (h2, some (.int (v3 * 2))))) := (q_sem_s (by decide) (Nat.le_of_ble_eq_true rfl)).trans (b12_0_1 q_X0 (q_sem d) 999 h x1)
-- WhirlShafts$Disc.swings(I)I with (4, None)
set_option maxRecDepth 20000 in
theorem m12_2 (d : Nat) (h : q_S) (x1 : Int32) : q_sem (d + 1) 12 h [.ref 4, .int x1] =
  q_c0 ((q_sem d) 9 h [.ref 4, .int 11]) (fun h1 =>
  q_c1 ((q_sem d) 15 h1 [.ref 4, .int x1]) (fun h2 v3 =>
  some (h2, some (.int (v3 * 2))))) := (q_sem_s (by decide) (Nat.le_of_ble_eq_true rfl)).trans (b12_0_2 q_X0 (q_sem d) 999 h x1)
-- WhirlShafts$Disc.swings(I)I with (5, None)
set_option maxRecDepth 20000 in
theorem m12_3 (d : Nat) (h : q_S) (x1 : Int32) : q_sem (d + 1) 12 h [.ref 5, .int x1] =
  q_c0 ((q_sem d) 9 h [.ref 5, .int 11]) (fun h1 =>
  q_c1 ((q_sem d) 7 h1 [.ref 5, .int x1]) (fun h2 v3 =>
  some (h2, some (.int (v3 * 2))))) := (q_sem_s (by decide) (Nat.le_of_ble_eq_true rfl)).trans (b12_0_3 q_X0 (q_sem d) 999 h x1)
-- WhirlShafts$Disc.swings(I)I with (6, None)
set_option maxRecDepth 20000 in
theorem m12_4 (d : Nat) (h : q_S) (x1 : Int32) : q_sem (d + 1) 12 h [.ref 6, .int x1] =
  q_c0 ((q_sem d) 9 h [.ref 6, .int 11]) (fun h1 =>
  q_c1 ((q_sem d) 15 h1 [.ref 6, .int x1]) (fun h2 v3 =>
  some (h2, some (.int (v3 * 2))))) := (q_sem_s (by decide) (Nat.le_of_ble_eq_true rfl)).trans (b12_0_4 q_X0 (q_sem d) 999 h x1)
-- WhirlShafts$Disc.tells(I)I with (2, None)
set_option maxRecDepth 20000 in
theorem m13 (d : Nat) (h : q_S) (x1 : Int32) : q_sem (d + 1) 13 h [.ref 2, .int x1] =
  q_c0 ((q_sem d) 9 h [.ref 2, .int 12]) (fun h1 =>
  q_c1 ((q_sem d) 12 h1 [.ref 2, .int x1]) (fun h2 v3 =>
  some (h2, some (.int (v3 - (h2.1 2 3)))))) := (q_sem_s (by decide) (Nat.le_of_ble_eq_true rfl)).trans (b13_0 q_X0 (q_sem d) 999 h x1)
-- WhirlShafts$Disc.tells(I)I with (3, None)
set_option maxRecDepth 20000 in
theorem m13_1 (d : Nat) (h : q_S) (x1 : Int32) : q_sem (d + 1) 13 h [.ref 3, .int x1] =
  q_c0 ((q_sem d) 9 h [.ref 3, .int 12]) (fun h1 =>
  q_c1 ((q_sem d) 47 h1 [.ref 3, .int x1]) (fun h2 v3 =>
  some (h2, some (.int (v3 - (h2.1 3 3)))))) := (q_sem_s (by decide) (Nat.le_of_ble_eq_true rfl)).trans (b13_0_1 q_X0 (q_sem d) 999 h x1)
-- WhirlShafts$Disc.tells(I)I with (4, None)
set_option maxRecDepth 20000 in
theorem m13_2 (d : Nat) (h : q_S) (x1 : Int32) : q_sem (d + 1) 13 h [.ref 4, .int x1] =
  q_c0 ((q_sem d) 9 h [.ref 4, .int 12]) (fun h1 =>
  q_c1 ((q_sem d) 12 h1 [.ref 4, .int x1]) (fun h2 v3 =>
  some (h2, some (.int (v3 - (h2.1 4 3)))))) := (q_sem_s (by decide) (Nat.le_of_ble_eq_true rfl)).trans (b13_0_2 q_X0 (q_sem d) 999 h x1)
-- WhirlShafts$Disc.tells(I)I with (5, None)
set_option maxRecDepth 20000 in
theorem m13_3 (d : Nat) (h : q_S) (x1 : Int32) : q_sem (d + 1) 13 h [.ref 5, .int x1] =
  q_c0 ((q_sem d) 9 h [.ref 5, .int 12]) (fun h1 =>
  q_c1 ((q_sem d) 47 h1 [.ref 5, .int x1]) (fun h2 v3 =>
  some (h2, some (.int (v3 - (h2.1 5 3)))))) := (q_sem_s (by decide) (Nat.le_of_ble_eq_true rfl)).trans (b13_0_3 q_X0 (q_sem d) 999 h x1)
-- WhirlShafts$Disc.tells(I)I with (6, None)
set_option maxRecDepth 20000 in
theorem m13_4 (d : Nat) (h : q_S) (x1 : Int32) : q_sem (d + 1) 13 h [.ref 6, .int x1] =
  q_c0 ((q_sem d) 9 h [.ref 6, .int 12]) (fun h1 =>
  q_c1 ((q_sem d) 54 h1 [.ref 6, .int x1]) (fun h2 v3 =>
  some (h2, some (.int (v3 - (h2.1 6 3)))))) := (q_sem_s (by decide) (Nat.le_of_ble_eq_true rfl)).trans (b13_0_4 q_X0 (q_sem d) 999 h x1)
-- WhirlShafts$Hub.weighs(II)I with (4, None, None)
set_option maxRecDepth 20000 in
theorem m14 (d : Nat) (h : q_S) (x1 : Int32) (x2 : Int32) : q_sem (d + 1) 14 h [.ref 4, .int x1, .int x2] =
  if 2 = 0 then none else
  some (h, some (.int ((x1 + 1) / 2))) := (q_sem_s (by decide) (Nat.le_of_ble_eq_true rfl)).trans (b14_0 q_X0 (q_sem d) 999 h x1 x2)
-- WhirlShafts$Hub.weighs(II)I with (6, None, None)
set_option maxRecDepth 20000 in
theorem m14_1 (d : Nat) (h : q_S) (x1 : Int32) (x2 : Int32) : q_sem (d + 1) 14 h [.ref 6, .int x1, .int x2] =
  if 2 = 0 then none else
  some (h, some (.int ((x1 + 1) / 2))) := (q_sem_s (by decide) (Nat.le_of_ble_eq_true rfl)).trans (b14_0_1 q_X0 (q_sem d) 999 h x1 x2)
-- WhirlShafts$Hub.spins(I)I with (4, None)
set_option maxRecDepth 20000 in
theorem m15 (d : Nat) (h : q_S) (x1 : Int32) : q_sem (d + 1) 15 h [.ref 4, .int x1] =
  q_c0 ((q_sem d) 9 h [.ref 4, .int 30]) (fun h1 =>
  q_c1 ((q_sem d) 11 h1 [.ref 4, .int x1]) (fun h2 v3 =>
  some (h2, some (.int (-v3))))) := (q_sem_s (by decide) (Nat.le_of_ble_eq_true rfl)).trans (b15_0 q_X0 (q_sem d) 999 h x1)
-- WhirlShafts$Hub.spins(I)I with (6, None)
set_option maxRecDepth 20000 in
theorem m15_1 (d : Nat) (h : q_S) (x1 : Int32) : q_sem (d + 1) 15 h [.ref 6, .int x1] =
  q_c0 ((q_sem d) 9 h [.ref 6, .int 30]) (fun h1 =>
  q_c1 ((q_sem d) 11 h1 [.ref 6, .int x1]) (fun h2 v3 =>
  some (h2, some (.int (-v3))))) := (q_sem_s (by decide) (Nat.le_of_ble_eq_true rfl)).trans (b15_0_1 q_X0 (q_sem d) 999 h x1)
-- WhirlShafts$Line.takeFrom(LWhirlShafts$Line;)V with (12, 24)
set_option maxRecDepth 20000 in
theorem m16 (d : Nat) (h : q_S)  : q_sem (d + 1) 16 h [.ref 12, .ref 24] =
  q_arc (q_si (q_si (q_si h 12 6 (h.1 24 6)) 12 7 (h.1 24 7)) 12 8 (h.1 24 8)) 25 0 13 0 8 (fun h1 =>
  q_arc h1 26 0 14 0 8 (fun h2 =>
  q_arc h2 27 0 15 0 8 (fun h3 =>
  q_arc h3 28 0 16 0 8 (fun h4 =>
  q_arc h4 29 0 17 0 8 (fun h5 =>
  some (h5, none)))))) := (q_sem_s (by decide) (Nat.le_of_ble_eq_true rfl)).trans (b16_0 q_X0 (q_sem d) 999 h )
-- WhirlShafts$Line.takeFrom(LWhirlShafts$Line;)V with (18, 12)
set_option maxRecDepth 20000 in
theorem m16_1 (d : Nat) (h : q_S)  : q_sem (d + 1) 16 h [.ref 18, .ref 12] =
  q_arc (q_si (q_si (q_si h 18 6 (h.1 12 6)) 18 7 (h.1 12 7)) 18 8 (h.1 12 8)) 13 0 19 0 8 (fun h1 =>
  q_arc h1 14 0 20 0 8 (fun h2 =>
  q_arc h2 15 0 21 0 8 (fun h3 =>
  q_arc h3 16 0 22 0 8 (fun h4 =>
  q_arc h4 17 0 23 0 8 (fun h5 =>
  some (h5, none)))))) := (q_sem_s (by decide) (Nat.le_of_ble_eq_true rfl)).trans (b16_0_1 q_X0 (q_sem d) 999 h )
-- WhirlShafts$Line.takeFrom(LWhirlShafts$Line;)V with (24, 12)
set_option maxRecDepth 20000 in
theorem m16_2 (d : Nat) (h : q_S)  : q_sem (d + 1) 16 h [.ref 24, .ref 12] =
  q_arc (q_si (q_si (q_si h 24 6 (h.1 12 6)) 24 7 (h.1 12 7)) 24 8 (h.1 12 8)) 13 0 25 0 8 (fun h1 =>
  q_arc h1 14 0 26 0 8 (fun h2 =>
  q_arc h2 15 0 27 0 8 (fun h3 =>
  q_arc h3 16 0 28 0 8 (fun h4 =>
  q_arc h4 17 0 29 0 8 (fun h5 =>
  some (h5, none)))))) := (q_sem_s (by decide) (Nat.le_of_ble_eq_true rfl)).trans (b16_0_2 q_X0 (q_sem d) 999 h )
-- WhirlShafts$Line.join(III)I with (12, None, None, None)
set_option maxRecDepth 20000 in
theorem m17 (d : Nat) (h : q_S) (x1 : Int32) (x2 : Int32) (x3 : Int32) : q_sem (d + 1) 17 h [.ref 12, .int x1, .int x2, .int x3] =
  q_ix (h.1 12 6) 8 (fun j1 =>
  q_ix (h.1 12 6) 8 (fun j2 =>
  q_ix (h.1 12 6) 8 (fun j3 =>
  if 0 < (h.1 12 6) then
    q_ix ((h.1 12 6) - 1) 8 (fun j4 =>
    q_ix ((h.1 12 6) - 1) 8 (fun j5 =>
    q_go e_17 q_X0 (q_sem d) 999 61 [(0, .ref 12)] [] (q_si (q_si (q_si (q_si (q_si h 13 j1 x1) 14 j2 x2) 15 j3 0) 16 j4 x3) 17 j5 1)))
  else
    q_go e_17 q_X0 (q_sem d) 999 61 [(0, .ref 12)] [] (q_si (q_si (q_si h 13 j1 x1) 14 j2 x2) 15 j3 0)))) := (q_sem_s (by decide) (Nat.le_of_ble_eq_true rfl)).trans (b17_0 q_X0 (q_sem d) 999 h x1 x2 x3)
-- WhirlShafts$Line.swap(I)V with (18, None)
set_option maxRecDepth 20000 in
theorem m18 (d : Nat) (h : q_S) (x1 : Int32) : q_sem (d + 1) 18 h [.ref 18, .int x1] =
  q_ix x1 8 (fun j1 =>
  q_ix x1 8 (fun j2 =>
  q_ix (x1 + 1) 8 (fun j3 =>
  q_ix x1 8 (fun j4 =>
  q_ix (x1 + 1) 8 (fun j5 =>
  q_ix x1 8 (fun j6 =>
  q_ix (x1 + 1) 8 (fun j7 =>
  q_ix (x1 + 1) 8 (fun j8 =>
  some ((q_si (q_si (q_si (q_si h 19 j4 (h.1 19 j3)) 20 j6 (h.1 20 j5)) 19 j7 (h.1 19 j1)) 20 j8 (h.1 20 j2)), none))))))))) := (q_sem_s (by decide) (Nat.le_of_ble_eq_true rfl)).trans (b18_0 q_X0 (q_sem d) 999 h x1)
-- WhirlShafts$Line.hasDisc(I)Z with (12, None)
set_option maxRecDepth 20000 in
theorem m19 (d : Nat) (h : q_S) (x1 : Int32) : q_sem (d + 1) 19 h [.ref 12, .int x1] =
  if x1 < 0 then
    some (h, some (.int 0))
  else
    if x1 < (h.1 12 6) then
      some (h, some (.int 1))
    else
      some (h, some (.int 0)) := (q_sem_s (by decide) (Nat.le_of_ble_eq_true rfl)).trans (b19_0 q_X0 (q_sem d) 999 h x1)
-- WhirlShafts$Line.hasDisc(I)Z with (18, None)
set_option maxRecDepth 20000 in
theorem m19_1 (d : Nat) (h : q_S) (x1 : Int32) : q_sem (d + 1) 19 h [.ref 18, .int x1] =
  if x1 < 0 then
    some (h, some (.int 0))
  else
    if x1 < (h.1 18 6) then
      some (h, some (.int 1))
    else
      some (h, some (.int 0)) := (q_sem_s (by decide) (Nat.le_of_ble_eq_true rfl)).trans (b19_0_1 q_X0 (q_sem d) 999 h x1)
-- WhirlShafts$Line.hasShaft(I)Z with (12, None)
set_option maxRecDepth 20000 in
theorem m20 (d : Nat) (h : q_S) (x1 : Int32) : q_sem (d + 1) 20 h [.ref 12, .int x1] =
  if x1 < 0 then
    some (h, some (.int 0))
  else
    if x1 < ((h.1 12 6) - 1) then
      some (h, some (.int 1))
    else
      some (h, some (.int 0)) := (q_sem_s (by decide) (Nat.le_of_ble_eq_true rfl)).trans (b20_0 q_X0 (q_sem d) 999 h x1)
-- WhirlShafts$Line.hasShaft(I)Z with (18, None)
set_option maxRecDepth 20000 in
theorem m20_1 (d : Nat) (h : q_S) (x1 : Int32) : q_sem (d + 1) 20 h [.ref 18, .int x1] =
  if x1 < 0 then
    some (h, some (.int 0))
  else
    if x1 < ((h.1 18 6) - 1) then
      some (h, some (.int 1))
    else
      some (h, some (.int 0)) := (q_sem_s (by decide) (Nat.le_of_ble_eq_true rfl)).trans (b20_0_1 q_X0 (q_sem d) 999 h x1)
-- WhirlShafts$Line.hasPlace(II)Z with (12, None, None)
set_option maxRecDepth 20000 in
theorem m21 (d : Nat) (h : q_S) (x1 : Int32) (x2 : Int32) : q_sem (d + 1) 21 h [.ref 12, .int x1, .int x2] =
  if x1 = 0 then
    q_c1 ((q_sem d) 19 h [.ref 12, .int x2]) (fun h1 v2 =>
    if v2 = 0 ∨ v2 = 1 then some (h1, some (.int v2)) else none)
  else if x1 = 1 then
    q_c1 ((q_sem d) 20 h [.ref 12, .int x2]) (fun h3 v4 =>
    if v4 = 0 ∨ v4 = 1 then some (h3, some (.int v4)) else none)
  else if x1 = 2 then
    q_c1 ((q_sem d) 19 h [.ref 12, .int x2]) (fun h5 v6 =>
    if v6 = 0 ∨ v6 = 1 then some (h5, some (.int v6)) else none)
  else if x1 = 3 then
    q_c1 ((q_sem d) 20 h [.ref 12, .int x2]) (fun h7 v8 =>
    if v8 = 0 ∨ v8 = 1 then some (h7, some (.int v8)) else none)
  else if x1 = 4 then
    some (h, some (.int 1))
  else if x1 = 5 then
    some (h, some (.int 1))
  else 
    some (h, some (.int 0)) := (q_sem_s (by decide) (Nat.le_of_ble_eq_true rfl)).trans (b21_0 q_X0 (q_sem d) 999 h x1 x2)
-- WhirlShafts$Line.hasPlace(II)Z with (18, None, None)
set_option maxRecDepth 20000 in
theorem m21_1 (d : Nat) (h : q_S) (x1 : Int32) (x2 : Int32) : q_sem (d + 1) 21 h [.ref 18, .int x1, .int x2] =
  if x1 = 0 then
    q_c1 ((q_sem d) 19 h [.ref 18, .int x2]) (fun h1 v2 =>
    if v2 = 0 ∨ v2 = 1 then some (h1, some (.int v2)) else none)
  else if x1 = 1 then
    q_c1 ((q_sem d) 20 h [.ref 18, .int x2]) (fun h3 v4 =>
    if v4 = 0 ∨ v4 = 1 then some (h3, some (.int v4)) else none)
  else if x1 = 2 then
    q_c1 ((q_sem d) 19 h [.ref 18, .int x2]) (fun h5 v6 =>
    if v6 = 0 ∨ v6 = 1 then some (h5, some (.int v6)) else none)
  else if x1 = 3 then
    q_c1 ((q_sem d) 20 h [.ref 18, .int x2]) (fun h7 v8 =>
    if v8 = 0 ∨ v8 = 1 then some (h7, some (.int v8)) else none)
  else if x1 = 4 then
    some (h, some (.int 1))
  else if x1 = 5 then
    some (h, some (.int 1))
  else 
    some (h, some (.int 0)) := (q_sem_s (by decide) (Nat.le_of_ble_eq_true rfl)).trans (b21_0_1 q_X0 (q_sem d) 999 h x1 x2)
-- WhirlShafts$Line.refusal(III)I with (12, None, None, None)
set_option maxRecDepth 20000 in
theorem m22 (d : Nat) (h : q_S) (x1 : Int32) (x2 : Int32) (x3 : Int32) : q_sem (d + 1) 22 h [.ref 12, .int x1, .int x2, .int x3] =
  q_c1 ((q_sem d) 21 h [.ref 12, .int x1, .int x2]) (fun h1 v2 =>
  if v2 = 0 then
    some (h1, some (.int (-1)))
  else
    q_c1 ((q_sem d) 105 h1 [.int x1, .int x3]) (fun h3 v4 =>
    if v4 = 0 then
      some (h3, some (.int (-1)))
    else
      if x1 = 3 then
        q_c1 ((q_sem d) 26 h3 [.ref 12, .int x2]) (fun h5 v6 =>
        if 6 < (v6 * x3) then
          some (h5, some (.int (-5)))
        else
          some (h5, some (.int 0)))
      else
        some (h3, some (.int 0)))) := (q_sem_s (by decide) (Nat.le_of_ble_eq_true rfl)).trans (b22_0 q_X0 (q_sem d) 999 h x1 x2 x3)
-- WhirlShafts$Line.refusal(III)I with (18, None, None, None)
set_option maxRecDepth 20000 in
theorem m22_1 (d : Nat) (h : q_S) (x1 : Int32) (x2 : Int32) (x3 : Int32) : q_sem (d + 1) 22 h [.ref 18, .int x1, .int x2, .int x3] =
  q_c1 ((q_sem d) 21 h [.ref 18, .int x1, .int x2]) (fun h1 v2 =>
  if v2 = 0 then
    some (h1, some (.int (-1)))
  else
    q_c1 ((q_sem d) 105 h1 [.int x1, .int x3]) (fun h3 v4 =>
    if v4 = 0 then
      some (h3, some (.int (-1)))
    else
      if x1 = 3 then
        q_c1 ((q_sem d) 26 h3 [.ref 18, .int x2]) (fun h5 v6 =>
        if 6 < (v6 * x3) then
          some (h5, some (.int (-5)))
        else
          some (h5, some (.int 0)))
      else
        some (h3, some (.int 0)))) := (q_sem_s (by decide) (Nat.le_of_ble_eq_true rfl)).trans (b22_0_1 q_X0 (q_sem d) 999 h x1 x2 x3)
-- WhirlShafts$Line.told(II)I with (12, None, None)
set_option maxRecDepth 20000 in
theorem m23 (d : Nat) (h : q_S) (x1 : Int32) (x2 : Int32) : q_sem (d + 1) 23 h [.ref 12, .int x1, .int x2] =
  if x1 = 0 then
    q_ix x2 8 (fun j1 =>
    some (h, some (.int (h.1 14 j1))))
  else if x1 = 1 then
    q_ix x2 8 (fun j2 =>
    some (h, some (.int (h.1 16 j2))))
  else if x1 = 2 then
    q_ix x2 8 (fun j3 =>
    some (h, some (.int (h.1 15 j3))))
  else if x1 = 3 then
    q_ix x2 8 (fun j4 =>
    some (h, some (.int (h.1 17 j4))))
  else if x1 = 4 then
    some (h, some (.int (h.1 12 7)))
  else 
    some (h, some (.int (h.1 12 8))) := (q_sem_s (by decide) (Nat.le_of_ble_eq_true rfl)).trans (b23_0 q_X0 (q_sem d) 999 h x1 x2)
-- WhirlShafts$Line.tell(III)V with (12, None, None, None)
set_option maxRecDepth 20000 in
theorem m24 (d : Nat) (h : q_S) (x1 : Int32) (x2 : Int32) (x3 : Int32) : q_sem (d + 1) 24 h [.ref 12, .int x1, .int x2, .int x3] =
  if x1 = 0 then
    q_ix x2 8 (fun j1 =>
    some ((q_si h 14 j1 x3), none))
  else if x1 = 1 then
    q_ix x2 8 (fun j2 =>
    some ((q_si h 16 j2 x3), none))
  else if x1 = 2 then
    q_ix x2 8 (fun j3 =>
    some ((q_si h 15 j3 x3), none))
  else if x1 = 3 then
    q_ix x2 8 (fun j4 =>
    some ((q_si h 17 j4 x3), none))
  else if x1 = 4 then
    some ((q_si h 12 7 x3), none)
  else 
    some ((q_si h 12 8 x3), none) := (q_sem_s (by decide) (Nat.le_of_ble_eq_true rfl)).trans (b24_0 q_X0 (q_sem d) 999 h x1 x2 x3)
-- WhirlShafts$Line.tell(III)V with (18, None, None, None)
set_option maxRecDepth 20000 in
theorem m24_1 (d : Nat) (h : q_S) (x1 : Int32) (x2 : Int32) (x3 : Int32) : q_sem (d + 1) 24 h [.ref 18, .int x1, .int x2, .int x3] =
  if x1 = 0 then
    q_ix x2 8 (fun j1 =>
    some ((q_si h 20 j1 x3), none))
  else if x1 = 1 then
    q_ix x2 8 (fun j2 =>
    some ((q_si h 22 j2 x3), none))
  else if x1 = 2 then
    q_ix x2 8 (fun j3 =>
    some ((q_si h 21 j3 x3), none))
  else if x1 = 3 then
    q_ix x2 8 (fun j4 =>
    some ((q_si h 23 j4 x3), none))
  else if x1 = 4 then
    some ((q_si h 18 7 x3), none)
  else 
    some ((q_si h 18 8 x3), none) := (q_sem_s (by decide) (Nat.le_of_ble_eq_true rfl)).trans (b24_0_1 q_X0 (q_sem d) 999 h x1 x2 x3)
-- WhirlShafts$Line.ratios(I)I with (12, None)
set_option maxRecDepth 20000 in
theorem m25 (d : Nat) (h : q_S) (x1 : Int32) : q_sem (d + 1) 25 h [.ref 12, .int x1] =
  q_go e_25 q_X0 (q_sem d) 999 4 [(0, .ref 12), (1, .int x1), (2, .int 1), (3, .int 0)] [] h := (q_sem_s (by decide) (Nat.le_of_ble_eq_true rfl)).trans (b25_0 q_X0 (q_sem d) 999 h x1)
-- WhirlShafts$Line.ratios(I)I with (18, None)
set_option maxRecDepth 20000 in
theorem m25_1 (d : Nat) (h : q_S) (x1 : Int32) : q_sem (d + 1) 25 h [.ref 18, .int x1] =
  q_go e_25 q_X0 (q_sem d) 999 4 [(0, .ref 18), (1, .int x1), (2, .int 1), (3, .int 0)] [] h := (q_sem_s (by decide) (Nat.le_of_ble_eq_true rfl)).trans (b25_0_1 q_X0 (q_sem d) 999 h x1)
-- WhirlShafts$Line.ratios(I)I with (24, None)
set_option maxRecDepth 20000 in
theorem m25_2 (d : Nat) (h : q_S) (x1 : Int32) : q_sem (d + 1) 25 h [.ref 24, .int x1] =
  q_go e_25 q_X0 (q_sem d) 999 4 [(0, .ref 24), (1, .int x1), (2, .int 1), (3, .int 0)] [] h := (q_sem_s (by decide) (Nat.le_of_ble_eq_true rfl)).trans (b25_0_2 q_X0 (q_sem d) 999 h x1)
-- WhirlShafts$Line.ratiosBut(I)I with (12, None)
set_option maxRecDepth 20000 in
theorem m26 (d : Nat) (h : q_S) (x1 : Int32) : q_sem (d + 1) 26 h [.ref 12, .int x1] =
  q_go e_26 q_X0 (q_sem d) 999 4 [(0, .ref 12), (1, .int x1), (2, .int 1), (3, .int 0)] [] h := (q_sem_s (by decide) (Nat.le_of_ble_eq_true rfl)).trans (b26_0 q_X0 (q_sem d) 999 h x1)
-- WhirlShafts$Line.ratiosBut(I)I with (18, None)
set_option maxRecDepth 20000 in
theorem m26_1 (d : Nat) (h : q_S) (x1 : Int32) : q_sem (d + 1) 26 h [.ref 18, .int x1] =
  q_go e_26 q_X0 (q_sem d) 999 4 [(0, .ref 18), (1, .int x1), (2, .int 1), (3, .int 0)] [] h := (q_sem_s (by decide) (Nat.le_of_ble_eq_true rfl)).trans (b26_0_1 q_X0 (q_sem d) 999 h x1)
-- WhirlShafts$Line.factor(I)I with (12, None)
set_option maxRecDepth 20000 in
theorem m27 (d : Nat) (h : q_S) (x1 : Int32) : q_sem (d + 1) 27 h [.ref 12, .int x1] =
  q_c1 ((q_sem d) 25 h [.ref 12, .int x1]) (fun h1 v2 =>
  some (h1, some (.int (v2 * v2)))) := (q_sem_s (by decide) (Nat.le_of_ble_eq_true rfl)).trans (b27_0 q_X0 (q_sem d) 999 h x1)
-- WhirlShafts$Line.factor(I)I with (18, None)
set_option maxRecDepth 20000 in
theorem m27_1 (d : Nat) (h : q_S) (x1 : Int32) : q_sem (d + 1) 27 h [.ref 18, .int x1] =
  q_c1 ((q_sem d) 25 h [.ref 18, .int x1]) (fun h1 v2 =>
  some (h1, some (.int (v2 * v2)))) := (q_sem_s (by decide) (Nat.le_of_ble_eq_true rfl)).trans (b27_0_1 q_X0 (q_sem d) 999 h x1)
-- WhirlShafts$Line.factor(I)I with (24, None)
set_option maxRecDepth 20000 in
theorem m27_2 (d : Nat) (h : q_S) (x1 : Int32) : q_sem (d + 1) 27 h [.ref 24, .int x1] =
  q_c1 ((q_sem d) 25 h [.ref 24, .int x1]) (fun h1 v2 =>
  some (h1, some (.int (v2 * v2)))) := (q_sem_s (by decide) (Nat.le_of_ble_eq_true rfl)).trans (b27_0_2 q_X0 (q_sem d) 999 h x1)
-- WhirlShafts$Line.weight(I)I with (12, None)
set_option maxRecDepth 20000 in
theorem m28 (d : Nat) (h : q_S) (x1 : Int32) : q_sem (d + 1) 28 h [.ref 12, .int x1] =
  q_ix x1 8 (fun j1 =>
  q_ix (h.1 13 j1) 5 (fun j2 =>
  q_go e_28 q_X0 (q_sem d) 999 11 [(0, .ref 12), (1, .int x1)] [.ref (q_rf 1 j2)] h)) := (q_sem_s (by decide) (Nat.le_of_ble_eq_true rfl)).trans (b28_0 q_X0 (q_sem d) 999 h x1)
-- WhirlShafts$Line.weight(I)I with (18, None)
set_option maxRecDepth 20000 in
theorem m28_1 (d : Nat) (h : q_S) (x1 : Int32) : q_sem (d + 1) 28 h [.ref 18, .int x1] =
  q_ix x1 8 (fun j1 =>
  q_ix (h.1 19 j1) 5 (fun j2 =>
  q_go e_28 q_X0 (q_sem d) 999 11 [(0, .ref 18), (1, .int x1)] [.ref (q_rf 1 j2)] h)) := (q_sem_s (by decide) (Nat.le_of_ble_eq_true rfl)).trans (b28_0_1 q_X0 (q_sem d) 999 h x1)
-- WhirlShafts$Line.weight(I)I with (24, None)
set_option maxRecDepth 20000 in
theorem m28_2 (d : Nat) (h : q_S) (x1 : Int32) : q_sem (d + 1) 28 h [.ref 24, .int x1] =
  q_ix x1 8 (fun j1 =>
  q_ix (h.1 25 j1) 5 (fun j2 =>
  q_go e_28 q_X0 (q_sem d) 999 11 [(0, .ref 24), (1, .int x1)] [.ref (q_rf 1 j2)] h)) := (q_sem_s (by decide) (Nat.le_of_ble_eq_true rfl)).trans (b28_0_2 q_X0 (q_sem d) 999 h x1)
-- WhirlShafts$Line.reducedInertia(I)I with (12, None)
set_option maxRecDepth 20000 in
theorem m29 (d : Nat) (h : q_S) (x1 : Int32) : q_sem (d + 1) 29 h [.ref 12, .int x1] =
  q_c1 ((q_sem d) 28 h [.ref 12, .int x1]) (fun h1 v2 =>
  if (h1.1 12 8) = 1 then
    if 20 = 0 then none else
    q_c1 ((q_sem d) 27 h1 [.ref 12, .int x1]) (fun h3 v4 =>
    some (h3, some (.int ((v2 - ((v2 * (h1.1 12 7)) / 20)) * v4))))
  else
    if (h1.1 12 8) = 2 then
      if 10 = 0 then none else
      q_c1 ((q_sem d) 27 h1 [.ref 12, .int x1]) (fun h5 v6 =>
      some (h5, some (.int ((v2 + ((v2 * (h1.1 12 7)) / 10)) * v6))))
    else
      q_c1 ((q_sem d) 27 h1 [.ref 12, .int x1]) (fun h7 v8 =>
      some (h7, some (.int (v2 * v8))))) := (q_sem_s (by decide) (Nat.le_of_ble_eq_true rfl)).trans (b29_0 q_X0 (q_sem d) 999 h x1)
-- WhirlShafts$Line.reducedInertia(I)I with (18, None)
set_option maxRecDepth 20000 in
theorem m29_1 (d : Nat) (h : q_S) (x1 : Int32) : q_sem (d + 1) 29 h [.ref 18, .int x1] =
  q_c1 ((q_sem d) 28 h [.ref 18, .int x1]) (fun h1 v2 =>
  if (h1.1 18 8) = 1 then
    if 20 = 0 then none else
    q_c1 ((q_sem d) 27 h1 [.ref 18, .int x1]) (fun h3 v4 =>
    some (h3, some (.int ((v2 - ((v2 * (h1.1 18 7)) / 20)) * v4))))
  else
    if (h1.1 18 8) = 2 then
      if 10 = 0 then none else
      q_c1 ((q_sem d) 27 h1 [.ref 18, .int x1]) (fun h5 v6 =>
      some (h5, some (.int ((v2 + ((v2 * (h1.1 18 7)) / 10)) * v6))))
    else
      q_c1 ((q_sem d) 27 h1 [.ref 18, .int x1]) (fun h7 v8 =>
      some (h7, some (.int (v2 * v8))))) := (q_sem_s (by decide) (Nat.le_of_ble_eq_true rfl)).trans (b29_0_1 q_X0 (q_sem d) 999 h x1)
-- WhirlShafts$Line.reducedInertia(I)I with (24, None)
set_option maxRecDepth 20000 in
theorem m29_2 (d : Nat) (h : q_S) (x1 : Int32) : q_sem (d + 1) 29 h [.ref 24, .int x1] =
  q_c1 ((q_sem d) 28 h [.ref 24, .int x1]) (fun h1 v2 =>
  if (h1.1 24 8) = 1 then
    if 20 = 0 then none else
    q_c1 ((q_sem d) 27 h1 [.ref 24, .int x1]) (fun h3 v4 =>
    some (h3, some (.int ((v2 - ((v2 * (h1.1 24 7)) / 20)) * v4))))
  else
    if (h1.1 24 8) = 2 then
      if 10 = 0 then none else
      q_c1 ((q_sem d) 27 h1 [.ref 24, .int x1]) (fun h5 v6 =>
      some (h5, some (.int ((v2 + ((v2 * (h1.1 24 7)) / 10)) * v6))))
    else
      q_c1 ((q_sem d) 27 h1 [.ref 24, .int x1]) (fun h7 v8 =>
      some (h7, some (.int (v2 * v8))))) := (q_sem_s (by decide) (Nat.le_of_ble_eq_true rfl)).trans (b29_0_2 q_X0 (q_sem d) 999 h x1)
-- WhirlShafts$Line.reducedBearing(I)I with (12, None)
set_option maxRecDepth 20000 in
theorem m30 (d : Nat) (h : q_S) (x1 : Int32) : q_sem (d + 1) 30 h [.ref 12, .int x1] =
  q_ix x1 8 (fun j1 =>
  q_c1 ((q_sem d) 27 h [.ref 12, .int x1]) (fun h2 v3 =>
  some (h2, some (.int ((h.1 15 j1) * v3))))) := (q_sem_s (by decide) (Nat.le_of_ble_eq_true rfl)).trans (b30_0 q_X0 (q_sem d) 999 h x1)
-- WhirlShafts$Line.reducedBearing(I)I with (18, None)
set_option maxRecDepth 20000 in
theorem m30_1 (d : Nat) (h : q_S) (x1 : Int32) : q_sem (d + 1) 30 h [.ref 18, .int x1] =
  q_ix x1 8 (fun j1 =>
  q_c1 ((q_sem d) 27 h [.ref 18, .int x1]) (fun h2 v3 =>
  some (h2, some (.int ((h.1 21 j1) * v3))))) := (q_sem_s (by decide) (Nat.le_of_ble_eq_true rfl)).trans (b30_0_1 q_X0 (q_sem d) 999 h x1)
-- WhirlShafts$Line.reducedBearing(I)I with (24, None)
set_option maxRecDepth 20000 in
theorem m30_2 (d : Nat) (h : q_S) (x1 : Int32) : q_sem (d + 1) 30 h [.ref 24, .int x1] =
  q_ix x1 8 (fun j1 =>
  q_c1 ((q_sem d) 27 h [.ref 24, .int x1]) (fun h2 v3 =>
  some (h2, some (.int ((h.1 27 j1) * v3))))) := (q_sem_s (by decide) (Nat.le_of_ble_eq_true rfl)).trans (b30_0_2 q_X0 (q_sem d) 999 h x1)
-- WhirlShafts$Line.reducedStiff(I)I with (12, None)
set_option maxRecDepth 20000 in
theorem m31 (d : Nat) (h : q_S) (x1 : Int32) : q_sem (d + 1) 31 h [.ref 12, .int x1] =
  q_ix x1 8 (fun j1 =>
  q_c1 ((q_sem d) 27 h [.ref 12, .int x1]) (fun h2 v3 =>
  some (h2, some (.int ((h.1 16 j1) * v3))))) := (q_sem_s (by decide) (Nat.le_of_ble_eq_true rfl)).trans (b31_0 q_X0 (q_sem d) 999 h x1)
-- WhirlShafts$Line.reducedStiff(I)I with (18, None)
set_option maxRecDepth 20000 in
theorem m31_1 (d : Nat) (h : q_S) (x1 : Int32) : q_sem (d + 1) 31 h [.ref 18, .int x1] =
  q_ix x1 8 (fun j1 =>
  q_c1 ((q_sem d) 27 h [.ref 18, .int x1]) (fun h2 v3 =>
  some (h2, some (.int ((h.1 22 j1) * v3))))) := (q_sem_s (by decide) (Nat.le_of_ble_eq_true rfl)).trans (b31_0_1 q_X0 (q_sem d) 999 h x1)
-- WhirlShafts$Line.reducedStiff(I)I with (24, None)
set_option maxRecDepth 20000 in
theorem m31_2 (d : Nat) (h : q_S) (x1 : Int32) : q_sem (d + 1) 31 h [.ref 24, .int x1] =
  q_ix x1 8 (fun j1 =>
  q_c1 ((q_sem d) 27 h [.ref 24, .int x1]) (fun h2 v3 =>
  some (h2, some (.int ((h.1 28 j1) * v3))))) := (q_sem_s (by decide) (Nat.le_of_ble_eq_true rfl)).trans (b31_0_2 q_X0 (q_sem d) 999 h x1)
-- WhirlShafts$Line.holds(I)I with (12, None)
set_option maxRecDepth 20000 in
theorem m32 (d : Nat) (h : q_S) (x1 : Int32) : q_sem (d + 1) 32 h [.ref 12, .int x1] =
  q_c1 ((q_sem d) 30 h [.ref 12, .int x1]) (fun h1 v2 =>
  if 0 < x1 then
    q_c1 ((q_sem d) 31 h1 [.ref 12, .int (x1 - 1)]) (fun h3 v4 =>
    q_go e_32 q_X0 (q_sem d) 999 20 [(0, .ref 12), (1, .int x1), (2, .int (v2 + v4))] [] h3)
  else
    q_go e_32 q_X0 (q_sem d) 999 20 [(0, .ref 12), (1, .int x1), (2, .int v2)] [] h1) := (q_sem_s (by decide) (Nat.le_of_ble_eq_true rfl)).trans (b32_0 q_X0 (q_sem d) 999 h x1)
-- WhirlShafts$Line.holds(I)I with (18, None)
set_option maxRecDepth 20000 in
theorem m32_1 (d : Nat) (h : q_S) (x1 : Int32) : q_sem (d + 1) 32 h [.ref 18, .int x1] =
  q_c1 ((q_sem d) 30 h [.ref 18, .int x1]) (fun h1 v2 =>
  if 0 < x1 then
    q_c1 ((q_sem d) 31 h1 [.ref 18, .int (x1 - 1)]) (fun h3 v4 =>
    q_go e_32 q_X0 (q_sem d) 999 20 [(0, .ref 18), (1, .int x1), (2, .int (v2 + v4))] [] h3)
  else
    q_go e_32 q_X0 (q_sem d) 999 20 [(0, .ref 18), (1, .int x1), (2, .int v2)] [] h1) := (q_sem_s (by decide) (Nat.le_of_ble_eq_true rfl)).trans (b32_0_1 q_X0 (q_sem d) 999 h x1)
-- WhirlShafts$Line.reducesLike(LWhirlShafts$Line;)Z with (12, 24)
set_option maxRecDepth 20000 in
theorem m33 (d : Nat) (h : q_S)  : q_sem (d + 1) 33 h [.ref 12, .ref 24] =
  if (h.1 12 6) = (h.1 24 6) then
    q_go e_33 q_X0 (q_sem d) 999 15 [(0, .ref 12), (1, .ref 24), (2, .int 0)] [] h
  else
    some (h, some (.int 0)) := (q_sem_s (by decide) (Nat.le_of_ble_eq_true rfl)).trans (b33_0 q_X0 (q_sem d) 999 h )
-- WhirlShafts$Orders.add(III)I with (30, None, None, None)
set_option maxRecDepth 20000 in
theorem m34 (d : Nat) (h : q_S) (x1 : Int32) (x2 : Int32) (x3 : Int32) : q_sem (d + 1) 34 h [.ref 30, .int x1, .int x2, .int x3] =
  q_ix (h.1 30 3) 8 (fun j1 =>
  q_ix (h.1 30 3) 8 (fun j2 =>
  q_ix (h.1 30 3) 8 (fun j3 =>
  some ((q_si (q_si (q_si (q_si h 31 j1 x1) 32 j2 x2) 33 j3 x3) 30 3 ((h.1 30 3) + 1)), some (.int ((h.1 30 3) + 1)))))) := (q_sem_s (by decide) (Nat.le_of_ble_eq_true rfl)).trans (b34_0 q_X0 (q_sem d) 999 h x1 x2 x3)
-- WhirlShafts$Orders.takeFrom(LWhirlShafts$Orders;)V with (30, 34)
set_option maxRecDepth 20000 in
theorem m35 (d : Nat) (h : q_S)  : q_sem (d + 1) 35 h [.ref 30, .ref 34] =
  q_arc (q_si h 30 3 (h.1 34 3)) 35 0 31 0 8 (fun h1 =>
  q_arc h1 36 0 32 0 8 (fun h2 =>
  q_arc h2 37 0 33 0 8 (fun h3 =>
  some (h3, none)))) := (q_sem_s (by decide) (Nat.le_of_ble_eq_true rfl)).trans (b35_0 q_X0 (q_sem d) 999 h )
-- WhirlShafts$Orders.takeFrom(LWhirlShafts$Orders;)V with (34, 30)
set_option maxRecDepth 20000 in
theorem m35_1 (d : Nat) (h : q_S)  : q_sem (d + 1) 35 h [.ref 34, .ref 30] =
  q_arc (q_si h 34 3 (h.1 30 3)) 31 0 35 0 8 (fun h1 =>
  q_arc h1 32 0 36 0 8 (fun h2 =>
  q_arc h2 33 0 37 0 8 (fun h3 =>
  some (h3, none)))) := (q_sem_s (by decide) (Nat.le_of_ble_eq_true rfl)).trans (b35_0_1 q_X0 (q_sem d) 999 h )
-- WhirlShafts$Rates.take(LWhirlShafts$Line;)V with (43, 12)
set_option maxRecDepth 20000 in
theorem m36 (d : Nat) (h : q_S)  : q_sem (d + 1) 36 h [.ref 43, .ref 12] =
  q_go e_36 q_X0 (q_sem d) 999 10 [(0, .ref 43), (1, .ref 12), (2, .int 0)] [] (q_si h 43 0 (h.1 12 6)) := (q_sem_s (by decide) (Nat.le_of_ble_eq_true rfl)).trans (b36_0 q_X0 (q_sem d) 999 h )
-- WhirlShafts$Rates.take(LWhirlShafts$Line;)V with (43, 18)
set_option maxRecDepth 20000 in
theorem m36_1 (d : Nat) (h : q_S)  : q_sem (d + 1) 36 h [.ref 43, .ref 18] =
  q_go e_36 q_X0 (q_sem d) 999 10 [(0, .ref 43), (1, .ref 18), (2, .int 0)] [] (q_si h 43 0 (h.1 18 6)) := (q_sem_s (by decide) (Nat.le_of_ble_eq_true rfl)).trans (b36_0_1 q_X0 (q_sem d) 999 h )
-- WhirlShafts$Rates.belowAll(II)I with (43, None, None)
set_option maxRecDepth 20000 in
theorem m37 (d : Nat) (h : q_S) (x1 : Int32) (x2 : Int32) : q_sem (d + 1) 37 h [.ref 43, .int x1, .int x2] =
  q_c1 ((q_sem d) 38 h [.ref 43, .int 0, .int ((h.1 43 0) - 1), .int x1, .int x2]) (fun h1 v2 =>
  some (h1, some (.int v2))) := (q_sem_s (by decide) (Nat.le_of_ble_eq_true rfl)).trans (b37_0 q_X0 (q_sem d) 999 h x1 x2)
-- WhirlShafts$Rates.belowPart(IIII)I with (43, None, None, None, None)
set_option maxRecDepth 20000 in
theorem m38 (d : Nat) (h : q_S) (x1 : Int32) (x2 : Int32) (x3 : Int32) (x4 : Int32) : q_sem (d + 1) 38 h [.ref 43, .int x1, .int x2, .int x3, .int x4] =
  q_ix 0 9 (fun j1 =>
  q_b (Nat.beq (q_ty (q_rf 47 j1)) 1) (q_ix 0 (q_ln (q_rf 47 j1)) (fun j2 =>
  q_go e_38 q_X0 (q_sem d) 999 18 [(0, .ref 43), (1, .int x1), (2, .int x2), (3, .int x3), (4, .int x4), (5, .int 0), (6, .int 1), (7, .int x1)] [] (q_sl h (q_rf 47 j1) j2 (Int64.ofNat 1))))) := (q_sem_s (by decide) (Nat.le_of_ble_eq_true rfl)).trans (b38_0 q_X0 (q_sem d) 999 h x1 x2 x3 x4)
-- WhirlShafts$Rates.addRow(IJJ)V with (43, None, None, None)
set_option maxRecDepth 20000 in
theorem m39 (d : Nat) (h : q_S) (x1 : Int32) (x2 : Int64) (x3 : Int64) : q_sem (d + 1) 39 h [.ref 43, .int x1, .long x2, .long x3] =
  q_ix x1 9 (fun j1 =>
  if 0 < x1 then
    q_go e_39 q_X0 (q_sem d) 999 23 [(0, .ref 43), (1, .int x1), (2, .long x2), (4, .long x3), (6, .ref (q_rf 47 j1))] [.int (x1 - 1), .ref 47] h
  else
    q_go e_39 q_X0 (q_sem d) 999 23 [(0, .ref 43), (1, .int x1), (2, .long x2), (4, .long x3), (6, .ref (q_rf 47 j1))] [.int 0, .ref 47] h) := (q_sem_s (by decide) (Nat.le_of_ble_eq_true rfl)).trans (b39_0 q_X0 (q_sem d) 999 h x1 x2 x3)
-- WhirlShafts$Rates.signOfRow(I)I with (43, None)
set_option maxRecDepth 20000 in
theorem m40 (d : Nat) (h : q_S) (x1 : Int32) : q_sem (d + 1) 40 h [.ref 43, .int x1] =
  q_ix x1 9 (fun j1 =>
  q_b (Nat.beq (q_ty (q_rf 47 j1)) 1) (q_ix x1 (q_ln (q_rf 47 j1)) (fun j2 =>
  if (lg_cmp (h.2.1 (q_rf 47 j1) j2) (Int64.ofNat 0)) < 0 then
    some (h, some (.int (-1)))
  else
    q_go e_40 q_X0 (q_sem d) 999 19 [(1, .int x1), (2, .ref (q_rf 47 j1)), (3, .int 0)] [] h))) := (q_sem_s (by decide) (Nat.le_of_ble_eq_true rfl)).trans (b40_0 q_X0 (q_sem d) 999 h x1)
-- WhirlShafts$Rates.restOfRow(I)I with (43, None)
set_option maxRecDepth 20000 in
theorem m41 (d : Nat) (h : q_S) (x1 : Int32) : q_sem (d + 1) 41 h [.ref 43, .int x1] =
  q_go e_41 q_X0 (q_sem d) 999 5 [(0, .ref 43), (1, .int x1), (2, .long (Int64.ofNat 0)), (4, .int x1)] [] h := (q_sem_s (by decide) (Nat.le_of_ble_eq_true rfl)).trans (b41_0 q_X0 (q_sem d) 999 h x1)
-- WhirlShafts$Rates.highest()I with (43,)
set_option maxRecDepth 20000 in
theorem m42 (d : Nat) (h : q_S)  : q_sem (d + 1) 42 h [.ref 43] =
  if (h.1 43 0) = 0 then
    some (h, some (.int 0))
  else
    q_go e_42 q_X0 (q_sem d) 999 13 [(0, .ref 43), (1, .long (Int64.ofNat 0)), (3, .int 0)] [] h := (q_sem_s (by decide) (Nat.le_of_ble_eq_true rfl)).trans (b42_0 q_X0 (q_sem d) 999 h )
-- WhirlShafts$Rates.fenceOf(II)I with (43, None, None)
set_option maxRecDepth 20000 in
theorem m43 (d : Nat) (h : q_S) (x1 : Int32) (x2 : Int32) : q_sem (d + 1) 43 h [.ref 43, .int x1, .int x2] =
  q_c1 ((q_sem d) 42 h [.ref 43]) (fun h1 v2 =>
  q_go e_43 q_X0 (q_sem d) 999 15 [(0, .ref 43), (1, .int x1), (2, .int x2), (3, .int (v2 * x2)), (4, .int 0), (5, .int 8192)] [] h1) := (q_sem_s (by decide) (Nat.le_of_ble_eq_true rfl)).trans (b43_0 q_X0 (q_sem d) 999 h x1 x2)
-- WhirlShafts$Rates.fenceIs(IIJ)Z with (43, None, None, None)
set_option maxRecDepth 20000 in
theorem m44 (d : Nat) (h : q_S) (x1 : Int32) (x2 : Int32) (x3 : Int64) : q_sem (d + 1) 44 h [.ref 43, .int x1, .int x2, .long x3] =
  if (lg_cmp x3 (Int64.ofNat 0)) < 0 then
    some (h, some (.int 0))
  else
    if 0 < (lg_cmp x3 (Int64.ofNat 9999)) then
      some (h, some (.int 0))
    else
      q_c1 ((q_sem d) 37 h [.ref 43, .int (((x3 : Int64)).toInt32), .int x2]) (fun h1 v2 =>
      if x1 < v2 then
        some (h1, some (.int 0))
      else
        q_c1 ((q_sem d) 37 h1 [.ref 43, .int (((x3 : Int64)).toInt32 + 1), .int x2]) (fun h3 v4 =>
        if x1 < v4 then
          some (h3, some (.int 1))
        else
          some (h3, some (.int 0)))) := (q_sem_s (by decide) (Nat.le_of_ble_eq_true rfl)).trans (b44_0 q_X0 (q_sem d) 999 h x1 x2 x3)
-- WhirlShafts$Rates.between(III)I with (43, None, None, None)
set_option maxRecDepth 20000 in
theorem m45 (d : Nat) (h : q_S) (x1 : Int32) (x2 : Int32) (x3 : Int32) : q_sem (d + 1) 45 h [.ref 43, .int x1, .int x2, .int x3] =
  q_c1 ((q_sem d) 37 h [.ref 43, .int x2, .int x3]) (fun h1 v2 =>
  q_c1 ((q_sem d) 37 h1 [.ref 43, .int x1, .int x3]) (fun h3 v4 =>
  some (h3, some (.int (v2 - v4))))) := (q_sem_s (by decide) (Nat.le_of_ble_eq_true rfl)).trans (b45_0 q_X0 (q_sem d) 999 h x1 x2 x3)
-- WhirlShafts$Rim.weighs(II)I with (3, None, None)
set_option maxRecDepth 20000 in
theorem m46 (d : Nat) (h : q_S) (x1 : Int32) (x2 : Int32) : q_sem (d + 1) 46 h [.ref 3, .int x1, .int x2] =
  some (h, some (.int (x1 * 2))) := (q_sem_s (by decide) (Nat.le_of_ble_eq_true rfl)).trans (b46_0 q_X0 (q_sem d) 999 h x1 x2)
-- WhirlShafts$Rim.weighs(II)I with (5, None, None)
set_option maxRecDepth 20000 in
theorem m46_1 (d : Nat) (h : q_S) (x1 : Int32) (x2 : Int32) : q_sem (d + 1) 46 h [.ref 5, .int x1, .int x2] =
  some (h, some (.int (x1 * 2))) := (q_sem_s (by decide) (Nat.le_of_ble_eq_true rfl)).trans (b46_0_1 q_X0 (q_sem d) 999 h x1 x2)
-- WhirlShafts$Rim.swings(I)I with (3, None)
set_option maxRecDepth 20000 in
theorem m47 (d : Nat) (h : q_S) (x1 : Int32) : q_sem (d + 1) 47 h [.ref 3, .int x1] =
  q_c0 ((q_sem d) 9 h [.ref 3, .int 20]) (fun h1 =>
  q_c1 ((q_sem d) 12 h1 [.ref 3, .int x1]) (fun h2 v3 =>
  some (h2, some (.int (v3 ^^^ 3))))) := (q_sem_s (by decide) (Nat.le_of_ble_eq_true rfl)).trans (b47_0 q_X0 (q_sem d) 999 h x1)
-- WhirlShafts$Rim.swings(I)I with (5, None)
set_option maxRecDepth 20000 in
theorem m47_1 (d : Nat) (h : q_S) (x1 : Int32) : q_sem (d + 1) 47 h [.ref 5, .int x1] =
  q_c0 ((q_sem d) 9 h [.ref 5, .int 20]) (fun h1 =>
  q_c1 ((q_sem d) 12 h1 [.ref 5, .int x1]) (fun h2 v3 =>
  some (h2, some (.int (v3 ^^^ 3))))) := (q_sem_s (by decide) (Nat.le_of_ble_eq_true rfl)).trans (b47_0_1 q_X0 (q_sem d) 999 h x1)
-- WhirlShafts$Row.isMissing()Z with (61,)
set_option maxRecDepth 20000 in
theorem m48 (d : Nat) (h : q_S)  : q_sem (d + 1) 48 h [.ref 61] =
  if (h.1 61 1) = (-1) then
    some (h, some (.int 1))
  else
    some (h, some (.int 0)) := (q_sem_s (by decide) (Nat.le_of_ble_eq_true rfl)).trans (b48_0 q_X0 (q_sem d) 999 h )
-- WhirlShafts$Row.isMissing()Z with (62,)
set_option maxRecDepth 20000 in
theorem m48_1 (d : Nat) (h : q_S)  : q_sem (d + 1) 48 h [.ref 62] =
  if (h.1 62 1) = (-1) then
    some (h, some (.int 1))
  else
    some (h, some (.int 0)) := (q_sem_s (by decide) (Nat.le_of_ble_eq_true rfl)).trans (b48_0_1 q_X0 (q_sem d) 999 h )
-- WhirlShafts$Row.isMissing()Z with (63,)
set_option maxRecDepth 20000 in
theorem m48_2 (d : Nat) (h : q_S)  : q_sem (d + 1) 48 h [.ref 63] =
  if (h.1 63 1) = (-1) then
    some (h, some (.int 1))
  else
    some (h, some (.int 0)) := (q_sem_s (by decide) (Nat.le_of_ble_eq_true rfl)).trans (b48_0_2 q_X0 (q_sem d) 999 h )
-- WhirlShafts$Row.become(II)V with (61, None, None)
set_option maxRecDepth 20000 in
theorem m49 (d : Nat) (h : q_S) (x1 : Int32) (x2 : Int32) : q_sem (d + 1) 49 h [.ref 61, .int x1, .int x2] =
  q_go e_49 q_X0 (q_sem d) 999 12 [(0, .ref 61), (3, .int 0)] [] (q_si (q_si h 61 1 x1) 61 2 x2) := (q_sem_s (by decide) (Nat.le_of_ble_eq_true rfl)).trans (b49_0 q_X0 (q_sem d) 999 h x1 x2)
-- WhirlShafts$Row.become(II)V with (62, None, None)
set_option maxRecDepth 20000 in
theorem m49_1 (d : Nat) (h : q_S) (x1 : Int32) (x2 : Int32) : q_sem (d + 1) 49 h [.ref 62, .int x1, .int x2] =
  q_go e_49 q_X0 (q_sem d) 999 12 [(0, .ref 62), (3, .int 0)] [] (q_si (q_si h 62 1 x1) 62 2 x2) := (q_sem_s (by decide) (Nat.le_of_ble_eq_true rfl)).trans (b49_0_1 q_X0 (q_sem d) 999 h x1 x2)
-- WhirlShafts$Row.become(II)V with (63, None, None)
set_option maxRecDepth 20000 in
theorem m49_2 (d : Nat) (h : q_S) (x1 : Int32) (x2 : Int32) : q_sem (d + 1) 49 h [.ref 63, .int x1, .int x2] =
  q_go e_49 q_X0 (q_sem d) 999 12 [(0, .ref 63), (3, .int 0)] [] (q_si (q_si h 63 1 x1) 63 2 x2) := (q_sem_s (by decide) (Nat.le_of_ble_eq_true rfl)).trans (b49_0_2 q_X0 (q_sem d) 999 h x1 x2)
-- WhirlShafts$Row.hasPlace(I)Z with (61, None)
set_option maxRecDepth 20000 in
theorem m50 (d : Nat) (h : q_S) (x1 : Int32) : q_sem (d + 1) 50 h [.ref 61, .int x1] =
  if x1 < 0 then
    some (h, some (.int 0))
  else
    if x1 < (h.1 61 2) then
      some (h, some (.int 1))
    else
      some (h, some (.int 0)) := (q_sem_s (by decide) (Nat.le_of_ble_eq_true rfl)).trans (b50_0 q_X0 (q_sem d) 999 h x1)
-- WhirlShafts$Row.hasPlace(I)Z with (62, None)
set_option maxRecDepth 20000 in
theorem m50_1 (d : Nat) (h : q_S) (x1 : Int32) : q_sem (d + 1) 50 h [.ref 62, .int x1] =
  if x1 < 0 then
    some (h, some (.int 0))
  else
    if x1 < (h.1 62 2) then
      some (h, some (.int 1))
    else
      some (h, some (.int 0)) := (q_sem_s (by decide) (Nat.le_of_ble_eq_true rfl)).trans (b50_0_1 q_X0 (q_sem d) 999 h x1)
-- WhirlShafts$Row.hasPlace(I)Z with (63, None)
set_option maxRecDepth 20000 in
theorem m50_2 (d : Nat) (h : q_S) (x1 : Int32) : q_sem (d + 1) 50 h [.ref 63, .int x1] =
  if x1 < 0 then
    some (h, some (.int 0))
  else
    if x1 < (h.1 63 2) then
      some (h, some (.int 1))
    else
      some (h, some (.int 0)) := (q_sem_s (by decide) (Nat.le_of_ble_eq_true rfl)).trans (b50_0_2 q_X0 (q_sem d) 999 h x1)
-- WhirlShafts$Row.hasSpan(II)Z with (61, None, None)
set_option maxRecDepth 20000 in
theorem m51 (d : Nat) (h : q_S) (x1 : Int32) (x2 : Int32) : q_sem (d + 1) 51 h [.ref 61, .int x1, .int x2] =
  if x2 < 0 then
    some (h, some (.int 0))
  else
    if x1 < 0 then
      some (h, some (.int 0))
    else
      if (h.1 61 2) < x2 then
        some (h, some (.int 0))
      else
        if ((h.1 61 2) - x2) < x1 then
          some (h, some (.int 0))
        else
          some (h, some (.int 1)) := (q_sem_s (by decide) (Nat.le_of_ble_eq_true rfl)).trans (b51_0 q_X0 (q_sem d) 999 h x1 x2)
-- WhirlShafts$Row.hasSpan(II)Z with (62, None, None)
set_option maxRecDepth 20000 in
theorem m51_1 (d : Nat) (h : q_S) (x1 : Int32) (x2 : Int32) : q_sem (d + 1) 51 h [.ref 62, .int x1, .int x2] =
  if x2 < 0 then
    some (h, some (.int 0))
  else
    if x1 < 0 then
      some (h, some (.int 0))
    else
      if (h.1 62 2) < x2 then
        some (h, some (.int 0))
      else
        if ((h.1 62 2) - x2) < x1 then
          some (h, some (.int 0))
        else
          some (h, some (.int 1)) := (q_sem_s (by decide) (Nat.le_of_ble_eq_true rfl)).trans (b51_0_1 q_X0 (q_sem d) 999 h x1 x2)
-- WhirlShafts$Row.hasSpan(II)Z with (63, None, None)
set_option maxRecDepth 20000 in
theorem m51_2 (d : Nat) (h : q_S) (x1 : Int32) (x2 : Int32) : q_sem (d + 1) 51 h [.ref 63, .int x1, .int x2] =
  if x2 < 0 then
    some (h, some (.int 0))
  else
    if x1 < 0 then
      some (h, some (.int 0))
    else
      if (h.1 63 2) < x2 then
        some (h, some (.int 0))
      else
        if ((h.1 63 2) - x2) < x1 then
          some (h, some (.int 0))
        else
          some (h, some (.int 1)) := (q_sem_s (by decide) (Nat.le_of_ble_eq_true rfl)).trans (b51_0_2 q_X0 (q_sem d) 999 h x1 x2)
-- WhirlShafts$Row.store(IJ)V with (61, None, None)
set_option maxRecDepth 20000 in
theorem m52 (d : Nat) (h : q_S) (x1 : Int32) (x2 : Int64) : q_sem (d + 1) 52 h [.ref 61, .int x1, .long x2] =
  if (h.1 61 1) = 0 then
    q_ix x1 40 (fun j1 =>
    some ((q_sl h 64 j1 (((((((x2 : Int64)).toInt32 : Int32)).toInt8.toInt32 : Int32)).toInt64)), none))
  else
    if (h.1 61 1) = 1 then
      q_ix x1 40 (fun j2 =>
      some ((q_sl h 64 j2 (((((x2 : Int64)).toInt32 : Int32)).toInt64)), none))
    else
      q_ix x1 40 (fun j3 =>
      some ((q_sl h 64 j3 x2), none)) := (q_sem_s (by decide) (Nat.le_of_ble_eq_true rfl)).trans (b52_0 q_X0 (q_sem d) 999 h x1 x2)
-- WhirlShafts$Row.store(IJ)V with (62, None, None)
set_option maxRecDepth 20000 in
theorem m52_1 (d : Nat) (h : q_S) (x1 : Int32) (x2 : Int64) : q_sem (d + 1) 52 h [.ref 62, .int x1, .long x2] =
  if (h.1 62 1) = 0 then
    q_ix x1 40 (fun j1 =>
    some ((q_sl h 65 j1 (((((((x2 : Int64)).toInt32 : Int32)).toInt8.toInt32 : Int32)).toInt64)), none))
  else
    if (h.1 62 1) = 1 then
      q_ix x1 40 (fun j2 =>
      some ((q_sl h 65 j2 (((((x2 : Int64)).toInt32 : Int32)).toInt64)), none))
    else
      q_ix x1 40 (fun j3 =>
      some ((q_sl h 65 j3 x2), none)) := (q_sem_s (by decide) (Nat.le_of_ble_eq_true rfl)).trans (b52_0_1 q_X0 (q_sem d) 999 h x1 x2)
-- WhirlShafts$Row.store(IJ)V with (63, None, None)
set_option maxRecDepth 20000 in
theorem m52_2 (d : Nat) (h : q_S) (x1 : Int32) (x2 : Int64) : q_sem (d + 1) 52 h [.ref 63, .int x1, .long x2] =
  if (h.1 63 1) = 0 then
    q_ix x1 40 (fun j1 =>
    some ((q_sl h 66 j1 (((((((x2 : Int64)).toInt32 : Int32)).toInt8.toInt32 : Int32)).toInt64)), none))
  else
    if (h.1 63 1) = 1 then
      q_ix x1 40 (fun j2 =>
      some ((q_sl h 66 j2 (((((x2 : Int64)).toInt32 : Int32)).toInt64)), none))
    else
      q_ix x1 40 (fun j3 =>
      some ((q_sl h 66 j3 x2), none)) := (q_sem_s (by decide) (Nat.le_of_ble_eq_true rfl)).trans (b52_0_2 q_X0 (q_sem d) 999 h x1 x2)
-- WhirlShafts$Shell.weighs(II)I with (6, None, None)
set_option maxRecDepth 20000 in
theorem m53 (d : Nat) (h : q_S) (x1 : Int32) (x2 : Int32) : q_sem (d + 1) 53 h [.ref 6, .int x1, .int x2] =
  q_c1 ((q_sem d) 14 h [.ref 6, .int x1, .int x2]) (fun h1 v2 =>
  if 2 = 0 then none else
  q_c1 ((q_sem d) 208 h1 [.int 1, .int (v2 - (x2 / 2))]) (fun h3 v4 =>
  some (h3, some (.int v4)))) := (q_sem_s (by decide) (Nat.le_of_ble_eq_true rfl)).trans (b53_0 q_X0 (q_sem d) 999 h x1 x2)
-- WhirlShafts$Shell.swings(I)I with (6, None)
set_option maxRecDepth 20000 in
theorem m54 (d : Nat) (h : q_S) (x1 : Int32) : q_sem (d + 1) 54 h [.ref 6, .int x1] =
  q_c0 ((q_sem d) 9 h [.ref 6, .int 50]) (fun h1 =>
  q_c1 ((q_sem d) 12 h1 [.ref 6, .int x1]) (fun h2 v3 =>
  q_c1 ((q_sem d) 15 h2 [.ref 6, .int 2]) (fun h4 v5 =>
  some (h4, some (.int (v3 + v5)))))) := (q_sem_s (by decide) (Nat.le_of_ble_eq_true rfl)).trans (b54_0 q_X0 (q_sem d) 999 h x1)
-- WhirlShafts$Tape.add(I)I with (57, None)
set_option maxRecDepth 20000 in
theorem m55 (d : Nat) (h : q_S) (x1 : Int32) : q_sem (d + 1) 55 h [.ref 57, .int x1] =
  q_ix (h.1 57 1) 80 (fun j1 =>
  some ((q_si (q_si h 58 j1 x1) 57 1 ((h.1 57 1) + 1)), some (.int ((h.1 57 1) + 1)))) := (q_sem_s (by decide) (Nat.le_of_ble_eq_true rfl)).trans (b55_0 q_X0 (q_sem d) 999 h x1)
-- WhirlShafts$Tape.numbersBehind(I)I with (None,)
set_option maxRecDepth 20000 in
theorem m56 (d : Nat) (h : q_S) (x0 : Int32) : q_sem (d + 1) 56 h [.int x0] =
  if x0 = 98 then
    some (h, some (.int 2))
  else if x0 = 99 then
    some (h, some (.int (-1)))
  else if x0 = 100 then
    some (h, some (.int 3))
  else if x0 = 101 then
    some (h, some (.int (-1)))
  else if x0 = 102 then
    some (h, some (.int (-1)))
  else if x0 = 103 then
    some (h, some (.int 2))
  else if x0 = 104 then
    some (h, some (.int (-1)))
  else if x0 = 105 then
    some (h, some (.int 2))
  else if x0 = 106 then
    some (h, some (.int (-1)))
  else if x0 = 107 then
    some (h, some (.int 2))
  else if x0 = 108 then
    some (h, some (.int (-1)))
  else if x0 = 109 then
    some (h, some (.int (-1)))
  else if x0 = 110 then
    some (h, some (.int 1))
  else if x0 = 111 then
    some (h, some (.int (-1)))
  else if x0 = 112 then
    some (h, some (.int (-1)))
  else if x0 = 113 then
    some (h, some (.int (-1)))
  else if x0 = 114 then
    some (h, some (.int (-1)))
  else if x0 = 115 then
    some (h, some (.int (-1)))
  else if x0 = 116 then
    some (h, some (.int (-1)))
  else if x0 = 117 then
    some (h, some (.int (-1)))
  else if x0 = 118 then
    some (h, some (.int (-1)))
  else if x0 = 119 then
    some (h, some (.int 1))
  else if x0 = 120 then
    some (h, some (.int 0))
  else 
    some (h, some (.int (-1))) := (q_sem_s (by decide) (Nat.le_of_ble_eq_true rfl)).trans (b56_0 q_X0 (q_sem d) 999 h x0)
-- WhirlShafts$Tape.isFigure(I)Z with (None,)
set_option maxRecDepth 20000 in
theorem m57 (d : Nat) (h : q_S) (x0 : Int32) : q_sem (d + 1) 57 h [.int x0] =
  if x0 < 48 then
    some (h, some (.int 0))
  else
    if 57 < x0 then
      some (h, some (.int 0))
    else
      some (h, some (.int 1)) := (q_sem_s (by decide) (Nat.le_of_ble_eq_true rfl)).trans (b57_0 q_X0 (q_sem d) 999 h x0)
-- WhirlShafts$Tape.fault()I with (57,)
set_option maxRecDepth 20000 in
theorem m58 (d : Nat) (h : q_S)  : q_sem (d + 1) 58 h [.ref 57] =
  q_go e_58 q_X0 (q_sem d) 999 6 [(0, .ref 57), (1, .int 0), (2, .int 0), (3, .int 0)] [] h := (q_sem_s (by decide) (Nat.le_of_ble_eq_true rfl)).trans (b58_0 q_X0 (q_sem d) 999 h )
-- WhirlShafts$Tape.nextAct()I with (57,)
set_option maxRecDepth 20000 in
theorem m59 (d : Nat) (h : q_S)  : q_sem (d + 1) 59 h [.ref 57] =
  q_ix (h.1 57 2) 80 (fun j1 =>
  q_c1 ((q_sem d) 56 h [.int (h.1 58 j1)]) (fun h2 v3 =>
  q_go e_59 q_X0 (q_sem d) 999 27 [(0, .ref 57), (1, .int (h.1 58 j1)), (2, .int v3), (3, .int 0)] [] (q_si h2 57 2 ((h2.1 57 2) + 1)))) := (q_sem_s (by decide) (Nat.le_of_ble_eq_true rfl)).trans (b59_0 q_X0 (q_sem d) 999 h )
-- WhirlShafts$Tape.nextNumber()I with (57,)
set_option maxRecDepth 20000 in
theorem m60 (d : Nat) (h : q_S)  : q_sem (d + 1) 60 h [.ref 57] =
  q_go e_60 q_X0 (q_sem d) 999 2 [(0, .ref 57), (1, .int 0)] [] h := (q_sem_s (by decide) (Nat.le_of_ble_eq_true rfl)).trans (b60_0 q_X0 (q_sem d) 999 h )
-- WhirlShafts.disc(III)I with (0, None, None, None)
set_option maxRecDepth 20000 in
theorem m61 (d : Nat) (h : q_S) (x1 : Int32) (x2 : Int32) (x3 : Int32) : q_sem (d + 1) 61 h [.ref 0, .int x1, .int x2, .int x3] =
  q_c1 ((q_sem d) 104 h [.int x1]) (fun h1 v2 =>
  if v2 = 0 then
    some (h1, some (.int (-1)))
  else
    q_c1 ((q_sem d) 105 h1 [.int 0, .int x2]) (fun h3 v4 =>
    if v4 = 0 then
      some (h3, some (.int (-1)))
    else
      if 0 < (h3.1 12 6) then
        q_c1 ((q_sem d) 105 h3 [.int 1, .int x3]) (fun h5 v6 =>
        if v6 = 0 then
          some (h5, some (.int (-1)))
        else
          q_go e_61 q_X0 (q_sem d) 999 37 [(0, .ref 0), (1, .int x1), (2, .int x2), (3, .int x3)] [] h5)
      else
        q_go e_61 q_X0 (q_sem d) 999 37 [(0, .ref 0), (1, .int x1), (2, .int x2), (3, .int x3)] [] h3)) := (q_sem_s (by decide) (Nat.le_of_ble_eq_true rfl)).trans (b61_0 q_X0 (q_sem d) 999 h x1 x2 x3)
-- WhirlShafts.cut()I with (0,)
set_option maxRecDepth 20000 in
theorem m62 (d : Nat) (h : q_S)  : q_sem (d + 1) 62 h [.ref 0] =
  if (h.1 12 6) = 0 then
    some (h, some (.int (-5)))
  else
    q_c0 ((q_sem d) 0 h [.ref 38]) (fun h1 =>
    some ((q_si h1 12 6 ((h1.1 12 6) - 1)), some (.int ((h1.1 12 6) - 1)))) := (q_sem_s (by decide) (Nat.le_of_ble_eq_true rfl)).trans (b62_0 q_X0 (q_sem d) 999 h )
-- WhirlShafts.clear()I with (0,)
set_option maxRecDepth 20000 in
theorem m63 (d : Nat) (h : q_S)  : q_sem (d + 1) 63 h [.ref 0] =
  q_c0 ((q_sem d) 0 h [.ref 38]) (fun h1 =>
  some ((q_si (q_si (q_si h1 12 6 0) 12 7 0) 12 8 0), some (.int (h.1 12 6)))) := (q_sem_s (by decide) (Nat.le_of_ble_eq_true rfl)).trans (b63_0 q_X0 (q_sem d) 999 h )
-- WhirlShafts.set(III)I with (0, None, None, None)
set_option maxRecDepth 20000 in
theorem m64 (d : Nat) (h : q_S) (x1 : Int32) (x2 : Int32) (x3 : Int32) : q_sem (d + 1) 64 h [.ref 0, .int x1, .int x2, .int x3] =
  q_c1 ((q_sem d) 22 h [.ref 12, .int x1, .int x2, .int x3]) (fun h1 v2 =>
  if v2 = 0 then
    q_c1 ((q_sem d) 23 h1 [.ref 12, .int x1, .int x2]) (fun h3 v4 =>
    if v4 = x3 then
      some (h3, some (.int v4))
    else
      q_c0 ((q_sem d) 24 h3 [.ref 12, .int x1, .int x2, .int x3]) (fun h5 =>
      q_c0 ((q_sem d) 1 h5 [.ref 38, .int x1, .int x2, .int v4, .int x3]) (fun h6 =>
      some (h6, some (.int v4)))))
  else
    some (h1, some (.int v2))) := (q_sem_s (by decide) (Nat.le_of_ble_eq_true rfl)).trans (b64_0 q_X0 (q_sem d) 999 h x1 x2 x3)
-- WhirlShafts.of(II)I with (0, None, None)
set_option maxRecDepth 20000 in
theorem m65 (d : Nat) (h : q_S) (x1 : Int32) (x2 : Int32) : q_sem (d + 1) 65 h [.ref 0, .int x1, .int x2] =
  if 5 < x1 then
    if x1 = 12 then
      q_c1 ((q_sem d) 20 h [.ref 12, .int x2]) (fun h1 v2 =>
      if v2 = 0 then
        some (h1, some (.int (-1)))
      else
        q_c1 ((q_sem d) 31 h1 [.ref 12, .int x2]) (fun h3 v4 =>
        some (h3, some (.int v4))))
    else
      q_c1 ((q_sem d) 19 h [.ref 12, .int x2]) (fun h5 v6 =>
      if v6 = 0 then
        some (h5, some (.int (-1)))
      else
        if x1 = 6 then
          q_ix x2 8 (fun j7 =>
          some (h5, some (.int (h5.1 13 j7))))
        else if x1 = 7 then
          q_c1 ((q_sem d) 28 h5 [.ref 12, .int x2]) (fun h8 v9 =>
          some (h8, some (.int v9)))
        else if x1 = 8 then
          q_c1 ((q_sem d) 29 h5 [.ref 12, .int x2]) (fun h10 v11 =>
          some (h10, some (.int v11)))
        else if x1 = 9 then
          q_c1 ((q_sem d) 30 h5 [.ref 12, .int x2]) (fun h12 v13 =>
          some (h12, some (.int v13)))
        else if x1 = 10 then
          q_c1 ((q_sem d) 27 h5 [.ref 12, .int x2]) (fun h14 v15 =>
          some (h14, some (.int v15)))
        else if x1 = 11 then
          q_c1 ((q_sem d) 32 h5 [.ref 12, .int x2]) (fun h16 v17 =>
          some (h16, some (.int v17)))
        else 
          some (h5, some (.int (-1))))
  else
    q_c1 ((q_sem d) 21 h [.ref 12, .int x1, .int x2]) (fun h18 v19 =>
    if v19 = 0 then
      some (h18, some (.int (-1)))
    else
      q_c1 ((q_sem d) 23 h18 [.ref 12, .int x1, .int x2]) (fun h20 v21 =>
      some (h20, some (.int v21)))) := (q_sem_s (by decide) (Nat.le_of_ble_eq_true rfl)).trans (b65_0 q_X0 (q_sem d) 999 h x1 x2)
-- WhirlShafts.below(II)I with (0, None, None)
set_option maxRecDepth 20000 in
theorem m66 (d : Nat) (h : q_S) (x1 : Int32) (x2 : Int32) : q_sem (d + 1) 66 h [.ref 0, .int x1, .int x2] =
  q_c1 ((q_sem d) 107 h [.int x1, .int x2]) (fun h1 v2 =>
  if v2 = 0 then
    some (h1, some (.int (-1)))
  else
    q_c0 ((q_sem d) 36 h1 [.ref 43, .ref 12]) (fun h3 =>
    q_c1 ((q_sem d) 37 h3 [.ref 43, .int x1, .int x2]) (fun h4 v5 =>
    some (h4, some (.int v5))))) := (q_sem_s (by decide) (Nat.le_of_ble_eq_true rfl)).trans (b66_0 q_X0 (q_sem d) 999 h x1 x2)
-- WhirlShafts.isRate(II)I with (0, None, None)
set_option maxRecDepth 20000 in
theorem m67 (d : Nat) (h : q_S) (x1 : Int32) (x2 : Int32) : q_sem (d + 1) 67 h [.ref 0, .int x1, .int x2] =
  q_c1 ((q_sem d) 107 h [.int x1, .int x2]) (fun h1 v2 =>
  if v2 = 0 then
    some (h1, some (.int (-1)))
  else
    q_c0 ((q_sem d) 36 h1 [.ref 43, .ref 12]) (fun h3 =>
    q_c1 ((q_sem d) 37 h3 [.ref 43, .int x1, .int x2]) (fun h4 v5 =>
    q_c1 ((q_sem d) 40 h4 [.ref 43, .int (h4.1 12 6)]) (fun h6 v7 =>
    if v7 = 0 then
      some (h6, some (.int 1))
    else
      some (h6, some (.int 0)))))) := (q_sem_s (by decide) (Nat.le_of_ble_eq_true rfl)).trans (b67_0 q_X0 (q_sem d) 999 h x1 x2)
-- WhirlShafts.sign(III)I with (0, None, None, None)
set_option maxRecDepth 20000 in
theorem m68 (d : Nat) (h : q_S) (x1 : Int32) (x2 : Int32) (x3 : Int32) : q_sem (d + 1) 68 h [.ref 0, .int x1, .int x2, .int x3] =
  q_c1 ((q_sem d) 19 h [.ref 12, .int x1]) (fun h1 v2 =>
  if v2 = 0 then
    some (h1, some (.int (-1000)))
  else
    q_c1 ((q_sem d) 107 h1 [.int x2, .int x3]) (fun h3 v4 =>
    if v4 = 0 then
      some (h3, some (.int (-1000)))
    else
      q_c0 ((q_sem d) 36 h3 [.ref 43, .ref 12]) (fun h5 =>
      q_c1 ((q_sem d) 38 h5 [.ref 43, .int 0, .int (x1 - 1), .int x2, .int x3]) (fun h6 v7 =>
      q_c1 ((q_sem d) 40 h6 [.ref 43, .int x1]) (fun h8 v9 =>
      some (h8, some (.int v9))))))) := (q_sem_s (by decide) (Nat.le_of_ble_eq_true rfl)).trans (b68_0 q_X0 (q_sem d) 999 h x1 x2 x3)
-- WhirlShafts.nodes(II)I with (0, None, None)
set_option maxRecDepth 20000 in
theorem m69 (d : Nat) (h : q_S) (x1 : Int32) (x2 : Int32) : q_sem (d + 1) 69 h [.ref 0, .int x1, .int x2] =
  q_c1 ((q_sem d) 107 h [.int x1, .int x2]) (fun h1 v2 =>
  if v2 = 0 then
    some (h1, some (.int (-1)))
  else
    q_c0 ((q_sem d) 36 h1 [.ref 43, .ref 12]) (fun h3 =>
    q_c1 ((q_sem d) 38 h3 [.ref 43, .int 0, .int ((h3.1 12 6) - 2), .int x1, .int x2]) (fun h4 v5 =>
    some (h4, some (.int v5))))) := (q_sem_s (by decide) (Nat.le_of_ble_eq_true rfl)).trans (b69_0 q_X0 (q_sem d) 999 h x1 x2)
-- WhirlShafts.rest(III)I with (0, None, None, None)
set_option maxRecDepth 20000 in
theorem m70 (d : Nat) (h : q_S) (x1 : Int32) (x2 : Int32) (x3 : Int32) : q_sem (d + 1) 70 h [.ref 0, .int x1, .int x2, .int x3] =
  if x1 < 0 then
    some (h, some (.int (-1)))
  else
    if (h.1 12 6) < x1 then
      some (h, some (.int (-1)))
    else
      q_c1 ((q_sem d) 107 h [.int x2, .int x3]) (fun h1 v2 =>
      if v2 = 0 then
        some (h1, some (.int (-1)))
      else
        q_c0 ((q_sem d) 36 h1 [.ref 43, .ref 12]) (fun h3 =>
        q_c1 ((q_sem d) 38 h3 [.ref 43, .int 0, .int (x1 - 1), .int x2, .int x3]) (fun h4 v5 =>
        q_c1 ((q_sem d) 41 h4 [.ref 43, .int x1]) (fun h6 v7 =>
        some (h6, some (.int v7)))))) := (q_sem_s (by decide) (Nat.le_of_ble_eq_true rfl)).trans (b70_0 q_X0 (q_sem d) 999 h x1 x2 x3)
-- WhirlShafts.top()I with (0,)
set_option maxRecDepth 20000 in
theorem m71 (d : Nat) (h : q_S)  : q_sem (d + 1) 71 h [.ref 0] =
  q_c0 ((q_sem d) 36 h [.ref 43, .ref 12]) (fun h1 =>
  q_c1 ((q_sem d) 42 h1 [.ref 43]) (fun h2 v3 =>
  some (h2, some (.int v3)))) := (q_sem_s (by decide) (Nat.le_of_ble_eq_true rfl)).trans (b71_0 q_X0 (q_sem d) 999 h )
-- WhirlShafts.fence(II)I with (0, None, None)
set_option maxRecDepth 20000 in
theorem m72 (d : Nat) (h : q_S) (x1 : Int32) (x2 : Int32) : q_sem (d + 1) 72 h [.ref 0, .int x1, .int x2] =
  q_c1 ((q_sem d) 19 h [.ref 12, .int x1]) (fun h1 v2 =>
  if v2 = 0 then
    some (h1, some (.int (-1)))
  else
    q_c1 ((q_sem d) 106 h1 [.int x2]) (fun h3 v4 =>
    if v4 = 0 then
      some (h3, some (.int (-1)))
    else
      q_c1 ((q_sem d) 112 h3 [.ref 0, .ref 12, .int x1, .int x2]) (fun h5 v6 =>
      some (h5, some (.int v6))))) := (q_sem_s (by decide) (Nat.le_of_ble_eq_true rfl)).trans (b72_0 q_X0 (q_sem d) 999 h x1 x2)
-- WhirlShafts.held(III)I with (0, None, None, None)
set_option maxRecDepth 20000 in
theorem m73 (d : Nat) (h : q_S) (x1 : Int32) (x2 : Int32) (x3 : Int32) : q_sem (d + 1) 73 h [.ref 0, .int x1, .int x2, .int x3] =
  q_c1 ((q_sem d) 19 h [.ref 12, .int x1]) (fun h1 v2 =>
  if v2 = 0 then
    some (h1, some (.int (-1)))
  else
    q_c1 ((q_sem d) 107 h1 [.int x2, .int x3]) (fun h3 v4 =>
    if v4 = 0 then
      some (h3, some (.int (-1)))
    else
      q_c0 ((q_sem d) 36 h3 [.ref 43, .ref 12]) (fun h5 =>
      q_c1 ((q_sem d) 38 h5 [.ref 43, .int 0, .int (x1 - 1), .int x2, .int x3]) (fun h6 v7 =>
      q_c1 ((q_sem d) 38 h6 [.ref 43, .int (x1 + 1), .int ((h6.1 12 6) - 1), .int x2, .int x3]) (fun h8 v9 =>
      some (h8, some (.int (v7 + v9)))))))) := (q_sem_s (by decide) (Nat.le_of_ble_eq_true rfl)).trans (b73_0 q_X0 (q_sem d) 999 h x1 x2 x3)
-- WhirlShafts.band(III)I with (0, None, None, None)
set_option maxRecDepth 20000 in
theorem m74 (d : Nat) (h : q_S) (x1 : Int32) (x2 : Int32) (x3 : Int32) : q_sem (d + 1) 74 h [.ref 0, .int x1, .int x2, .int x3] =
  q_c1 ((q_sem d) 108 h [.int x1, .int x2, .int x3]) (fun h1 v2 =>
  if v2 = 0 then
    some (h1, some (.int (-1)))
  else
    q_c0 ((q_sem d) 36 h1 [.ref 43, .ref 12]) (fun h3 =>
    q_c1 ((q_sem d) 45 h3 [.ref 43, .int x1, .int x2, .int x3]) (fun h4 v5 =>
    some (h4, some (.int v5))))) := (q_sem_s (by decide) (Nat.le_of_ble_eq_true rfl)).trans (b74_0 q_X0 (q_sem d) 999 h x1 x2 x3)
-- WhirlShafts.gap(II)I with (0, None, None)
set_option maxRecDepth 20000 in
theorem m75 (d : Nat) (h : q_S) (x1 : Int32) (x2 : Int32) : q_sem (d + 1) 75 h [.ref 0, .int x1, .int x2] =
  q_c1 ((q_sem d) 106 h [.int x1]) (fun h1 v2 =>
  if v2 = 0 then
    some (h1, some (.int (-1)))
  else
    if x2 < 0 then
      some (h1, some (.int (-1)))
    else
      if 1 < x2 then
        some (h1, some (.int (-1)))
      else
        if (h1.1 12 6) < 2 then
          some (h1, some (.int (-2)))
        else
          q_c0 ((q_sem d) 36 h1 [.ref 43, .ref 12]) (fun h3 =>
          q_c1 ((q_sem d) 43 h3 [.ref 43, .int 0, .int x1]) (fun h4 v5 =>
          q_go e_75 q_X0 (q_sem d) 999 62 [(0, .ref 0), (1, .int x1), (2, .int x2), (3, .int 0), (4, .int (-1)), (5, .int v5), (6, .int 1)] [] h4))) := (q_sem_s (by decide) (Nat.le_of_ble_eq_true rfl)).trans (b75_0 q_X0 (q_sem d) 999 h x1 x2)
-- WhirlShafts.trim(IIIII)I with (0, None, None, None, None, None)
set_option maxRecDepth 20000 in
theorem m76 (d : Nat) (h : q_S) (x1 : Int32) (x2 : Int32) (x3 : Int32) (x4 : Int32) (x5 : Int32) : q_sem (d + 1) 76 h [.ref 0, .int x1, .int x2, .int x3, .int x4, .int x5] =
  q_c1 ((q_sem d) 19 h [.ref 12, .int x1]) (fun h1 v2 =>
  if v2 = 0 then
    some (h1, some (.int (-1)))
  else
    q_c1 ((q_sem d) 19 h1 [.ref 12, .int x2]) (fun h3 v4 =>
    if v4 = 0 then
      some (h3, some (.int (-1)))
    else
      q_c1 ((q_sem d) 107 h3 [.int x3, .int x4]) (fun h5 v6 =>
      if v6 = 0 then
        some (h5, some (.int (-1)))
      else
        if x5 < 0 then
          some (h5, some (.int (-1)))
        else
          if 1 < x5 then
            some (h5, some (.int (-1)))
          else
            q_c0 ((q_sem d) 16 h5 [.ref 18, .ref 12]) (fun h7 =>
            q_c1 ((q_sem d) 114 h7 [.ref 0, .int x1, .int x2, .int x3, .int x4]) (fun h8 v9 =>
            if 99 < v9 then
              q_go e_76 q_X0 (q_sem d) 999 91 [(0, .ref 0), (1, .int x1), (2, .int x2), (3, .int x3), (4, .int x4), (5, .int x5), (6, .int v9)] [.int 10000] h8
            else
              q_c1 ((q_sem d) 113 h8 [.ref 0, .int x1, .int v9, .int x2, .int x4]) (fun h10 v11 =>
              q_go e_76 q_X0 (q_sem d) 999 91 [(0, .ref 0), (1, .int x1), (2, .int x2), (3, .int x3), (4, .int x4), (5, .int x5), (6, .int v9)] [.int (x3 - v11)] h10)))))) := (q_sem_s (by decide) (Nat.le_of_ble_eq_true rfl)).trans (b76_0 q_X0 (q_sem d) 999 h x1 x2 x3 x4 x5)
-- WhirlShafts.tune(IIII)I with (0, None, None, None, None)
set_option maxRecDepth 20000 in
theorem m77 (d : Nat) (h : q_S) (x1 : Int32) (x2 : Int32) (x3 : Int32) (x4 : Int32) : q_sem (d + 1) 77 h [.ref 0, .int x1, .int x2, .int x3, .int x4] =
  q_c1 ((q_sem d) 20 h [.ref 12, .int x1]) (fun h1 v2 =>
  if v2 = 0 then
    some (h1, some (.int (-1)))
  else
    q_c1 ((q_sem d) 108 h1 [.int x2, .int x3, .int x4]) (fun h3 v4 =>
    if v4 = 0 then
      some (h3, some (.int (-1)))
    else
      q_c0 ((q_sem d) 16 h3 [.ref 18, .ref 12]) (fun h5 =>
      q_go e_77 q_X0 (q_sem d) 999 37 [(0, .ref 0), (1, .int x1), (2, .int x2), (3, .int x3), (4, .int x4), (5, .int 1)] [] h5))) := (q_sem_s (by decide) (Nat.le_of_ble_eq_true rfl)).trans (b77_0 q_X0 (q_sem d) 999 h x1 x2 x3 x4)
-- WhirlShafts.heavier(III)I with (0, None, None, None)
set_option maxRecDepth 20000 in
theorem m78 (d : Nat) (h : q_S) (x1 : Int32) (x2 : Int32) (x3 : Int32) : q_sem (d + 1) 78 h [.ref 0, .int x1, .int x2, .int x3] =
  q_c1 ((q_sem d) 19 h [.ref 12, .int x1]) (fun h1 v2 =>
  if v2 = 0 then
    some (h1, some (.int (-1)))
  else
    q_c1 ((q_sem d) 106 h1 [.int x2]) (fun h3 v4 =>
    if v4 = 0 then
      some (h3, some (.int (-1)))
    else
      if x3 < 0 then
        some (h3, some (.int (-1)))
      else
        if 1 < x3 then
          some (h3, some (.int (-1)))
        else
          q_c0 ((q_sem d) 16 h3 [.ref 18, .ref 12]) (fun h5 =>
          q_go e_78 q_X0 (q_sem d) 999 51 [(0, .ref 0), (1, .int x1), (2, .int x2), (3, .int x3), (4, .int (-2)), (5, .int (-2)), (6, .int 0)] [] h5))) := (q_sem_s (by decide) (Nat.le_of_ble_eq_true rfl)).trans (b78_0 q_X0 (q_sem d) 999 h x1 x2 x3)
-- WhirlShafts.change(II)I with (0, None, None)
set_option maxRecDepth 20000 in
theorem m79 (d : Nat) (h : q_S) (x1 : Int32) (x2 : Int32) : q_sem (d + 1) 79 h [.ref 0, .int x1, .int x2] =
  q_c1 ((q_sem d) 19 h [.ref 12, .int x1]) (fun h1 v2 =>
  if v2 = 0 then
    some (h1, some (.int (-1)))
  else
    q_c1 ((q_sem d) 106 h1 [.int x2]) (fun h3 v4 =>
    if v4 = 0 then
      some (h3, some (.int (-1)))
    else
      q_c0 ((q_sem d) 16 h3 [.ref 18, .ref 12]) (fun h5 =>
      q_c1 ((q_sem d) 112 h5 [.ref 0, .ref 12, .int x1, .int x2]) (fun h6 v7 =>
      q_go e_79 q_X0 (q_sem d) 999 49 [(0, .ref 0), (1, .int x1), (2, .int x2), (3, .int (-2)), (4, .int v7), (5, .int 0)] [] h6)))) := (q_sem_s (by decide) (Nat.le_of_ble_eq_true rfl)).trans (b79_0 q_X0 (q_sem d) 999 h x1 x2)
-- WhirlShafts.critical(I)I with (0, None)
set_option maxRecDepth 20000 in
theorem m80 (d : Nat) (h : q_S) (x1 : Int32) : q_sem (d + 1) 80 h [.ref 0, .int x1] =
  q_c1 ((q_sem d) 19 h [.ref 12, .int x1]) (fun h1 v2 =>
  if v2 = 0 then
    some (h1, some (.int (-1)))
  else
    q_c0 ((q_sem d) 16 h1 [.ref 18, .ref 12]) (fun h3 =>
    q_go e_80 q_X0 (q_sem d) 999 26 [(0, .ref 0), (1, .int x1), (2, .int 1)] [] h3)) := (q_sem_s (by decide) (Nat.le_of_ble_eq_true rfl)).trans (b80_0 q_X0 (q_sem d) 999 h x1)
-- WhirlShafts.fits(IIIII)I with (0, None, None, None, None, None)
set_option maxRecDepth 20000 in
theorem m81 (d : Nat) (h : q_S) (x1 : Int32) (x2 : Int32) (x3 : Int32) (x4 : Int32) (x5 : Int32) : q_sem (d + 1) 81 h [.ref 0, .int x1, .int x2, .int x3, .int x4, .int x5] =
  q_c1 ((q_sem d) 109 h [.int x1]) (fun h1 v2 =>
  if v2 = 0 then
    some (h1, some (.int (-1)))
  else
    if x2 < 0 then
      some (h1, some (.int (-1)))
    else
      if (h1.1 12 6) < x2 then
        some (h1, some (.int (-1)))
      else
        q_c1 ((q_sem d) 106 h1 [.int x3]) (fun h3 v4 =>
        if v4 = 0 then
          some (h3, some (.int (-1)))
        else
          q_c1 ((q_sem d) 19 h3 [.ref 12, .int x4]) (fun h5 v6 =>
          if v6 = 0 then
            some (h5, some (.int (-1)))
          else
            if x5 < 0 then
              some (h5, some (.int (-1)))
            else
              if 2 < x5 then
                some (h5, some (.int (-1)))
              else
                q_ix x1 3 (fun j7 =>
                q_go e_81 q_X0 (q_sem d) 999 60 [(0, .ref 0), (1, .int x1), (2, .int x2), (3, .int x3), (4, .int x4), (5, .int x5)] [.ref (q_rf 60 j7)] h5)))) := (q_sem_s (by decide) (Nat.le_of_ble_eq_true rfl)).trans (b81_0 q_X0 (q_sem d) 999 h x1 x2 x3 x4 x5)
-- WhirlShafts.judge(II)I with (0, None, None)
set_option maxRecDepth 20000 in
theorem m82 (d : Nat) (h : q_S) (x1 : Int32) (x2 : Int32) : q_sem (d + 1) 82 h [.ref 0, .int x1, .int x2] =
  q_c1 ((q_sem d) 109 h [.int x1]) (fun h1 v2 =>
  if v2 = 0 then
    some (h1, some (.int (-1)))
  else
    q_c1 ((q_sem d) 106 h1 [.int x2]) (fun h3 v4 =>
    if v4 = 0 then
      some (h3, some (.int (-1)))
    else
      q_ix x1 3 (fun j5 =>
      q_go e_82 q_X0 (q_sem d) 999 22 [(0, .ref 0), (2, .int x2)] [.ref (q_rf 60 j5)] h3))) := (q_sem_s (by decide) (Nat.le_of_ble_eq_true rfl)).trans (b82_0 q_X0 (q_sem d) 999 h x1 x2)
-- WhirlShafts.order(III)I with (0, None, None, None)
set_option maxRecDepth 20000 in
theorem m83 (d : Nat) (h : q_S) (x1 : Int32) (x2 : Int32) (x3 : Int32) : q_sem (d + 1) 83 h [.ref 0, .int x1, .int x2, .int x3] =
  if x1 < 0 then
    some (h, some (.int (-1)))
  else
    if 5 < x1 then
      some (h, some (.int (-1)))
    else
      if (h.1 30 3) < 8 then
        q_c1 ((q_sem d) 34 h [.ref 30, .int x1, .int x2, .int x3]) (fun h1 v2 =>
        some (h1, some (.int v2)))
      else
        some (h, some (.int (-3))) := (q_sem_s (by decide) (Nat.le_of_ble_eq_true rfl)).trans (b83_0 q_X0 (q_sem d) 999 h x1 x2 x3)
-- WhirlShafts.tried(II)I with (0, None, None)
set_option maxRecDepth 20000 in
theorem m84 (d : Nat) (h : q_S) (x1 : Int32) (x2 : Int32) : q_sem (d + 1) 84 h [.ref 0, .int x1, .int x2] =
  q_c1 ((q_sem d) 19 h [.ref 12, .int x1]) (fun h1 v2 =>
  if v2 = 0 then
    some (h1, some (.int (-1)))
  else
    q_c1 ((q_sem d) 106 h1 [.int x2]) (fun h3 v4 =>
    if v4 = 0 then
      some (h3, some (.int (-1)))
    else
      q_c0 ((q_sem d) 16 h3 [.ref 18, .ref 12]) (fun h5 =>
      q_go e_84 q_X0 (q_sem d) 999 33 [(0, .ref 0), (1, .int x1), (2, .int x2), (3, .int 0)] [] h5))) := (q_sem_s (by decide) (Nat.le_of_ble_eq_true rfl)).trans (b84_0 q_X0 (q_sem d) 999 h x1 x2)
-- WhirlShafts.does()I with (0,)
set_option maxRecDepth 20000 in
theorem m85 (d : Nat) (h : q_S)  : q_sem (d + 1) 85 h [.ref 0] =
  q_go e_85 q_X0 (q_sem d) 999 4 [(0, .ref 0), (1, .int 0), (2, .int 0)] [] h := (q_sem_s (by decide) (Nat.le_of_ble_eq_true rfl)).trans (b85_0 q_X0 (q_sem d) 999 h )
-- WhirlShafts.drop()I with (0,)
set_option maxRecDepth 20000 in
theorem m86 (d : Nat) (h : q_S)  : q_sem (d + 1) 86 h [.ref 0] =
  some ((q_si h 30 3 0), some (.int (h.1 30 3))) := (q_sem_s (by decide) (Nat.le_of_ble_eq_true rfl)).trans (b86_0 q_X0 (q_sem d) 999 h )
-- WhirlShafts.undo()I with (0,)
set_option maxRecDepth 20000 in
theorem m87 (d : Nat) (h : q_S)  : q_sem (d + 1) 87 h [.ref 0] =
  if (h.1 38 4) = 0 then
    some (h, some (.int (-5)))
  else
    q_c1 ((q_sem d) 3 h [.ref 38, .ref 12]) (fun h1 v2 =>
    some (h1, some (.int v2))) := (q_sem_s (by decide) (Nat.le_of_ble_eq_true rfl)).trans (b87_0 q_X0 (q_sem d) 999 h )
-- WhirlShafts.redo()I with (0,)
set_option maxRecDepth 20000 in
theorem m88 (d : Nat) (h : q_S)  : q_sem (d + 1) 88 h [.ref 0] =
  if (h.1 38 5) = 0 then
    some (h, some (.int (-5)))
  else
    q_c1 ((q_sem d) 4 h [.ref 38, .ref 12]) (fun h1 v2 =>
    some (h1, some (.int v2))) := (q_sem_s (by decide) (Nat.le_of_ble_eq_true rfl)).trans (b88_0 q_X0 (q_sem d) 999 h )
-- WhirlShafts.feed(I)I with (0, None)
set_option maxRecDepth 20000 in
theorem m89 (d : Nat) (h : q_S) (x1 : Int32) : q_sem (d + 1) 89 h [.ref 0, .int x1] =
  if x1 < 32 then
    some (h, some (.int (-1)))
  else
    if 126 < x1 then
      some (h, some (.int (-1)))
    else
      if (h.1 57 1) < 80 then
        q_c1 ((q_sem d) 55 h [.ref 57, .int x1]) (fun h1 v2 =>
        some (h1, some (.int v2)))
      else
        some (h, some (.int (-3))) := (q_sem_s (by decide) (Nat.le_of_ble_eq_true rfl)).trans (b89_0 q_X0 (q_sem d) 999 h x1)
-- WhirlShafts.wipe()I with (0,)
set_option maxRecDepth 20000 in
theorem m90 (d : Nat) (h : q_S)  : q_sem (d + 1) 90 h [.ref 0] =
  some ((q_si h 57 1 0), some (.int (h.1 57 1))) := (q_sem_s (by decide) (Nat.le_of_ble_eq_true rfl)).trans (b90_0 q_X0 (q_sem d) 999 h )
-- WhirlShafts.read()I with (0,)
set_option maxRecDepth 20000 in
theorem m91 (d : Nat) (h : q_S)  : q_sem (d + 1) 91 h [.ref 0] =
  q_c1 ((q_sem d) 58 h [.ref 57]) (fun h1 v2 =>
  if v2 < 0 then
    q_c1 ((q_sem d) 118 h1 [.ref 0]) (fun h3 v4 =>
    some ((q_si h3 57 1 0), some (.int v4)))
  else
    some ((q_si h1 57 1 0), some (.int ((-100) - v2)))) := (q_sem_s (by decide) (Nat.le_of_ble_eq_true rfl)).trans (b91_0 q_X0 (q_sem d) 999 h )
-- WhirlShafts.row(III)I with (0, None, None, None)
set_option maxRecDepth 20000 in
theorem m92 (d : Nat) (h : q_S) (x1 : Int32) (x2 : Int32) (x3 : Int32) : q_sem (d + 1) 92 h [.ref 0, .int x1, .int x2, .int x3] =
  q_c1 ((q_sem d) 109 h [.int x1]) (fun h1 v2 =>
  if v2 = 0 then
    some (h1, some (.int (-1)))
  else
    if x2 < (-1) then
      some (h1, some (.int (-1)))
    else
      if 2 < x2 then
        some (h1, some (.int (-1)))
      else
        if x2 = (-1) then
          q_ix x1 3 (fun j3 =>
          q_go e_92 q_X0 (q_sem d) 999 30 [] [.ref (q_rf 60 j3)] h1)
        else
          if 40 < x3 then
            some (h1, some (.int (-1)))
          else
            if x3 < 0 then
              some (h1, some (.int (-14)))
            else
              q_ix x1 3 (fun j4 =>
              q_go e_92 q_X0 (q_sem d) 999 58 [(2, .int x2), (3, .int x3)] [.ref (q_rf 60 j4)] h1)) := (q_sem_s (by decide) (Nat.le_of_ble_eq_true rfl)).trans (b92_0 q_X0 (q_sem d) 999 h x1 x2 x3)
-- WhirlShafts.put(IIJ)I with (0, None, None, None)
set_option maxRecDepth 20000 in
theorem m93 (d : Nat) (h : q_S) (x1 : Int32) (x2 : Int32) (x3 : Int64) : q_sem (d + 1) 93 h [.ref 0, .int x1, .int x2, .long x3] =
  q_c1 ((q_sem d) 109 h [.int x1]) (fun h1 v2 =>
  if v2 = 0 then
    some (h1, some (.int (-1)))
  else
    q_ix x1 3 (fun j3 =>
    q_go e_93 q_X0 (q_sem d) 999 15 [(0, .ref 0), (1, .int x1), (2, .int x2), (3, .long x3)] [.ref (q_rf 60 j3)] h1)) := (q_sem_s (by decide) (Nat.le_of_ble_eq_true rfl)).trans (b93_0 q_X0 (q_sem d) 999 h x1 x2 x3)
-- WhirlShafts.get(II)J with (0, None, None)
set_option maxRecDepth 20000 in
theorem m94 (d : Nat) (h : q_S) (x1 : Int32) (x2 : Int32) : q_sem (d + 1) 94 h [.ref 0, .int x1, .int x2] =
  q_c1 ((q_sem d) 109 h [.int x1]) (fun h1 v2 =>
  if v2 = 0 then
    some (h1, some (.long (Int64.ofNat 9223372036854775808)))
  else
    q_ix x1 3 (fun j3 =>
    q_go e_94 q_X0 (q_sem d) 999 13 [(0, .ref 0), (1, .int x1), (2, .int x2)] [.ref (q_rf 60 j3)] h1)) := (q_sem_s (by decide) (Nat.le_of_ble_eq_true rfl)).trans (b94_0 q_X0 (q_sem d) 999 h x1 x2)
-- WhirlShafts.film(III)I with (0, None, None, None)
set_option maxRecDepth 20000 in
theorem m95 (d : Nat) (h : q_S) (x1 : Int32) (x2 : Int32) (x3 : Int32) : q_sem (d + 1) 95 h [.ref 0, .int x1, .int x2, .int x3] =
  q_c1 ((q_sem d) 109 h [.int x1]) (fun h1 v2 =>
  if v2 = 0 then
    some (h1, some (.int (-1)))
  else
    if x2 < 0 then
      some (h1, some (.int (-1)))
    else
      if 2 < x2 then
        some (h1, some (.int (-1)))
      else
        q_c1 ((q_sem d) 106 h1 [.int x3]) (fun h3 v4 =>
        if v4 = 0 then
          some (h3, some (.int (-1)))
        else
          q_c0 ((q_sem d) 36 h3 [.ref 43, .ref 12]) (fun h5 =>
          q_ix x1 3 (fun j6 =>
          q_go e_95 q_X0 (q_sem d) 999 42 [(0, .ref 0), (1, .int x1), (2, .int x2), (3, .int x3)] [.ref (q_rf 60 j6)] h5)))) := (q_sem_s (by decide) (Nat.le_of_ble_eq_true rfl)).trans (b95_0 q_X0 (q_sem d) 999 h x1 x2 x3)
-- WhirlShafts.copy(IIIII)I with (0, None, None, None, None, None)
set_option maxRecDepth 20000 in
theorem m96 (d : Nat) (h : q_S) (x1 : Int32) (x2 : Int32) (x3 : Int32) (x4 : Int32) (x5 : Int32) : q_sem (d + 1) 96 h [.ref 0, .int x1, .int x2, .int x3, .int x4, .int x5] =
  q_c1 ((q_sem d) 109 h [.int x1]) (fun h1 v2 =>
  if v2 = 0 then
    some (h1, some (.int (-1)))
  else
    q_c1 ((q_sem d) 109 h1 [.int x3]) (fun h3 v4 =>
    if v4 = 0 then
      some (h3, some (.int (-1)))
    else
      q_ix x1 3 (fun j5 =>
      q_go e_96 q_X0 (q_sem d) 999 22 [(0, .ref 0), (2, .int x2), (3, .int x3), (4, .int x4), (5, .int x5)] [.ref (q_rf 60 j5)] h3))) := (q_sem_s (by decide) (Nat.le_of_ble_eq_true rfl)).trans (b96_0 q_X0 (q_sem d) 999 h x1 x2 x3 x4 x5)
-- WhirlShafts.act(III)I with (0, None, None, None)
set_option maxRecDepth 20000 in
theorem m97 (d : Nat) (h : q_S) (x1 : Int32) (x2 : Int32) (x3 : Int32) : q_sem (d + 1) 97 h [.ref 0, .int x1, .int x2, .int x3] =
  q_c1 ((q_sem d) 19 h [.ref 12, .int x1]) (fun h1 v2 =>
  if v2 = 0 then
    some (h1, some (.int 0))
  else
    if x2 < 0 then
      some (h1, some (.int 0))
    else
      if 2 < x2 then
        some (h1, some (.int 0))
      else
        q_ix x1 8 (fun j3 =>
        q_ix (h1.1 13 j3) 5 (fun j4 =>
        q_go e_97 q_X0 (q_sem d) 999 37 [(0, .ref 0), (1, .int x1), (2, .int x2), (3, .int x3)] [.ref (q_rf 1 j4), .ref 0] h1))) := (q_sem_s (by decide) (Nat.le_of_ble_eq_true rfl)).trans (b97_0 q_X0 (q_sem d) 999 h x1 x2 x3)
-- WhirlShafts.trace(I)I with (0, None)
set_option maxRecDepth 20000 in
theorem m98 (d : Nat) (h : q_S) (x1 : Int32) : q_sem (d + 1) 98 h [.ref 0, .int x1] =
  q_go e_98 q_X0 (q_sem d) 999 4 [(0, .ref 0), (1, .int x1)] [(q_rv h.2.2)] h := (q_sem_s (by decide) (Nat.le_of_ble_eq_true rfl)).trans (b98_0 q_X0 (q_sem d) 999 h x1)
-- WhirlShafts.taken(II)I with (0, None, None)
set_option maxRecDepth 20000 in
theorem m99 (d : Nat) (h : q_S) (x1 : Int32) (x2 : Int32) : q_sem (d + 1) 99 h [.ref 0, .int x1, .int x2] =
  q_c1 ((q_sem d) 19 h [.ref 12, .int x1]) (fun h1 v2 =>
  if v2 = 0 then
    some (h1, some (.int (-1)))
  else
    q_c1 ((q_sem d) 104 h1 [.int x2]) (fun h3 v4 =>
    if v4 = 0 then
      some (h3, some (.int (-1)))
    else
      q_ix x1 8 (fun j5 =>
      q_c1 ((q_sem d) 110 h3 [.int (h3.1 13 j5), .int x2]) (fun h6 v7 =>
      if v7 = 0 then
        some (h6, some (.int (-5)))
      else
        q_ix x1 8 (fun j8 =>
        some (h6, some (.int (h6.1 14 j8)))))))) := (q_sem_s (by decide) (Nat.le_of_ble_eq_true rfl)).trans (b99_0 q_X0 (q_sem d) 999 h x1 x2)
-- WhirlShafts.image()I with (0,)
set_option maxRecDepth 20000 in
theorem m100 (d : Nat) (h : q_S)  : q_sem (d + 1) 100 h [.ref 0] =
  q_c0 ((q_sem d) 16 h [.ref 24, .ref 12]) (fun h1 =>
  q_c0 ((q_sem d) 35 h1 [.ref 34, .ref 30]) (fun h2 =>
  some ((q_si h2 0 5 1), some (.int (h2.1 24 6))))) := (q_sem_s (by decide) (Nat.le_of_ble_eq_true rfl)).trans (b100_0 q_X0 (q_sem d) 999 h )
-- WhirlShafts.alike()I with (0,)
set_option maxRecDepth 20000 in
theorem m101 (d : Nat) (h : q_S)  : q_sem (d + 1) 101 h [.ref 0] =
  if (h.1 0 5) = 0 then
    some (h, some (.int (-5)))
  else
    q_c1 ((q_sem d) 33 h [.ref 12, .ref 24]) (fun h1 v2 =>
    if v2 = 0 then
      some (h1, some (.int 0))
    else
      some (h1, some (.int 1))) := (q_sem_s (by decide) (Nat.le_of_ble_eq_true rfl)).trans (b101_0 q_X0 (q_sem d) 999 h )
-- WhirlShafts.back()I with (0,)
set_option maxRecDepth 20000 in
theorem m102 (d : Nat) (h : q_S)  : q_sem (d + 1) 102 h [.ref 0] =
  if (h.1 0 5) = 0 then
    some (h, some (.int (-5)))
  else
    q_c0 ((q_sem d) 16 h [.ref 12, .ref 24]) (fun h1 =>
    q_c0 ((q_sem d) 35 h1 [.ref 30, .ref 34]) (fun h2 =>
    q_c0 ((q_sem d) 0 h2 [.ref 38]) (fun h3 =>
    some (h3, some (.int (h3.1 12 6)))))) := (q_sem_s (by decide) (Nat.le_of_ble_eq_true rfl)).trans (b102_0 q_X0 (q_sem d) 999 h )
-- WhirlShafts.count(I)I with (0, None)
set_option maxRecDepth 20000 in
theorem m103 (d : Nat) (h : q_S) (x1 : Int32) : q_sem (d + 1) 103 h [.ref 0, .int x1] =
  if x1 = 0 then
    some (h, some (.int (h.1 12 6)))
  else if x1 = 1 then
    some (h, some (.int (h.1 12 7)))
  else if x1 = 2 then
    some (h, some (.int (h.1 12 8)))
  else if x1 = 3 then
    q_c1 ((q_sem d) 25 h [.ref 12, .int ((h.1 12 6) - 1)]) (fun h1 v2 =>
    some (h1, some (.int v2)))
  else if x1 = 4 then
    some (h, some (.int (h.1 30 3)))
  else if x1 = 5 then
    some (h, some (.int (h.1 38 4)))
  else if x1 = 6 then
    some (h, some (.int (h.1 38 5)))
  else if x1 = 7 then
    some (h, some (.int (h.1 57 1)))
  else if x1 = 8 then
    q_c1 ((q_sem d) 111 h [.ref 0]) (fun h3 v4 =>
    some (h3, some (.int v4)))
  else 
    some (h, some (.int (-1))) := (q_sem_s (by decide) (Nat.le_of_ble_eq_true rfl)).trans (b103_0 q_X0 (q_sem d) 999 h x1)
-- WhirlShafts.isKind(I)Z with (None,)
set_option maxRecDepth 20000 in
theorem m104 (d : Nat) (h : q_S) (x0 : Int32) : q_sem (d + 1) 104 h [.int x0] =
  if x0 < 0 then
    some (h, some (.int 0))
  else
    q_len q_X0 102 (fun w1 =>
    if x0 < w1 then
      some (h, some (.int 1))
    else
      some (h, some (.int 0))) := (q_sem_s (by decide) (Nat.le_of_ble_eq_true rfl)).trans (b104_0 q_X0 (q_sem d) 999 h x0)
-- WhirlShafts.inRange(II)Z with (None, None)
set_option maxRecDepth 20000 in
theorem m105 (d : Nat) (h : q_S) (x0 : Int32) (x1 : Int32) : q_sem (d + 1) 105 h [.int x0, .int x1] =
  q_ald q_X0 h 103 x0 (fun w2 =>
  if x1 < w2 then
    some (h, some (.int 0))
  else
    q_ald q_X0 h 104 x0 (fun w4 =>
    if w4 < x1 then
      some (h, some (.int 0))
    else
      some (h, some (.int 1)))) := (q_sem_s (by decide) (Nat.le_of_ble_eq_true rfl)).trans (b105_0 q_X0 (q_sem d) 999 h x0 x1)
-- WhirlShafts.isQ(I)Z with (None,)
set_option maxRecDepth 20000 in
theorem m106 (d : Nat) (h : q_S) (x0 : Int32) : q_sem (d + 1) 106 h [.int x0] =
  if x0 < 1 then
    some (h, some (.int 0))
  else
    if 16 < x0 then
      some (h, some (.int 0))
    else
      some (h, some (.int 1)) := (q_sem_s (by decide) (Nat.le_of_ble_eq_true rfl)).trans (b106_0 q_X0 (q_sem d) 999 h x0)
-- WhirlShafts.isPoint(II)Z with (None, None)
set_option maxRecDepth 20000 in
theorem m107 (d : Nat) (h : q_S) (x0 : Int32) (x1 : Int32) : q_sem (d + 1) 107 h [.int x0, .int x1] =
  if x0 < 0 then
    some (h, some (.int 0))
  else
    if 9999 < x0 then
      some (h, some (.int 0))
    else
      q_c1 ((q_sem d) 106 h [.int x1]) (fun h1 v2 =>
      if v2 = 0 then
        some (h1, some (.int 0))
      else
        some (h1, some (.int 1))) := (q_sem_s (by decide) (Nat.le_of_ble_eq_true rfl)).trans (b107_0 q_X0 (q_sem d) 999 h x0 x1)
-- WhirlShafts.isBand(III)Z with (None, None, None)
set_option maxRecDepth 20000 in
theorem m108 (d : Nat) (h : q_S) (x0 : Int32) (x1 : Int32) (x2 : Int32) : q_sem (d + 1) 108 h [.int x0, .int x1, .int x2] =
  q_c1 ((q_sem d) 107 h [.int x0, .int x2]) (fun h1 v2 =>
  if v2 = 0 then
    some (h1, some (.int 0))
  else
    q_c1 ((q_sem d) 107 h1 [.int x1, .int x2]) (fun h3 v4 =>
    if v4 = 0 then
      some (h3, some (.int 0))
    else
      if x1 < x0 then
        some (h3, some (.int 0))
      else
        some (h3, some (.int 1)))) := (q_sem_s (by decide) (Nat.le_of_ble_eq_true rfl)).trans (b108_0 q_X0 (q_sem d) 999 h x0 x1 x2)
-- WhirlShafts.isRow(I)Z with (None,)
set_option maxRecDepth 20000 in
theorem m109 (d : Nat) (h : q_S) (x0 : Int32) : q_sem (d + 1) 109 h [.int x0] =
  if x0 < 0 then
    some (h, some (.int 0))
  else
    if x0 < 3 then
      some (h, some (.int 1))
    else
      some (h, some (.int 0)) := (q_sem_s (by decide) (Nat.le_of_ble_eq_true rfl)).trans (b109_0 q_X0 (q_sem d) 999 h x0)
-- WhirlShafts.isUnder(II)Z with (None, None)
set_option maxRecDepth 20000 in
theorem m110 (d : Nat) (h : q_S) (x0 : Int32) (x1 : Int32) : q_sem (d + 1) 110 h [.int x0, .int x1] =
  q_go e_110 q_X0 (q_sem d) 999 4 [(1, .int x1), (2, .int x0), (3, .int 0)] [] h := (q_sem_s (by decide) (Nat.le_of_ble_eq_true rfl)).trans (b110_0 q_X0 (q_sem d) 999 h x0 x1)
-- WhirlShafts.rowsThere()I with (0,)
set_option maxRecDepth 20000 in
theorem m111 (d : Nat) (h : q_S)  : q_sem (d + 1) 111 h [.ref 0] =
  q_go e_111 q_X0 (q_sem d) 999 4 [(0, .ref 0), (1, .int 0), (2, .int 0)] [] h := (q_sem_s (by decide) (Nat.le_of_ble_eq_true rfl)).trans (b111_0 q_X0 (q_sem d) 999 h )
-- WhirlShafts.fenceBy(LWhirlShafts$Line;II)I with (0, 12, None, None)
set_option maxRecDepth 20000 in
theorem m112 (d : Nat) (h : q_S) (x2 : Int32) (x3 : Int32) : q_sem (d + 1) 112 h [.ref 0, .ref 12, .int x2, .int x3] =
  q_c0 ((q_sem d) 36 h [.ref 43, .ref 12]) (fun h1 =>
  q_c1 ((q_sem d) 43 h1 [.ref 43, .int x2, .int x3]) (fun h2 v3 =>
  some (h2, some (.int v3)))) := (q_sem_s (by decide) (Nat.le_of_ble_eq_true rfl)).trans (b112_0 q_X0 (q_sem d) 999 h x2 x3)
-- WhirlShafts.fenceBy(LWhirlShafts$Line;II)I with (0, 18, None, None)
set_option maxRecDepth 20000 in
theorem m112_1 (d : Nat) (h : q_S) (x2 : Int32) (x3 : Int32) : q_sem (d + 1) 112 h [.ref 0, .ref 18, .int x2, .int x3] =
  q_c0 ((q_sem d) 36 h [.ref 43, .ref 18]) (fun h1 =>
  q_c1 ((q_sem d) 43 h1 [.ref 43, .int x2, .int x3]) (fun h2 v3 =>
  some (h2, some (.int v3)))) := (q_sem_s (by decide) (Nat.le_of_ble_eq_true rfl)).trans (b112_0_1 q_X0 (q_sem d) 999 h x2 x3)
-- WhirlShafts.fenceByMass(IIII)I with (0, None, None, None, None)
set_option maxRecDepth 20000 in
theorem m113 (d : Nat) (h : q_S) (x1 : Int32) (x2 : Int32) (x3 : Int32) (x4 : Int32) : q_sem (d + 1) 113 h [.ref 0, .int x1, .int x2, .int x3, .int x4] =
  q_ix x1 8 (fun j1 =>
  q_c1 ((q_sem d) 112 (q_si h 20 j1 x2) [.ref 0, .ref 18, .int x3, .int x4]) (fun h2 v3 =>
  some (h2, some (.int v3)))) := (q_sem_s (by decide) (Nat.le_of_ble_eq_true rfl)).trans (b113_0 q_X0 (q_sem d) 999 h x1 x2 x3 x4)
-- WhirlShafts.leastMassWithin(IIII)I with (0, None, None, None, None)
set_option maxRecDepth 20000 in
theorem m114 (d : Nat) (h : q_S) (x1 : Int32) (x2 : Int32) (x3 : Int32) (x4 : Int32) : q_sem (d + 1) 114 h [.ref 0, .int x1, .int x2, .int x3, .int x4] =
  q_go e_114 q_X0 (q_sem d) 999 7 [(0, .ref 0), (1, .int x1), (2, .int x2), (3, .int x3), (4, .int x4), (5, .int 0), (6, .int 64)] [] h := (q_sem_s (by decide) (Nat.le_of_ble_eq_true rfl)).trans (b114_0 q_X0 (q_sem d) 999 h x1 x2 x3 x4)
-- WhirlShafts.trialFits(LWhirlShafts$Row;II)Z with (0, 61, None, None)
set_option maxRecDepth 20000 in
theorem m115 (d : Nat) (h : q_S) (x2 : Int32) (x3 : Int32) : q_sem (d + 1) 115 h [.ref 0, .ref 61, .int x2, .int x3] =
  q_c0 ((q_sem d) 36 h [.ref 43, .ref 18]) (fun h1 =>
  q_go e_115 q_X0 (q_sem d) 999 14 [(0, .ref 0), (1, .ref 61), (2, .int x2), (3, .int x3), (4, .int 0)] [] h1) := (q_sem_s (by decide) (Nat.le_of_ble_eq_true rfl)).trans (b115_0 q_X0 (q_sem d) 999 h x2 x3)
-- WhirlShafts.trialFits(LWhirlShafts$Row;II)Z with (0, 62, None, None)
set_option maxRecDepth 20000 in
theorem m115_1 (d : Nat) (h : q_S) (x2 : Int32) (x3 : Int32) : q_sem (d + 1) 115 h [.ref 0, .ref 62, .int x2, .int x3] =
  q_c0 ((q_sem d) 36 h [.ref 43, .ref 18]) (fun h1 =>
  q_go e_115 q_X0 (q_sem d) 999 14 [(0, .ref 0), (1, .ref 62), (2, .int x2), (3, .int x3), (4, .int 0)] [] h1) := (q_sem_s (by decide) (Nat.le_of_ble_eq_true rfl)).trans (b115_0_1 q_X0 (q_sem d) 999 h x2 x3)
-- WhirlShafts.trialFits(LWhirlShafts$Row;II)Z with (0, 63, None, None)
set_option maxRecDepth 20000 in
theorem m115_2 (d : Nat) (h : q_S) (x2 : Int32) (x3 : Int32) : q_sem (d + 1) 115 h [.ref 0, .ref 63, .int x2, .int x3] =
  q_c0 ((q_sem d) 36 h [.ref 43, .ref 18]) (fun h1 =>
  q_go e_115 q_X0 (q_sem d) 999 14 [(0, .ref 0), (1, .ref 63), (2, .int x2), (3, .int x3), (4, .int 0)] [] h1) := (q_sem_s (by decide) (Nat.le_of_ble_eq_true rfl)).trans (b115_0_2 q_X0 (q_sem d) 999 h x2 x3)
-- WhirlShafts.massesThatFit(LWhirlShafts$Row;IIIZ)I with (0, 61, None, None, None, None)
set_option maxRecDepth 20000 in
theorem m116 (d : Nat) (h : q_S) (x2 : Int32) (x3 : Int32) (x4 : Int32) (x5 : Int32) : q_sem (d + 1) 116 h [.ref 0, .ref 61, .int x2, .int x3, .int x4, .int x5] =
  q_go e_116 q_X0 (q_sem d) 999 6 [(0, .ref 0), (1, .ref 61), (2, .int x2), (3, .int x3), (4, .int x4), (5, .int x5), (6, .int 0), (7, .int 1)] [] h := (q_sem_s (by decide) (Nat.le_of_ble_eq_true rfl)).trans (b116_0 q_X0 (q_sem d) 999 h x2 x3 x4 x5)
-- WhirlShafts.massesThatFit(LWhirlShafts$Row;IIIZ)I with (0, 62, None, None, None, None)
set_option maxRecDepth 20000 in
theorem m116_1 (d : Nat) (h : q_S) (x2 : Int32) (x3 : Int32) (x4 : Int32) (x5 : Int32) : q_sem (d + 1) 116 h [.ref 0, .ref 62, .int x2, .int x3, .int x4, .int x5] =
  q_go e_116 q_X0 (q_sem d) 999 6 [(0, .ref 0), (1, .ref 62), (2, .int x2), (3, .int x3), (4, .int x4), (5, .int x5), (6, .int 0), (7, .int 1)] [] h := (q_sem_s (by decide) (Nat.le_of_ble_eq_true rfl)).trans (b116_0_1 q_X0 (q_sem d) 999 h x2 x3 x4 x5)
-- WhirlShafts.massesThatFit(LWhirlShafts$Row;IIIZ)I with (0, 63, None, None, None, None)
set_option maxRecDepth 20000 in
theorem m116_2 (d : Nat) (h : q_S) (x2 : Int32) (x3 : Int32) (x4 : Int32) (x5 : Int32) : q_sem (d + 1) 116 h [.ref 0, .ref 63, .int x2, .int x3, .int x4, .int x5] =
  q_go e_116 q_X0 (q_sem d) 999 6 [(0, .ref 0), (1, .ref 63), (2, .int x2), (3, .int x3), (4, .int x4), (5, .int x5), (6, .int 0), (7, .int 1)] [] h := (q_sem_s (by decide) (Nat.le_of_ble_eq_true rfl)).trans (b116_0_2 q_X0 (q_sem d) 999 h x2 x3 x4 x5)
-- WhirlShafts.kindsThatFit(LWhirlShafts$Row;III)I with (0, 61, None, None, None)
set_option maxRecDepth 20000 in
theorem m117 (d : Nat) (h : q_S) (x2 : Int32) (x3 : Int32) (x4 : Int32) : q_sem (d + 1) 117 h [.ref 0, .ref 61, .int x2, .int x3, .int x4] =
  q_go e_117 q_X0 (q_sem d) 999 6 [(0, .ref 0), (1, .ref 61), (2, .int x2), (3, .int x3), (4, .int x4), (5, .int 0), (6, .int 0)] [] h := (q_sem_s (by decide) (Nat.le_of_ble_eq_true rfl)).trans (b117_0 q_X0 (q_sem d) 999 h x2 x3 x4)
-- WhirlShafts.kindsThatFit(LWhirlShafts$Row;III)I with (0, 62, None, None, None)
set_option maxRecDepth 20000 in
theorem m117_1 (d : Nat) (h : q_S) (x2 : Int32) (x3 : Int32) (x4 : Int32) : q_sem (d + 1) 117 h [.ref 0, .ref 62, .int x2, .int x3, .int x4] =
  q_go e_117 q_X0 (q_sem d) 999 6 [(0, .ref 0), (1, .ref 62), (2, .int x2), (3, .int x3), (4, .int x4), (5, .int 0), (6, .int 0)] [] h := (q_sem_s (by decide) (Nat.le_of_ble_eq_true rfl)).trans (b117_0_1 q_X0 (q_sem d) 999 h x2 x3 x4)
-- WhirlShafts.kindsThatFit(LWhirlShafts$Row;III)I with (0, 63, None, None, None)
set_option maxRecDepth 20000 in
theorem m117_2 (d : Nat) (h : q_S) (x2 : Int32) (x3 : Int32) (x4 : Int32) : q_sem (d + 1) 117 h [.ref 0, .ref 63, .int x2, .int x3, .int x4] =
  q_go e_117 q_X0 (q_sem d) 999 6 [(0, .ref 0), (1, .ref 63), (2, .int x2), (3, .int x3), (4, .int x4), (5, .int 0), (6, .int 0)] [] h := (q_sem_s (by decide) (Nat.le_of_ble_eq_true rfl)).trans (b117_0_2 q_X0 (q_sem d) 999 h x2 x3 x4)
-- WhirlShafts.doActs()I with (0,)
set_option maxRecDepth 20000 in
theorem m118 (d : Nat) (h : q_S)  : q_sem (d + 1) 118 h [.ref 0] =
  q_go e_118 q_X0 (q_sem d) 999 12 [(0, .ref 0), (1, .int 0), (2, .int 0)] [] (q_si h 57 2 0) := (q_sem_s (by decide) (Nat.le_of_ble_eq_true rfl)).trans (b118_0 q_X0 (q_sem d) 999 h )
-- WhirlShafts.doAct(I)I with (0, None)
set_option maxRecDepth 20000 in
theorem m119 (d : Nat) (h : q_S) (x1 : Int32) : q_sem (d + 1) 119 h [.ref 0, .int x1] =
  if x1 = 98 then
    q_ix 0 3 (fun j1 =>
    q_ix 1 3 (fun j2 =>
    q_c1 ((q_sem d) 64 h [.ref 0, .int 2, .int (h.1 59 j1), .int (h.1 59 j2)]) (fun h3 v4 =>
    some (h3, some (.int v4)))))
  else if x1 = 99 then
    q_c1 ((q_sem d) 62 h [.ref 0]) (fun h5 v6 =>
    some (h5, some (.int v6)))
  else if x1 = 100 then
    q_ix 0 3 (fun j7 =>
    q_ix 1 3 (fun j8 =>
    q_ix 2 3 (fun j9 =>
    q_c1 ((q_sem d) 61 h [.ref 0, .int (h.1 59 j7), .int (h.1 59 j8), .int (h.1 59 j9)]) (fun h10 v11 =>
    some (h10, some (.int v11))))))
  else if x1 = 101 then
    q_c1 ((q_sem d) 62 h [.ref 0]) (fun h12 v13 =>
    some (h12, some (.int v13)))
  else if x1 = 102 then
    q_c1 ((q_sem d) 62 h [.ref 0]) (fun h14 v15 =>
    some (h14, some (.int v15)))
  else if x1 = 103 then
    q_ix 0 3 (fun j16 =>
    q_ix 1 3 (fun j17 =>
    q_c1 ((q_sem d) 64 h [.ref 0, .int 3, .int (h.1 59 j16), .int (h.1 59 j17)]) (fun h18 v19 =>
    some (h18, some (.int v19)))))
  else if x1 = 104 then
    q_c1 ((q_sem d) 62 h [.ref 0]) (fun h20 v21 =>
    some (h20, some (.int v21)))
  else if x1 = 105 then
    q_ix 0 3 (fun j22 =>
    q_ix 1 3 (fun j23 =>
    q_c1 ((q_sem d) 64 h [.ref 0, .int 0, .int (h.1 59 j22), .int (h.1 59 j23)]) (fun h24 v25 =>
    some (h24, some (.int v25)))))
  else if x1 = 106 then
    q_c1 ((q_sem d) 62 h [.ref 0]) (fun h26 v27 =>
    some (h26, some (.int v27)))
  else if x1 = 107 then
    q_ix 0 3 (fun j28 =>
    q_ix 1 3 (fun j29 =>
    q_c1 ((q_sem d) 64 h [.ref 0, .int 1, .int (h.1 59 j28), .int (h.1 59 j29)]) (fun h30 v31 =>
    some (h30, some (.int v31)))))
  else if x1 = 108 then
    q_c1 ((q_sem d) 62 h [.ref 0]) (fun h32 v33 =>
    some (h32, some (.int v33)))
  else if x1 = 109 then
    q_c1 ((q_sem d) 62 h [.ref 0]) (fun h34 v35 =>
    some (h34, some (.int v35)))
  else if x1 = 110 then
    q_ix 0 3 (fun j36 =>
    q_c1 ((q_sem d) 64 h [.ref 0, .int 4, .int 0, .int (h.1 59 j36)]) (fun h37 v38 =>
    some (h37, some (.int v38))))
  else if x1 = 111 then
    q_c1 ((q_sem d) 62 h [.ref 0]) (fun h39 v40 =>
    some (h39, some (.int v40)))
  else if x1 = 112 then
    q_c1 ((q_sem d) 62 h [.ref 0]) (fun h41 v42 =>
    some (h41, some (.int v42)))
  else if x1 = 113 then
    q_c1 ((q_sem d) 62 h [.ref 0]) (fun h43 v44 =>
    some (h43, some (.int v44)))
  else if x1 = 114 then
    q_c1 ((q_sem d) 62 h [.ref 0]) (fun h45 v46 =>
    some (h45, some (.int v46)))
  else if x1 = 115 then
    q_c1 ((q_sem d) 62 h [.ref 0]) (fun h47 v48 =>
    some (h47, some (.int v48)))
  else if x1 = 116 then
    q_c1 ((q_sem d) 62 h [.ref 0]) (fun h49 v50 =>
    some (h49, some (.int v50)))
  else if x1 = 117 then
    q_c1 ((q_sem d) 62 h [.ref 0]) (fun h51 v52 =>
    some (h51, some (.int v52)))
  else if x1 = 118 then
    q_c1 ((q_sem d) 62 h [.ref 0]) (fun h53 v54 =>
    some (h53, some (.int v54)))
  else if x1 = 119 then
    q_ix 0 3 (fun j55 =>
    q_c1 ((q_sem d) 64 h [.ref 0, .int 5, .int 0, .int (h.1 59 j55)]) (fun h56 v57 =>
    some (h56, some (.int v57))))
  else 
    q_c1 ((q_sem d) 62 h [.ref 0]) (fun h58 v59 =>
    some (h58, some (.int v59))) := (q_sem_s (by decide) (Nat.le_of_ble_eq_true rfl)).trans (b119_0 q_X0 (q_sem d) 999 h x1)
-- WhirlShaftsModel.isIn(III)Z with (None, None, None)
set_option maxRecDepth 20000 in
theorem m120 (d : Nat) (h : q_S) (x0 : Int32) (x1 : Int32) (x2 : Int32) : q_sem (d + 1) 120 h [.int x0, .int x1, .int x2] =
  if x0 < x1 then
    some (h, some (.int 0))
  else
    if x2 < x0 then
      some (h, some (.int 0))
    else
      some (h, some (.int 1)) := (q_sem_s (by decide) (Nat.le_of_ble_eq_true rfl)).trans (b120_0 q_X0 (q_sem d) 999 h x0 x1 x2)
-- WhirlShaftsModel.isDisc(I)Z with (67, None)
set_option maxRecDepth 20000 in
theorem m121 (d : Nat) (h : q_S) (x1 : Int32) : q_sem (d + 1) 121 h [.ref 67, .int x1] =
  q_c1 ((q_sem d) 120 h [.int x1, .int 0, .int ((h.1 67 0) - 1)]) (fun h1 v2 =>
  if v2 = 0 ∨ v2 = 1 then some (h1, some (.int v2)) else none) := (q_sem_s (by decide) (Nat.le_of_ble_eq_true rfl)).trans (b121_0 q_X0 (q_sem d) 999 h x1)
-- WhirlShaftsModel.isShaft(I)Z with (67, None)
set_option maxRecDepth 20000 in
theorem m122 (d : Nat) (h : q_S) (x1 : Int32) : q_sem (d + 1) 122 h [.ref 67, .int x1] =
  q_c1 ((q_sem d) 120 h [.int x1, .int 0, .int ((h.1 67 0) - 2)]) (fun h1 v2 =>
  if v2 = 0 ∨ v2 = 1 then some (h1, some (.int v2)) else none) := (q_sem_s (by decide) (Nat.le_of_ble_eq_true rfl)).trans (b122_0 q_X0 (q_sem d) 999 h x1)
-- WhirlShaftsModel.isBy(I)Z with (None,)
set_option maxRecDepth 20000 in
theorem m123 (d : Nat) (h : q_S) (x0 : Int32) : q_sem (d + 1) 123 h [.int x0] =
  q_c1 ((q_sem d) 120 h [.int x0, .int 1, .int 16]) (fun h1 v2 =>
  if v2 = 0 ∨ v2 = 1 then some (h1, some (.int v2)) else none) := (q_sem_s (by decide) (Nat.le_of_ble_eq_true rfl)).trans (b123_0 q_X0 (q_sem d) 999 h x0)
-- WhirlShaftsModel.isRateOf(II)Z with (None, None)
set_option maxRecDepth 20000 in
theorem m124 (d : Nat) (h : q_S) (x0 : Int32) (x1 : Int32) : q_sem (d + 1) 124 h [.int x0, .int x1] =
  q_c1 ((q_sem d) 120 h [.int x0, .int 0, .int 9999]) (fun h1 v2 =>
  if v2 = 0 then
    some (h1, some (.int 0))
  else
    q_c1 ((q_sem d) 123 h1 [.int x1]) (fun h3 v4 =>
    if v4 = 0 then
      some (h3, some (.int 0))
    else
      some (h3, some (.int 1)))) := (q_sem_s (by decide) (Nat.le_of_ble_eq_true rfl)).trans (b124_0 q_X0 (q_sem d) 999 h x0 x1)
-- WhirlShaftsModel.weighs(I)I with (67, None)
set_option maxRecDepth 20000 in
theorem m125 (d : Nat) (h : q_S) (x1 : Int32) : q_sem (d + 1) 125 h [.ref 67, .int x1] =
  q_ix x1 8 (fun j1 =>
  if 2 = 0 then none else
  q_ix x1 8 (fun j2 =>
  if (h.1 68 j2) = 1 then
    q_ix x1 8 (fun j3 =>
    some (h, some (.int (2 * (h.1 69 j3)))))
  else if (h.1 68 j2) = 2 then
    some (h, some (.int (((h.1 69 j1) + 1) / 2)))
  else if (h.1 68 j2) = 3 then
    q_ix x1 8 (fun j4 =>
    some (h, some (.int ((2 * (h.1 69 j4)) + 3))))
  else if (h.1 68 j2) = 4 then
    if 2 = 0 then none else
    if ((((h.1 69 j1) + 1) / 2) - ((h.1 67 1) / 2)) < 1 then
      some (h, some (.int 1))
    else
      if 2 = 0 then none else
      some (h, some (.int ((((h.1 69 j1) + 1) / 2) - ((h.1 67 1) / 2))))
  else 
    q_ix x1 8 (fun j5 =>
    some (h, some (.int (h.1 69 j5)))))) := (q_sem_s (by decide) (Nat.le_of_ble_eq_true rfl)).trans (b125_0 q_X0 (q_sem d) 999 h x1)
-- WhirlShaftsModel.reduces()V with (67,)
set_option maxRecDepth 20000 in
theorem m126 (d : Nat) (h : q_S)  : q_sem (d + 1) 126 h [.ref 67] =
  q_go e_126 q_X0 (q_sem d) 999 4 [(0, .ref 67), (1, .int 1), (2, .int 0)] [] h := (q_sem_s (by decide) (Nat.le_of_ble_eq_true rfl)).trans (b126_0 q_X0 (q_sem d) 999 h )
-- WhirlShaftsModel.turnsInAll()I with (67,)
set_option maxRecDepth 20000 in
theorem m127 (d : Nat) (h : q_S)  : q_sem (d + 1) 127 h [.ref 67] =
  q_go e_127 q_X0 (q_sem d) 999 4 [(0, .ref 67), (1, .int 1), (2, .int 0)] [] h := (q_sem_s (by decide) (Nat.le_of_ble_eq_true rfl)).trans (b127_0 q_X0 (q_sem d) 999 h )
-- WhirlShaftsModel.signAt(I)I with (67, None)
set_option maxRecDepth 20000 in
theorem m128 (d : Nat) (h : q_S) (x1 : Int32) : q_sem (d + 1) 128 h [.ref 67, .int x1] =
  q_ix ((x1 + 10) - 1) 30 (fun j1 =>
  if (lg_cmp (h.2.1 78 j1) (Int64.ofNat 0)) < 0 then
    some (h, some (.int (-1)))
  else
    q_go e_128 q_X0 (q_sem d) 999 22 [(0, .ref 67), (1, .int x1), (2, .int 0), (3, .int 0)] [] h) := (q_sem_s (by decide) (Nat.le_of_ble_eq_true rfl)).trans (b128_0 q_X0 (q_sem d) 999 h x1)
-- WhirlShaftsModel.restOf(J)I with (None,)
set_option maxRecDepth 20000 in
theorem m129 (d : Nat) (h : q_S) (x0 : Int64) : q_sem (d + 1) 129 h [.long x0] =
  if (Int64.ofNat 10007) = 0 then none else
  if (Int64.ofNat 10007) = 0 then none else
  some (h, some (.int ((((((x0 - x0 / (Int64.ofNat 10007) * (Int64.ofNat 10007)) + (Int64.ofNat 10007)) - ((x0 - x0 / (Int64.ofNat 10007) * (Int64.ofNat 10007)) + (Int64.ofNat 10007)) / (Int64.ofNat 10007) * (Int64.ofNat 10007)) : Int64)).toInt32))) := (q_sem_s (by decide) (Nat.le_of_ble_eq_true rfl)).trans (b129_0 q_X0 (q_sem d) 999 h x0)
-- WhirlShaftsModel.transfer(IIII)I with (67, None, None, None, None)
set_option maxRecDepth 20000 in
theorem m130 (d : Nat) (h : q_S) (x1 : Int32) (x2 : Int32) (x3 : Int32) (x4 : Int32) : q_sem (d + 1) 130 h [.ref 67, .int x1, .int x2, .int x3, .int x4] =
  q_go e_130 q_X0 (q_sem d) 999 3 [(0, .ref 67), (1, .int x1), (2, .int x2), (3, .int x3), (4, .int x4), (5, .int 0)] [] h := (q_sem_s (by decide) (Nat.le_of_ble_eq_true rfl)).trans (b130_0 q_X0 (q_sem d) 999 h x1 x2 x3 x4)
-- WhirlShaftsModel.belowAll(II)I with (67, None, None)
set_option maxRecDepth 20000 in
theorem m131 (d : Nat) (h : q_S) (x1 : Int32) (x2 : Int32) : q_sem (d + 1) 131 h [.ref 67, .int x1, .int x2] =
  q_c1 ((q_sem d) 130 h [.ref 67, .int 0, .int ((h.1 67 0) - 1), .int x1, .int x2]) (fun h1 v2 =>
  some (h1, some (.int v2))) := (q_sem_s (by decide) (Nat.le_of_ble_eq_true rfl)).trans (b131_0 q_X0 (q_sem d) 999 h x1 x2)
-- WhirlShaftsModel.topNow()I with (67,)
set_option maxRecDepth 20000 in
theorem m132 (d : Nat) (h : q_S)  : q_sem (d + 1) 132 h [.ref 67] =
  q_go e_132 q_X0 (q_sem d) 999 4 [(0, .ref 67), (1, .int (-1)), (2, .int 0)] [] h := (q_sem_s (by decide) (Nat.le_of_ble_eq_true rfl)).trans (b132_0 q_X0 (q_sem d) 999 h )
-- WhirlShaftsModel.fenceOf(II)I with (67, None, None)
set_option maxRecDepth 20000 in
theorem m133 (d : Nat) (h : q_S) (x1 : Int32) (x2 : Int32) : q_sem (d + 1) 133 h [.ref 67, .int x1, .int x2] =
  q_c0 ((q_sem d) 126 h [.ref 67]) (fun h1 =>
  q_c1 ((q_sem d) 132 h1 [.ref 67]) (fun h2 v3 =>
  q_go e_133 q_X0 (q_sem d) 999 14 [(0, .ref 67), (1, .int x1), (2, .int x2), (3, .int 0), (4, .int (v3 * x2))] [] h2)) := (q_sem_s (by decide) (Nat.le_of_ble_eq_true rfl)).trans (b133_0 q_X0 (q_sem d) 999 h x1 x2)
-- WhirlShaftsModel.forgetsChanges()V with (67,)
set_option maxRecDepth 20000 in
theorem m134 (d : Nat) (h : q_S)  : q_sem (d + 1) 134 h [.ref 67] =
  some ((q_si (q_si h 67 20 0) 67 21 0), none) := (q_sem_s (by decide) (Nat.le_of_ble_eq_true rfl)).trans (b134_0 q_X0 (q_sem d) 999 h )
-- WhirlShaftsModel.disc(III)I with (67, None, None, None)
set_option maxRecDepth 20000 in
theorem m135 (d : Nat) (h : q_S) (x1 : Int32) (x2 : Int32) (x3 : Int32) : q_sem (d + 1) 135 h [.ref 67, .int x1, .int x2, .int x3] =
  q_c1 ((q_sem d) 120 h [.int x1, .int 0, .int 4]) (fun h1 v2 =>
  if v2 = 0 then
    some (h1, some (.int (-1)))
  else
    q_c1 ((q_sem d) 120 h1 [.int x2, .int 1, .int 99]) (fun h3 v4 =>
    if v4 = 0 then
      some (h3, some (.int (-1)))
    else
      if 0 < (h3.1 67 0) then
        q_c1 ((q_sem d) 120 h3 [.int x3, .int 1, .int 99]) (fun h5 v6 =>
        if v6 = 0 then
          some (h5, some (.int (-1)))
        else
          q_go e_135 q_X0 (q_sem d) 999 38 [(0, .ref 67), (1, .int x1), (2, .int x2), (3, .int x3)] [] h5)
      else
        q_go e_135 q_X0 (q_sem d) 999 38 [(0, .ref 67), (1, .int x1), (2, .int x2), (3, .int x3)] [] h3)) := (q_sem_s (by decide) (Nat.le_of_ble_eq_true rfl)).trans (b135_0 q_X0 (q_sem d) 999 h x1 x2 x3)
-- WhirlShaftsModel.cut()I with (67,)
set_option maxRecDepth 20000 in
theorem m136 (d : Nat) (h : q_S)  : q_sem (d + 1) 136 h [.ref 67] =
  if (h.1 67 0) = 0 then
    some (h, some (.int (-5)))
  else
    q_c0 ((q_sem d) 134 h [.ref 67]) (fun h1 =>
    some ((q_si h1 67 0 ((h1.1 67 0) - 1)), some (.int ((h1.1 67 0) - 1)))) := (q_sem_s (by decide) (Nat.le_of_ble_eq_true rfl)).trans (b136_0 q_X0 (q_sem d) 999 h )
-- WhirlShaftsModel.clear()I with (67,)
set_option maxRecDepth 20000 in
theorem m137 (d : Nat) (h : q_S)  : q_sem (d + 1) 137 h [.ref 67] =
  q_c0 ((q_sem d) 134 (q_si (q_si (q_si h 67 0 0) 67 1 0) 67 2 0) [.ref 67]) (fun h1 =>
  some (h1, some (.int (h.1 67 0)))) := (q_sem_s (by decide) (Nat.le_of_ble_eq_true rfl)).trans (b137_0 q_X0 (q_sem d) 999 h )
-- WhirlShaftsModel.is(II)I with (67, None, None)
set_option maxRecDepth 20000 in
theorem m138 (d : Nat) (h : q_S) (x1 : Int32) (x2 : Int32) : q_sem (d + 1) 138 h [.ref 67, .int x1, .int x2] =
  if x1 = 0 then
    q_ix x2 8 (fun j1 =>
    some (h, some (.int (h.1 69 j1))))
  else if x1 = 1 then
    q_ix x2 8 (fun j2 =>
    some (h, some (.int (h.1 71 j2))))
  else if x1 = 2 then
    q_ix x2 8 (fun j3 =>
    some (h, some (.int (h.1 70 j3))))
  else if x1 = 3 then
    q_ix x2 8 (fun j4 =>
    some (h, some (.int (h.1 72 j4))))
  else if x1 = 4 then
    some (h, some (.int (h.1 67 1)))
  else 
    some (h, some (.int (h.1 67 2))) := (q_sem_s (by decide) (Nat.le_of_ble_eq_true rfl)).trans (b138_0 q_X0 (q_sem d) 999 h x1 x2)
-- WhirlShaftsModel.becomes(III)V with (67, None, None, None)
set_option maxRecDepth 20000 in
theorem m139 (d : Nat) (h : q_S) (x1 : Int32) (x2 : Int32) (x3 : Int32) : q_sem (d + 1) 139 h [.ref 67, .int x1, .int x2, .int x3] =
  if x1 = 0 then
    q_ix x2 8 (fun j1 =>
    some ((q_si h 69 j1 x3), none))
  else if x1 = 1 then
    q_ix x2 8 (fun j2 =>
    some ((q_si h 71 j2 x3), none))
  else if x1 = 2 then
    q_ix x2 8 (fun j3 =>
    some ((q_si h 70 j3 x3), none))
  else if x1 = 3 then
    q_ix x2 8 (fun j4 =>
    some ((q_si h 72 j4 x3), none))
  else if x1 = 4 then
    some ((q_si h 67 1 x3), none)
  else 
    some ((q_si h 67 2 x3), none) := (q_sem_s (by decide) (Nat.le_of_ble_eq_true rfl)).trans (b139_0 q_X0 (q_sem d) 999 h x1 x2 x3)
-- WhirlShaftsModel.isOne(II)Z with (67, None, None)
set_option maxRecDepth 20000 in
theorem m140 (d : Nat) (h : q_S) (x1 : Int32) (x2 : Int32) : q_sem (d + 1) 140 h [.ref 67, .int x1, .int x2] =
  if x1 = 0 then
    q_c1 ((q_sem d) 121 h [.ref 67, .int x2]) (fun h1 v2 =>
    if v2 = 0 ∨ v2 = 1 then some (h1, some (.int v2)) else none)
  else if x1 = 1 then
    q_c1 ((q_sem d) 122 h [.ref 67, .int x2]) (fun h3 v4 =>
    if v4 = 0 ∨ v4 = 1 then some (h3, some (.int v4)) else none)
  else if x1 = 2 then
    q_c1 ((q_sem d) 121 h [.ref 67, .int x2]) (fun h5 v6 =>
    if v6 = 0 ∨ v6 = 1 then some (h5, some (.int v6)) else none)
  else if x1 = 3 then
    q_c1 ((q_sem d) 122 h [.ref 67, .int x2]) (fun h7 v8 =>
    if v8 = 0 ∨ v8 = 1 then some (h7, some (.int v8)) else none)
  else 
    q_c1 ((q_sem d) 120 h [.int x1, .int 4, .int 5]) (fun h9 v10 =>
    if v10 = 0 ∨ v10 = 1 then some (h9, some (.int v10)) else none) := (q_sem_s (by decide) (Nat.le_of_ble_eq_true rfl)).trans (b140_0 q_X0 (q_sem d) 999 h x1 x2)
-- WhirlShaftsModel.leastOf(I)I with (None,)
set_option maxRecDepth 20000 in
theorem m141 (d : Nat) (h : q_S) (x0 : Int32) : q_sem (d + 1) 141 h [.int x0] =
  if x0 = 0 then
    some (h, some (.int 1))
  else
    if x0 = 1 then
      some (h, some (.int 1))
    else
      if x0 = 3 then
        some (h, some (.int 1))
      else
        some (h, some (.int 0)) := (q_sem_s (by decide) (Nat.le_of_ble_eq_true rfl)).trans (b141_0 q_X0 (q_sem d) 999 h x0)
-- WhirlShaftsModel.mostOf(I)I with (None,)
set_option maxRecDepth 20000 in
theorem m142 (d : Nat) (h : q_S) (x0 : Int32) : q_sem (d + 1) 142 h [.int x0] =
  if x0 < 3 then
    some (h, some (.int 99))
  else
    if x0 = 3 then
      some (h, some (.int 6))
    else
      if x0 = 4 then
        some (h, some (.int 9))
      else
        some (h, some (.int 2)) := (q_sem_s (by decide) (Nat.le_of_ble_eq_true rfl)).trans (b142_0 q_X0 (q_sem d) 999 h x0)
-- WhirlShaftsModel.refuses(III)I with (67, None, None, None)
set_option maxRecDepth 20000 in
theorem m143 (d : Nat) (h : q_S) (x1 : Int32) (x2 : Int32) (x3 : Int32) : q_sem (d + 1) 143 h [.ref 67, .int x1, .int x2, .int x3] =
  q_c1 ((q_sem d) 120 h [.int x1, .int 0, .int 5]) (fun h1 v2 =>
  if v2 = 0 then
    some (h1, some (.int (-1)))
  else
    q_c1 ((q_sem d) 140 h1 [.ref 67, .int x1, .int x2]) (fun h3 v4 =>
    if v4 = 0 then
      some (h3, some (.int (-1)))
    else
      q_c1 ((q_sem d) 141 h3 [.int x1]) (fun h5 v6 =>
      q_c1 ((q_sem d) 142 h5 [.int x1]) (fun h7 v8 =>
      q_c1 ((q_sem d) 120 h7 [.int x3, .int v6, .int v8]) (fun h9 v10 =>
      if v10 = 0 then
        some (h9, some (.int (-1)))
      else
        if x1 = 3 then
          q_c1 ((q_sem d) 127 h9 [.ref 67]) (fun h11 v12 =>
          q_ix x2 8 (fun j13 =>
          if (h11.1 72 j13) = 0 then none else
          if 6 < ((v12 / (h11.1 72 j13)) * x3) then
            some (h11, some (.int (-5)))
          else
            some (h11, some (.int 0))))
        else
          some (h9, some (.int 0))))))) := (q_sem_s (by decide) (Nat.le_of_ble_eq_true rfl)).trans (b143_0 q_X0 (q_sem d) 999 h x1 x2 x3)
-- WhirlShaftsModel.notes(IIII)V with (67, None, None, None, None)
set_option maxRecDepth 20000 in
theorem m144 (d : Nat) (h : q_S) (x1 : Int32) (x2 : Int32) (x3 : Int32) (x4 : Int32) : q_sem (d + 1) 144 h [.ref 67, .int x1, .int x2, .int x3, .int x4] =
  if (h.1 67 20) = 12 then
    q_go e_144 q_X0 (q_sem d) 999 12 [(0, .ref 67), (1, .int x1), (2, .int x2), (3, .int x3), (4, .int x4), (5, .int 1)] [] h
  else
    q_go e_144 q_X0 (q_sem d) 999 99 [(0, .ref 67), (1, .int x1), (2, .int x2), (3, .int x3), (4, .int x4)] [] h := (q_sem_s (by decide) (Nat.le_of_ble_eq_true rfl)).trans (b144_0 q_X0 (q_sem d) 999 h x1 x2 x3 x4)
-- WhirlShaftsModel.set(III)I with (67, None, None, None)
set_option maxRecDepth 20000 in
theorem m145 (d : Nat) (h : q_S) (x1 : Int32) (x2 : Int32) (x3 : Int32) : q_sem (d + 1) 145 h [.ref 67, .int x1, .int x2, .int x3] =
  q_c1 ((q_sem d) 143 h [.ref 67, .int x1, .int x2, .int x3]) (fun h1 v2 =>
  if v2 = 0 then
    q_c1 ((q_sem d) 138 h1 [.ref 67, .int x1, .int x2]) (fun h3 v4 =>
    if v4 = x3 then
      some (h3, some (.int v4))
    else
      q_c0 ((q_sem d) 144 h3 [.ref 67, .int x1, .int x2, .int v4, .int x3]) (fun h5 =>
      q_c0 ((q_sem d) 139 h5 [.ref 67, .int x1, .int x2, .int x3]) (fun h6 =>
      some (h6, some (.int v4)))))
  else
    some (h1, some (.int v2))) := (q_sem_s (by decide) (Nat.le_of_ble_eq_true rfl)).trans (b145_0 q_X0 (q_sem d) 999 h x1 x2 x3)
-- WhirlShaftsModel.undo()I with (67,)
set_option maxRecDepth 20000 in
theorem m146 (d : Nat) (h : q_S)  : q_sem (d + 1) 146 h [.ref 67] =
  if (h.1 67 20) = 0 then
    some (h, some (.int (-5)))
  else
    q_ix ((h.1 67 20) - 1) 12 (fun j1 =>
    q_ix ((h.1 67 20) - 1) 12 (fun j2 =>
    q_ix ((h.1 67 20) - 1) 12 (fun j3 =>
    q_c0 ((q_sem d) 139 (q_si (q_si h 67 20 ((h.1 67 20) - 1)) 67 21 ((h.1 67 21) + 1)) [.ref 67, .int (h.1 81 j1), .int (h.1 82 j2), .int (h.1 83 j3)]) (fun h4 =>
    some (h4, some (.int (h4.1 67 20))))))) := (q_sem_s (by decide) (Nat.le_of_ble_eq_true rfl)).trans (b146_0 q_X0 (q_sem d) 999 h )
-- WhirlShaftsModel.redo()I with (67,)
set_option maxRecDepth 20000 in
theorem m147 (d : Nat) (h : q_S)  : q_sem (d + 1) 147 h [.ref 67] =
  if (h.1 67 21) = 0 then
    some (h, some (.int (-5)))
  else
    q_ix (h.1 67 20) 12 (fun j1 =>
    q_ix (h.1 67 20) 12 (fun j2 =>
    q_ix (h.1 67 20) 12 (fun j3 =>
    q_c0 ((q_sem d) 139 h [.ref 67, .int (h.1 81 j1), .int (h.1 82 j2), .int (h.1 84 j3)]) (fun h4 =>
    some ((q_si (q_si h4 67 20 ((h4.1 67 20) + 1)) 67 21 ((h4.1 67 21) - 1)), some (.int ((h4.1 67 21) - 1))))))) := (q_sem_s (by decide) (Nat.le_of_ble_eq_true rfl)).trans (b147_0 q_X0 (q_sem d) 999 h )
-- WhirlShaftsModel.of(II)I with (67, None, None)
set_option maxRecDepth 20000 in
theorem m148 (d : Nat) (h : q_S) (x1 : Int32) (x2 : Int32) : q_sem (d + 1) 148 h [.ref 67, .int x1, .int x2] =
  q_c1 ((q_sem d) 120 h [.int x1, .int 0, .int 5]) (fun h1 v2 =>
  if v2 = 0 then
    if x1 = 12 then
      q_c1 ((q_sem d) 122 h1 [.ref 67, .int x2]) (fun h3 v4 =>
      if v4 = 0 then
        some (h3, some (.int (-1)))
      else
        q_c0 ((q_sem d) 126 h3 [.ref 67]) (fun h5 =>
        if x1 = 6 then
          q_ix x2 8 (fun j6 =>
          some (h5, some (.int (h5.1 68 j6))))
        else if x1 = 7 then
          q_c1 ((q_sem d) 125 h5 [.ref 67, .int x2]) (fun h7 v8 =>
          some (h7, some (.int v8)))
        else if x1 = 8 then
          q_ix x2 8 (fun j9 =>
          some (h5, some (.int (h5.1 74 j9))))
        else if x1 = 9 then
          q_ix x2 8 (fun j10 =>
          some (h5, some (.int (h5.1 75 j10))))
        else if x1 = 10 then
          q_ix x2 8 (fun j11 =>
          some (h5, some (.int (h5.1 73 j11))))
        else if x1 = 11 then
          q_ix x2 8 (fun j12 =>
          some (h5, some (.int (h5.1 77 j12))))
        else 
          q_ix x2 8 (fun j13 =>
          some (h5, some (.int (h5.1 76 j13))))))
    else
      q_c1 ((q_sem d) 120 h1 [.int x1, .int 6, .int 11]) (fun h14 v15 =>
      if v15 = 0 then
        some (h14, some (.int (-1)))
      else
        q_c1 ((q_sem d) 121 h14 [.ref 67, .int x2]) (fun h16 v17 =>
        if v17 = 0 then
          some (h16, some (.int (-1)))
        else
          q_c0 ((q_sem d) 126 h16 [.ref 67]) (fun h18 =>
          if x1 = 6 then
            q_ix x2 8 (fun j19 =>
            some (h18, some (.int (h18.1 68 j19))))
          else if x1 = 7 then
            q_c1 ((q_sem d) 125 h18 [.ref 67, .int x2]) (fun h20 v21 =>
            some (h20, some (.int v21)))
          else if x1 = 8 then
            q_ix x2 8 (fun j22 =>
            some (h18, some (.int (h18.1 74 j22))))
          else if x1 = 9 then
            q_ix x2 8 (fun j23 =>
            some (h18, some (.int (h18.1 75 j23))))
          else if x1 = 10 then
            q_ix x2 8 (fun j24 =>
            some (h18, some (.int (h18.1 73 j24))))
          else if x1 = 11 then
            q_ix x2 8 (fun j25 =>
            some (h18, some (.int (h18.1 77 j25))))
          else 
            q_ix x2 8 (fun j26 =>
            some (h18, some (.int (h18.1 76 j26)))))))
  else
    q_c1 ((q_sem d) 140 h1 [.ref 67, .int x1, .int x2]) (fun h27 v28 =>
    if v28 = 0 then
      some (h27, some (.int (-1)))
    else
      q_c1 ((q_sem d) 138 h27 [.ref 67, .int x1, .int x2]) (fun h29 v30 =>
      some (h29, some (.int v30))))) := (q_sem_s (by decide) (Nat.le_of_ble_eq_true rfl)).trans (b148_0 q_X0 (q_sem d) 999 h x1 x2)
-- WhirlShaftsModel.below(II)I with (67, None, None)
set_option maxRecDepth 20000 in
theorem m149 (d : Nat) (h : q_S) (x1 : Int32) (x2 : Int32) : q_sem (d + 1) 149 h [.ref 67, .int x1, .int x2] =
  q_c1 ((q_sem d) 124 h [.int x1, .int x2]) (fun h1 v2 =>
  if v2 = 0 then
    some (h1, some (.int (-1)))
  else
    q_c0 ((q_sem d) 126 h1 [.ref 67]) (fun h3 =>
    q_c1 ((q_sem d) 131 h3 [.ref 67, .int x1, .int x2]) (fun h4 v5 =>
    some (h4, some (.int v5))))) := (q_sem_s (by decide) (Nat.le_of_ble_eq_true rfl)).trans (b149_0 q_X0 (q_sem d) 999 h x1 x2)
-- WhirlShaftsModel.isRate(II)I with (67, None, None)
set_option maxRecDepth 20000 in
theorem m150 (d : Nat) (h : q_S) (x1 : Int32) (x2 : Int32) : q_sem (d + 1) 150 h [.ref 67, .int x1, .int x2] =
  q_c1 ((q_sem d) 124 h [.int x1, .int x2]) (fun h1 v2 =>
  if v2 = 0 then
    some (h1, some (.int (-1)))
  else
    q_c0 ((q_sem d) 126 h1 [.ref 67]) (fun h3 =>
    q_c1 ((q_sem d) 131 h3 [.ref 67, .int x1, .int x2]) (fun h4 v5 =>
    q_ix (h4.1 67 0) 9 (fun j6 =>
    if (h4.1 79 j6) = 0 then
      some (h4, some (.int 1))
    else
      some (h4, some (.int 0)))))) := (q_sem_s (by decide) (Nat.le_of_ble_eq_true rfl)).trans (b150_0 q_X0 (q_sem d) 999 h x1 x2)
-- WhirlShaftsModel.sign(III)I with (67, None, None, None)
set_option maxRecDepth 20000 in
theorem m151 (d : Nat) (h : q_S) (x1 : Int32) (x2 : Int32) (x3 : Int32) : q_sem (d + 1) 151 h [.ref 67, .int x1, .int x2, .int x3] =
  q_c1 ((q_sem d) 121 h [.ref 67, .int x1]) (fun h1 v2 =>
  if v2 = 0 then
    some (h1, some (.int (-1000)))
  else
    q_c1 ((q_sem d) 124 h1 [.int x2, .int x3]) (fun h3 v4 =>
    if v4 = 0 then
      some (h3, some (.int (-1000)))
    else
      q_c0 ((q_sem d) 126 h3 [.ref 67]) (fun h5 =>
      q_c1 ((q_sem d) 131 h5 [.ref 67, .int x2, .int x3]) (fun h6 v7 =>
      q_ix x1 9 (fun j8 =>
      some (h6, some (.int (h6.1 79 j8)))))))) := (q_sem_s (by decide) (Nat.le_of_ble_eq_true rfl)).trans (b151_0 q_X0 (q_sem d) 999 h x1 x2 x3)
-- WhirlShaftsModel.nodes(II)I with (67, None, None)
set_option maxRecDepth 20000 in
theorem m152 (d : Nat) (h : q_S) (x1 : Int32) (x2 : Int32) : q_sem (d + 1) 152 h [.ref 67, .int x1, .int x2] =
  q_c1 ((q_sem d) 124 h [.int x1, .int x2]) (fun h1 v2 =>
  if v2 = 0 then
    some (h1, some (.int (-1)))
  else
    q_c0 ((q_sem d) 126 h1 [.ref 67]) (fun h3 =>
    q_c1 ((q_sem d) 131 h3 [.ref 67, .int x1, .int x2]) (fun h4 v5 =>
    q_go e_152 q_X0 (q_sem d) 999 29 [(0, .ref 67), (3, .int 0), (4, .int 1), (5, .int 0)] [] h4))) := (q_sem_s (by decide) (Nat.le_of_ble_eq_true rfl)).trans (b152_0 q_X0 (q_sem d) 999 h x1 x2)
-- WhirlShaftsModel.rest(III)I with (67, None, None, None)
set_option maxRecDepth 20000 in
theorem m153 (d : Nat) (h : q_S) (x1 : Int32) (x2 : Int32) (x3 : Int32) : q_sem (d + 1) 153 h [.ref 67, .int x1, .int x2, .int x3] =
  q_c1 ((q_sem d) 120 h [.int x1, .int 0, .int (h.1 67 0)]) (fun h1 v2 =>
  if v2 = 0 then
    some (h1, some (.int (-1)))
  else
    q_c1 ((q_sem d) 124 h1 [.int x2, .int x3]) (fun h3 v4 =>
    if v4 = 0 then
      some (h3, some (.int (-1)))
    else
      q_c0 ((q_sem d) 126 h3 [.ref 67]) (fun h5 =>
      q_c1 ((q_sem d) 131 h5 [.ref 67, .int x2, .int x3]) (fun h6 v7 =>
      q_ix x1 9 (fun j8 =>
      some (h6, some (.int (h6.1 80 j8)))))))) := (q_sem_s (by decide) (Nat.le_of_ble_eq_true rfl)).trans (b153_0 q_X0 (q_sem d) 999 h x1 x2 x3)
-- WhirlShaftsModel.top()I with (67,)
set_option maxRecDepth 20000 in
theorem m154 (d : Nat) (h : q_S)  : q_sem (d + 1) 154 h [.ref 67] =
  q_c0 ((q_sem d) 126 h [.ref 67]) (fun h1 =>
  q_c1 ((q_sem d) 132 h1 [.ref 67]) (fun h2 v3 =>
  some (h2, some (.int v3)))) := (q_sem_s (by decide) (Nat.le_of_ble_eq_true rfl)).trans (b154_0 q_X0 (q_sem d) 999 h )
-- WhirlShaftsModel.isFenced(II)Z with (67, None, None)
set_option maxRecDepth 20000 in
theorem m155 (d : Nat) (h : q_S) (x1 : Int32) (x2 : Int32) : q_sem (d + 1) 155 h [.ref 67, .int x1, .int x2] =
  q_c1 ((q_sem d) 121 h [.ref 67, .int x1]) (fun h1 v2 =>
  if v2 = 0 then
    some (h1, some (.int 0))
  else
    q_c1 ((q_sem d) 123 h1 [.int x2]) (fun h3 v4 =>
    if v4 = 0 then
      some (h3, some (.int 0))
    else
      some (h3, some (.int 1)))) := (q_sem_s (by decide) (Nat.le_of_ble_eq_true rfl)).trans (b155_0 q_X0 (q_sem d) 999 h x1 x2)
-- WhirlShaftsModel.fence(II)I with (67, None, None)
set_option maxRecDepth 20000 in
theorem m156 (d : Nat) (h : q_S) (x1 : Int32) (x2 : Int32) : q_sem (d + 1) 156 h [.ref 67, .int x1, .int x2] =
  q_c1 ((q_sem d) 155 h [.ref 67, .int x1, .int x2]) (fun h1 v2 =>
  if v2 = 0 then
    some (h1, some (.int (-1)))
  else
    q_c1 ((q_sem d) 133 h1 [.ref 67, .int x1, .int x2]) (fun h3 v4 =>
    some (h3, some (.int v4)))) := (q_sem_s (by decide) (Nat.le_of_ble_eq_true rfl)).trans (b156_0 q_X0 (q_sem d) 999 h x1 x2)
-- WhirlShaftsModel.held(III)I with (67, None, None, None)
set_option maxRecDepth 20000 in
theorem m157 (d : Nat) (h : q_S) (x1 : Int32) (x2 : Int32) (x3 : Int32) : q_sem (d + 1) 157 h [.ref 67, .int x1, .int x2, .int x3] =
  q_c1 ((q_sem d) 121 h [.ref 67, .int x1]) (fun h1 v2 =>
  if v2 = 0 then
    some (h1, some (.int (-1)))
  else
    q_c1 ((q_sem d) 124 h1 [.int x2, .int x3]) (fun h3 v4 =>
    if v4 = 0 then
      some (h3, some (.int (-1)))
    else
      q_c0 ((q_sem d) 126 h3 [.ref 67]) (fun h5 =>
      q_c1 ((q_sem d) 130 h5 [.ref 67, .int 0, .int (x1 - 1), .int x2, .int x3]) (fun h6 v7 =>
      q_c1 ((q_sem d) 130 h6 [.ref 67, .int (x1 + 1), .int ((h6.1 67 0) - 1), .int x2, .int x3]) (fun h8 v9 =>
      some (h8, some (.int (v7 + v9)))))))) := (q_sem_s (by decide) (Nat.le_of_ble_eq_true rfl)).trans (b157_0 q_X0 (q_sem d) 999 h x1 x2 x3)
-- WhirlShaftsModel.isBand(III)Z with (None, None, None)
set_option maxRecDepth 20000 in
theorem m158 (d : Nat) (h : q_S) (x0 : Int32) (x1 : Int32) (x2 : Int32) : q_sem (d + 1) 158 h [.int x0, .int x1, .int x2] =
  q_c1 ((q_sem d) 124 h [.int x0, .int x2]) (fun h1 v2 =>
  if v2 = 0 then
    some (h1, some (.int 0))
  else
    q_c1 ((q_sem d) 124 h1 [.int x1, .int x2]) (fun h3 v4 =>
    if v4 = 0 then
      some (h3, some (.int 0))
    else
      if x1 < x0 then
        some (h3, some (.int 0))
      else
        some (h3, some (.int 1)))) := (q_sem_s (by decide) (Nat.le_of_ble_eq_true rfl)).trans (b158_0 q_X0 (q_sem d) 999 h x0 x1 x2)
-- WhirlShaftsModel.bandOf(III)I with (67, None, None, None)
set_option maxRecDepth 20000 in
theorem m159 (d : Nat) (h : q_S) (x1 : Int32) (x2 : Int32) (x3 : Int32) : q_sem (d + 1) 159 h [.ref 67, .int x1, .int x2, .int x3] =
  q_c0 ((q_sem d) 126 h [.ref 67]) (fun h1 =>
  q_c1 ((q_sem d) 131 h1 [.ref 67, .int x2, .int x3]) (fun h2 v3 =>
  q_c1 ((q_sem d) 131 h2 [.ref 67, .int x1, .int x3]) (fun h4 v5 =>
  some (h4, some (.int (v3 - v5)))))) := (q_sem_s (by decide) (Nat.le_of_ble_eq_true rfl)).trans (b159_0 q_X0 (q_sem d) 999 h x1 x2 x3)
-- WhirlShaftsModel.band(III)I with (67, None, None, None)
set_option maxRecDepth 20000 in
theorem m160 (d : Nat) (h : q_S) (x1 : Int32) (x2 : Int32) (x3 : Int32) : q_sem (d + 1) 160 h [.ref 67, .int x1, .int x2, .int x3] =
  q_c1 ((q_sem d) 158 h [.int x1, .int x2, .int x3]) (fun h1 v2 =>
  if v2 = 0 then
    some (h1, some (.int (-1)))
  else
    q_c1 ((q_sem d) 159 h1 [.ref 67, .int x1, .int x2, .int x3]) (fun h3 v4 =>
    some (h3, some (.int v4)))) := (q_sem_s (by decide) (Nat.le_of_ble_eq_true rfl)).trans (b160_0 q_X0 (q_sem d) 999 h x1 x2 x3)
-- WhirlShaftsModel.gap(II)I with (67, None, None)
set_option maxRecDepth 20000 in
theorem m161 (d : Nat) (h : q_S) (x1 : Int32) (x2 : Int32) : q_sem (d + 1) 161 h [.ref 67, .int x1, .int x2] =
  q_c1 ((q_sem d) 123 h [.int x1]) (fun h1 v2 =>
  if v2 = 0 then
    some (h1, some (.int (-1)))
  else
    q_c1 ((q_sem d) 120 h1 [.int x2, .int 0, .int 1]) (fun h3 v4 =>
    if v4 = 0 then
      some (h3, some (.int (-1)))
    else
      q_go e_161 q_X0 (q_sem d) 999 28 [(0, .ref 67), (1, .int x1), (2, .int x2), (3, .int (-2)), (4, .int (-2)), (5, .int 0)] [] h3)) := (q_sem_s (by decide) (Nat.le_of_ble_eq_true rfl)).trans (b161_0 q_X0 (q_sem d) 999 h x1 x2)
-- WhirlShaftsModel.trim(IIIII)I with (67, None, None, None, None, None)
set_option maxRecDepth 20000 in
theorem m162 (d : Nat) (h : q_S) (x1 : Int32) (x2 : Int32) (x3 : Int32) (x4 : Int32) (x5 : Int32) : q_sem (d + 1) 162 h [.ref 67, .int x1, .int x2, .int x3, .int x4, .int x5] =
  q_c1 ((q_sem d) 121 h [.ref 67, .int x1]) (fun h1 v2 =>
  if v2 = 0 then
    some (h1, some (.int (-1)))
  else
    q_c1 ((q_sem d) 121 h1 [.ref 67, .int x2]) (fun h3 v4 =>
    if v4 = 0 then
      some (h3, some (.int (-1)))
    else
      q_c1 ((q_sem d) 124 h3 [.int x3, .int x4]) (fun h5 v6 =>
      if v6 = 0 then
        some (h5, some (.int (-1)))
      else
        q_c1 ((q_sem d) 120 h5 [.int x5, .int 0, .int 1]) (fun h7 v8 =>
        if v8 = 0 then
          some (h7, some (.int (-1)))
        else
          q_ix x1 8 (fun j9 =>
          q_go e_162 q_X0 (q_sem d) 999 54 [(0, .ref 67), (1, .int x1), (2, .int x2), (3, .int x3), (4, .int x4), (5, .int x5), (6, .int (h7.1 69 j9)), (7, .int 0), (8, .int 0), (9, .int 1)] [] h7))))) := (q_sem_s (by decide) (Nat.le_of_ble_eq_true rfl)).trans (b162_0 q_X0 (q_sem d) 999 h x1 x2 x3 x4 x5)
-- WhirlShaftsModel.tune(IIII)I with (67, None, None, None, None)
set_option maxRecDepth 20000 in
theorem m163 (d : Nat) (h : q_S) (x1 : Int32) (x2 : Int32) (x3 : Int32) (x4 : Int32) : q_sem (d + 1) 163 h [.ref 67, .int x1, .int x2, .int x3, .int x4] =
  q_c1 ((q_sem d) 122 h [.ref 67, .int x1]) (fun h1 v2 =>
  if v2 = 0 then
    some (h1, some (.int (-1)))
  else
    q_c1 ((q_sem d) 158 h1 [.int x2, .int x3, .int x4]) (fun h3 v4 =>
    if v4 = 0 then
      some (h3, some (.int (-1)))
    else
      q_ix x1 8 (fun j5 =>
      q_go e_163 q_X0 (q_sem d) 999 34 [(0, .ref 67), (1, .int x1), (2, .int x2), (3, .int x3), (4, .int x4), (5, .int (h3.1 71 j5)), (6, .int 1), (7, .int 0)] [] h3))) := (q_sem_s (by decide) (Nat.le_of_ble_eq_true rfl)).trans (b163_0 q_X0 (q_sem d) 999 h x1 x2 x3 x4)
-- WhirlShaftsModel.heavier(III)I with (67, None, None, None)
set_option maxRecDepth 20000 in
theorem m164 (d : Nat) (h : q_S) (x1 : Int32) (x2 : Int32) (x3 : Int32) : q_sem (d + 1) 164 h [.ref 67, .int x1, .int x2, .int x3] =
  q_c1 ((q_sem d) 155 h [.ref 67, .int x1, .int x2]) (fun h1 v2 =>
  if v2 = 0 then
    some (h1, some (.int (-1)))
  else
    q_c1 ((q_sem d) 120 h1 [.int x3, .int 0, .int 1]) (fun h3 v4 =>
    if v4 = 0 then
      some (h3, some (.int (-1)))
    else
      q_go e_164 q_X0 (q_sem d) 999 31 [(0, .ref 67), (1, .int x1), (2, .int x2), (3, .int x3), (4, .int (-2)), (5, .int (-2)), (6, .int 0)] [] h3)) := (q_sem_s (by decide) (Nat.le_of_ble_eq_true rfl)).trans (b164_0 q_X0 (q_sem d) 999 h x1 x2 x3)
-- WhirlShaftsModel.swaps(I)V with (67, None)
set_option maxRecDepth 20000 in
theorem m165 (d : Nat) (h : q_S) (x1 : Int32) : q_sem (d + 1) 165 h [.ref 67, .int x1] =
  q_ix x1 8 (fun j1 =>
  q_ix x1 8 (fun j2 =>
  q_ix (x1 + 1) 8 (fun j3 =>
  q_ix x1 8 (fun j4 =>
  q_ix (x1 + 1) 8 (fun j5 =>
  q_ix x1 8 (fun j6 =>
  q_ix (x1 + 1) 8 (fun j7 =>
  q_ix (x1 + 1) 8 (fun j8 =>
  some ((q_si (q_si (q_si (q_si h 68 j4 (h.1 68 j3)) 69 j6 (h.1 69 j5)) 68 j7 (h.1 68 j1)) 69 j8 (h.1 69 j2)), none))))))))) := (q_sem_s (by decide) (Nat.le_of_ble_eq_true rfl)).trans (b165_0 q_X0 (q_sem d) 999 h x1)
-- WhirlShaftsModel.change(II)I with (67, None, None)
set_option maxRecDepth 20000 in
theorem m166 (d : Nat) (h : q_S) (x1 : Int32) (x2 : Int32) : q_sem (d + 1) 166 h [.ref 67, .int x1, .int x2] =
  q_c1 ((q_sem d) 155 h [.ref 67, .int x1, .int x2]) (fun h1 v2 =>
  if v2 = 0 then
    some (h1, some (.int (-1)))
  else
    q_c1 ((q_sem d) 133 h1 [.ref 67, .int x1, .int x2]) (fun h3 v4 =>
    q_go e_166 q_X0 (q_sem d) 999 25 [(0, .ref 67), (1, .int x1), (2, .int x2), (3, .int (-2)), (4, .int v4), (5, .int 0)] [] h3)) := (q_sem_s (by decide) (Nat.le_of_ble_eq_true rfl)).trans (b166_0 q_X0 (q_sem d) 999 h x1 x2)
-- WhirlShaftsModel.critical(I)I with (67, None)
set_option maxRecDepth 20000 in
theorem m167 (d : Nat) (h : q_S) (x1 : Int32) : q_sem (d + 1) 167 h [.ref 67, .int x1] =
  q_c1 ((q_sem d) 121 h [.ref 67, .int x1]) (fun h1 v2 =>
  if v2 = 0 then
    some (h1, some (.int (-1)))
  else
    q_go e_167 q_X0 (q_sem d) 999 21 [(0, .ref 67), (1, .int x1), (2, .int (h1.1 67 1)), (3, .int (-2)), (4, .int 1)] [] h1) := (q_sem_s (by decide) (Nat.le_of_ble_eq_true rfl)).trans (b167_0 q_X0 (q_sem d) 999 h x1)
-- WhirlShaftsModel.isRow(I)Z with (None,)
set_option maxRecDepth 20000 in
theorem m168 (d : Nat) (h : q_S) (x0 : Int32) : q_sem (d + 1) 168 h [.int x0] =
  q_c1 ((q_sem d) 120 h [.int x0, .int 0, .int 2]) (fun h1 v2 =>
  if v2 = 0 ∨ v2 = 1 then some (h1, some (.int v2)) else none) := (q_sem_s (by decide) (Nat.le_of_ble_eq_true rfl)).trans (b168_0 q_X0 (q_sem d) 999 h x0)
-- WhirlShaftsModel.narrow(IJ)J with (None, None)
set_option maxRecDepth 20000 in
theorem m169 (d : Nat) (h : q_S) (x0 : Int32) (x1 : Int64) : q_sem (d + 1) 169 h [.int x0, .long x1] =
  if x0 = 0 then
    some (h, some (.long (((((((x1 : Int64)).toInt32 : Int32)).toInt8.toInt32 : Int32)).toInt64)))
  else
    if x0 = 1 then
      some (h, some (.long (((((x1 : Int64)).toInt32 : Int32)).toInt64)))
    else
      some (h, some (.long x1)) := (q_sem_s (by decide) (Nat.le_of_ble_eq_true rfl)).trans (b169_0 q_X0 (q_sem d) 999 h x0 x1)
-- WhirlShaftsModel.row(III)I with (67, None, None, None)
set_option maxRecDepth 20000 in
theorem m170 (d : Nat) (h : q_S) (x1 : Int32) (x2 : Int32) (x3 : Int32) : q_sem (d + 1) 170 h [.ref 67, .int x1, .int x2, .int x3] =
  q_c1 ((q_sem d) 168 h [.int x1]) (fun h1 v2 =>
  if v2 = 0 then
    some (h1, some (.int (-1)))
  else
    q_c1 ((q_sem d) 120 h1 [.int x2, .int (-1), .int 2]) (fun h3 v4 =>
    if v4 = 0 then
      some (h3, some (.int (-1)))
    else
      if x2 < 0 then
        if x2 < 0 then
          q_go e_170 q_X0 (q_sem d) 999 39 [(0, .ref 67), (1, .int x1), (2, .int x2), (3, .int x3)] [] h3
        else
          if x3 < 0 then
            some (h3, some (.int (-14)))
          else
            q_go e_170 q_X0 (q_sem d) 999 39 [(0, .ref 67), (1, .int x1), (2, .int x2), (3, .int x3)] [] h3
      else
        if 40 < x3 then
          some (h3, some (.int (-1)))
        else
          if x2 < 0 then
            q_go e_170 q_X0 (q_sem d) 999 39 [(0, .ref 67), (1, .int x1), (2, .int x2), (3, .int x3)] [] h3
          else
            if x3 < 0 then
              some (h3, some (.int (-14)))
            else
              q_go e_170 q_X0 (q_sem d) 999 39 [(0, .ref 67), (1, .int x1), (2, .int x2), (3, .int x3)] [] h3)) := (q_sem_s (by decide) (Nat.le_of_ble_eq_true rfl)).trans (b170_0 q_X0 (q_sem d) 999 h x1 x2 x3)
-- WhirlShaftsModel.put(IIJ)I with (67, None, None, None)
set_option maxRecDepth 20000 in
theorem m171 (d : Nat) (h : q_S) (x1 : Int32) (x2 : Int32) (x3 : Int64) : q_sem (d + 1) 171 h [.ref 67, .int x1, .int x2, .long x3] =
  q_c1 ((q_sem d) 168 h [.int x1]) (fun h1 v2 =>
  if v2 = 0 then
    some (h1, some (.int (-1)))
  else
    q_ix x1 3 (fun j3 =>
    if (h1.1 85 j3) < 0 then
      some (h1, some (.int (-11)))
    else
      q_ix x1 3 (fun j4 =>
      q_c1 ((q_sem d) 120 h1 [.int x2, .int 0, .int ((h1.1 86 j4) - 1)]) (fun h5 v6 =>
      if v6 = 0 then
        some (h5, some (.int (-13)))
      else
        q_ix x1 3 (fun j7 =>
        q_c3 ((q_sem d) 169 h5 [.int (h5.1 85 j7), .long x3]) (fun h8 v9 =>
        q_ix ((40 * x1) + x2) 120 (fun j10 =>
        some ((q_sl h8 87 j10 v9), some (.int 1))))))))) := (q_sem_s (by decide) (Nat.le_of_ble_eq_true rfl)).trans (b171_0 q_X0 (q_sem d) 999 h x1 x2 x3)
-- WhirlShaftsModel.get(II)J with (67, None, None)
set_option maxRecDepth 20000 in
theorem m172 (d : Nat) (h : q_S) (x1 : Int32) (x2 : Int32) : q_sem (d + 1) 172 h [.ref 67, .int x1, .int x2] =
  q_c1 ((q_sem d) 168 h [.int x1]) (fun h1 v2 =>
  if v2 = 0 then
    some (h1, some (.long (Int64.ofNat 9223372036854775808)))
  else
    q_ix x1 3 (fun j3 =>
    if (h1.1 85 j3) < 0 then
      some (h1, some (.long (Int64.ofNat 9223372036854775808)))
    else
      q_ix x1 3 (fun j4 =>
      q_c1 ((q_sem d) 120 h1 [.int x2, .int 0, .int ((h1.1 86 j4) - 1)]) (fun h5 v6 =>
      if v6 = 0 then
        some (h5, some (.long (Int64.ofNat 9223372036854775808)))
      else
        q_ix ((40 * x1) + x2) 120 (fun j7 =>
        some (h5, some (.long (h5.2.1 87 j7)))))))) := (q_sem_s (by decide) (Nat.le_of_ble_eq_true rfl)).trans (b172_0 q_X0 (q_sem d) 999 h x1 x2)
-- WhirlShaftsModel.film(III)I with (67, None, None, None)
set_option maxRecDepth 20000 in
theorem m173 (d : Nat) (h : q_S) (x1 : Int32) (x2 : Int32) (x3 : Int32) : q_sem (d + 1) 173 h [.ref 67, .int x1, .int x2, .int x3] =
  q_c1 ((q_sem d) 168 h [.int x1]) (fun h1 v2 =>
  if v2 = 0 then
    some (h1, some (.int (-1)))
  else
    q_c1 ((q_sem d) 120 h1 [.int x2, .int 0, .int 2]) (fun h3 v4 =>
    if v4 = 0 then
      some (h3, some (.int (-1)))
    else
      q_c1 ((q_sem d) 123 h3 [.int x3]) (fun h5 v6 =>
      if v6 = 0 then
        some (h5, some (.int (-1)))
      else
        q_ix x1 3 (fun j7 =>
        q_ix x1 3 (fun j8 =>
        q_go e_173 q_X0 (q_sem d) 999 45 [(0, .ref 67), (1, .int x1), (2, .int x2), (3, .int x3), (4, .int 0)] [] (q_si (q_si h5 85 j7 x2) 86 j8 (h5.1 67 0))))))) := (q_sem_s (by decide) (Nat.le_of_ble_eq_true rfl)).trans (b173_0 q_X0 (q_sem d) 999 h x1 x2 x3)
-- WhirlShaftsModel.copy(IIIII)I with (67, None, None, None, None, None)
set_option maxRecDepth 20000 in
theorem m174 (d : Nat) (h : q_S) (x1 : Int32) (x2 : Int32) (x3 : Int32) (x4 : Int32) (x5 : Int32) : q_sem (d + 1) 174 h [.ref 67, .int x1, .int x2, .int x3, .int x4, .int x5] =
  q_c1 ((q_sem d) 168 h [.int x1]) (fun h1 v2 =>
  if v2 = 0 then
    some (h1, some (.int (-1)))
  else
    q_c1 ((q_sem d) 168 h1 [.int x3]) (fun h3 v4 =>
    if v4 = 0 then
      some (h3, some (.int (-1)))
    else
      q_ix x1 3 (fun j5 =>
      if (h3.1 85 j5) < 0 then
        some (h3, some (.int (-11)))
      else
        q_ix x3 3 (fun j6 =>
        if (h3.1 85 j6) < 0 then
          some (h3, some (.int (-11)))
        else
          q_ix x1 3 (fun j7 =>
          q_ix x3 3 (fun j8 =>
          if (h3.1 85 j7) = (h3.1 85 j8) then
            if x5 < 0 then
              some (h3, some (.int (-13)))
            else
              if x2 < 0 then
                some (h3, some (.int (-13)))
              else
                if x4 < 0 then
                  some (h3, some (.int (-13)))
                else
                  q_ix x1 3 (fun j9 =>
                  if 0 < (lg_cmp (((x2 : Int32)).toInt64 + ((x5 : Int32)).toInt64) ((((h3.1 86 j9) : Int32)).toInt64)) then
                    some (h3, some (.int (-13)))
                  else
                    q_ix x3 3 (fun j10 =>
                    if 0 < (lg_cmp (((x4 : Int32)).toInt64 + ((x5 : Int32)).toInt64) ((((h3.1 86 j10) : Int32)).toInt64)) then
                      some (h3, some (.int (-13)))
                    else
                      q_go e_174 q_X0 (q_sem d) 999 110 [(0, .ref 67), (1, .int x1), (2, .int x2), (3, .int x3), (4, .int x4), (5, .int x5), (6, .int 0)] [] h3))
          else
            some (h3, some (.int (-12))))))))) := (q_sem_s (by decide) (Nat.le_of_ble_eq_true rfl)).trans (b174_0 q_X0 (q_sem d) 999 h x1 x2 x3 x4 x5)
-- WhirlShaftsModel.isSo(III)Z with (67, None, None, None)
set_option maxRecDepth 20000 in
theorem m175 (d : Nat) (h : q_S) (x1 : Int32) (x2 : Int32) (x3 : Int32) : q_sem (d + 1) 175 h [.ref 67, .int x1, .int x2, .int x3] =
  q_go e_175 q_X0 (q_sem d) 999 3 [(0, .ref 67), (1, .int x1), (2, .int x2), (3, .int x3), (4, .int 0)] [] h := (q_sem_s (by decide) (Nat.le_of_ble_eq_true rfl)).trans (b175_0 q_X0 (q_sem d) 999 h x1 x2 x3)
-- WhirlShaftsModel.fits(IIIII)I with (67, None, None, None, None, None)
set_option maxRecDepth 20000 in
theorem m176 (d : Nat) (h : q_S) (x1 : Int32) (x2 : Int32) (x3 : Int32) (x4 : Int32) (x5 : Int32) : q_sem (d + 1) 176 h [.ref 67, .int x1, .int x2, .int x3, .int x4, .int x5] =
  q_c1 ((q_sem d) 168 h [.int x1]) (fun h1 v2 =>
  if v2 = 0 then
    some (h1, some (.int (-1)))
  else
    q_c1 ((q_sem d) 120 h1 [.int x2, .int 0, .int (h1.1 67 0)]) (fun h3 v4 =>
    if v4 = 0 then
      some (h3, some (.int (-1)))
    else
      q_c1 ((q_sem d) 123 h3 [.int x3]) (fun h5 v6 =>
      if v6 = 0 then
        some (h5, some (.int (-1)))
      else
        q_c1 ((q_sem d) 121 h5 [.ref 67, .int x4]) (fun h7 v8 =>
        if v8 = 0 then
          some (h7, some (.int (-1)))
        else
          q_c1 ((q_sem d) 120 h7 [.int x5, .int 0, .int 2]) (fun h9 v10 =>
          if v10 = 0 then
            some (h9, some (.int (-1)))
          else
            q_ix x1 3 (fun j11 =>
            if (h9.1 85 j11) < 0 then
              some (h9, some (.int (-11)))
            else
              q_ix x1 3 (fun j12 =>
              if (h9.1 86 j12) < x2 then
                some (h9, some (.int (-13)))
              else
                if x5 = 2 then
                  q_c1 ((q_sem d) 177 h9 [.ref 67, .int x1, .int x2, .int x3, .int x4]) (fun h13 v14 =>
                  some (h13, some (.int v14)))
                else
                  q_c1 ((q_sem d) 178 h9 [.ref 67, .int x1, .int x2, .int x3, .int x4, .int x5]) (fun h15 v16 =>
                  some (h15, some (.int v16)))))))))) := (q_sem_s (by decide) (Nat.le_of_ble_eq_true rfl)).trans (b176_0 q_X0 (q_sem d) 999 h x1 x2 x3 x4 x5)
-- WhirlShaftsModel.fittingKinds(IIII)I with (67, None, None, None, None)
set_option maxRecDepth 20000 in
theorem m177 (d : Nat) (h : q_S) (x1 : Int32) (x2 : Int32) (x3 : Int32) (x4 : Int32) : q_sem (d + 1) 177 h [.ref 67, .int x1, .int x2, .int x3, .int x4] =
  q_ix x4 8 (fun j1 =>
  q_go e_177 q_X0 (q_sem d) 999 15 [(0, .ref 67), (1, .int x1), (2, .int x2), (3, .int x3), (4, .int x4), (5, .int (h.1 68 j1)), (6, .int 0), (7, .int 0)] [] h) := (q_sem_s (by decide) (Nat.le_of_ble_eq_true rfl)).trans (b177_0 q_X0 (q_sem d) 999 h x1 x2 x3 x4)
-- WhirlShaftsModel.fittingMasses(IIIII)I with (67, None, None, None, None, None)
set_option maxRecDepth 20000 in
theorem m178 (d : Nat) (h : q_S) (x1 : Int32) (x2 : Int32) (x3 : Int32) (x4 : Int32) (x5 : Int32) : q_sem (d + 1) 178 h [.ref 67, .int x1, .int x2, .int x3, .int x4, .int x5] =
  q_ix x4 8 (fun j1 =>
  q_go e_178 q_X0 (q_sem d) 999 20 [(0, .ref 67), (1, .int x1), (2, .int x2), (3, .int x3), (4, .int x4), (5, .int x5), (6, .int (h.1 69 j1)), (7, .int 0), (8, .int (-2)), (9, .int 99)] [] h) := (q_sem_s (by decide) (Nat.le_of_ble_eq_true rfl)).trans (b178_0 q_X0 (q_sem d) 999 h x1 x2 x3 x4 x5)
-- WhirlShaftsModel.judge(II)I with (67, None, None)
set_option maxRecDepth 20000 in
theorem m179 (d : Nat) (h : q_S) (x1 : Int32) (x2 : Int32) : q_sem (d + 1) 179 h [.ref 67, .int x1, .int x2] =
  q_c1 ((q_sem d) 168 h [.int x1]) (fun h1 v2 =>
  if v2 = 0 then
    some (h1, some (.int (-1)))
  else
    q_c1 ((q_sem d) 123 h1 [.int x2]) (fun h3 v4 =>
    if v4 = 0 then
      some (h3, some (.int (-1)))
    else
      q_ix x1 3 (fun j5 =>
      if (h3.1 85 j5) < 0 then
        some (h3, some (.int (-11)))
      else
        q_go e_179 q_X0 (q_sem d) 999 30 [(0, .ref 67), (1, .int x1), (2, .int x2), (3, .int 0)] [] h3))) := (q_sem_s (by decide) (Nat.le_of_ble_eq_true rfl)).trans (b179_0 q_X0 (q_sem d) 999 h x1 x2)
-- WhirlShaftsModel.order(III)I with (67, None, None, None)
set_option maxRecDepth 20000 in
theorem m180 (d : Nat) (h : q_S) (x1 : Int32) (x2 : Int32) (x3 : Int32) : q_sem (d + 1) 180 h [.ref 67, .int x1, .int x2, .int x3] =
  q_c1 ((q_sem d) 120 h [.int x1, .int 0, .int 5]) (fun h1 v2 =>
  if v2 = 0 then
    some (h1, some (.int (-1)))
  else
    if (h1.1 67 26) = 8 then
      some (h1, some (.int (-3)))
    else
      q_ix (h1.1 67 26) 8 (fun j3 =>
      q_ix (h1.1 67 26) 8 (fun j4 =>
      q_ix (h1.1 67 26) 8 (fun j5 =>
      some ((q_si (q_si (q_si (q_si h1 89 j3 x1) 90 j4 x2) 91 j5 x3) 67 26 ((h1.1 67 26) + 1)), some (.int ((h1.1 67 26) + 1))))))) := (q_sem_s (by decide) (Nat.le_of_ble_eq_true rfl)).trans (b180_0 q_X0 (q_sem d) 999 h x1 x2 x3)
-- WhirlShaftsModel.tried(II)I with (67, None, None)
set_option maxRecDepth 20000 in
theorem m181 (d : Nat) (h : q_S) (x1 : Int32) (x2 : Int32) : q_sem (d + 1) 181 h [.ref 67, .int x1, .int x2] =
  q_c1 ((q_sem d) 155 h [.ref 67, .int x1, .int x2]) (fun h1 v2 =>
  if v2 = 0 then
    some (h1, some (.int (-1)))
  else
    q_c0 ((q_sem d) 202 h1 [.ref 67, .int 0, .int 1]) (fun h3 =>
    q_go e_181 q_X0 (q_sem d) 999 19 [(0, .ref 67), (1, .int x1), (2, .int x2), (3, .int 0)] [] h3)) := (q_sem_s (by decide) (Nat.le_of_ble_eq_true rfl)).trans (b181_0 q_X0 (q_sem d) 999 h x1 x2)
-- WhirlShaftsModel.does()I with (67,)
set_option maxRecDepth 20000 in
theorem m182 (d : Nat) (h : q_S)  : q_sem (d + 1) 182 h [.ref 67] =
  q_go e_182 q_X0 (q_sem d) 999 4 [(0, .ref 67), (1, .int 0), (2, .int 0)] [] h := (q_sem_s (by decide) (Nat.le_of_ble_eq_true rfl)).trans (b182_0 q_X0 (q_sem d) 999 h )
-- WhirlShaftsModel.drop()I with (67,)
set_option maxRecDepth 20000 in
theorem m183 (d : Nat) (h : q_S)  : q_sem (d + 1) 183 h [.ref 67] =
  some ((q_si h 67 26 0), some (.int (h.1 67 26))) := (q_sem_s (by decide) (Nat.le_of_ble_eq_true rfl)).trans (b183_0 q_X0 (q_sem d) 999 h )
-- WhirlShaftsModel.feed(I)I with (67, None)
set_option maxRecDepth 20000 in
theorem m184 (d : Nat) (h : q_S) (x1 : Int32) : q_sem (d + 1) 184 h [.ref 67, .int x1] =
  q_c1 ((q_sem d) 120 h [.int x1, .int 32, .int 126]) (fun h1 v2 =>
  if v2 = 0 then
    some (h1, some (.int (-1)))
  else
    if (h1.1 67 35) = 80 then
      some (h1, some (.int (-3)))
    else
      q_ix (h1.1 67 35) 80 (fun j3 =>
      some ((q_si (q_si h1 92 j3 x1) 67 35 ((h1.1 67 35) + 1)), some (.int ((h1.1 67 35) + 1))))) := (q_sem_s (by decide) (Nat.le_of_ble_eq_true rfl)).trans (b184_0 q_X0 (q_sem d) 999 h x1)
-- WhirlShaftsModel.wipe()I with (67,)
set_option maxRecDepth 20000 in
theorem m185 (d : Nat) (h : q_S)  : q_sem (d + 1) 185 h [.ref 67] =
  some ((q_si h 67 35 0), some (.int (h.1 67 35))) := (q_sem_s (by decide) (Nat.le_of_ble_eq_true rfl)).trans (b185_0 q_X0 (q_sem d) 999 h )
-- WhirlShaftsModel.next()I with (67,)
set_option maxRecDepth 20000 in
theorem m186 (d : Nat) (h : q_S)  : q_sem (d + 1) 186 h [.ref 67] =
  if (h.1 67 36) < (h.1 67 35) then
    q_ix (h.1 67 36) 80 (fun j1 =>
    some (h, some (.int (h.1 92 j1))))
  else
    some (h, some (.int (-1))) := (q_sem_s (by decide) (Nat.le_of_ble_eq_true rfl)).trans (b186_0 q_X0 (q_sem d) 999 h )
-- WhirlShaftsModel.numbersOf(I)I with (None,)
set_option maxRecDepth 20000 in
theorem m187 (d : Nat) (h : q_S) (x0 : Int32) : q_sem (d + 1) 187 h [.int x0] =
  if x0 = 98 then
    some (h, some (.int 2))
  else if x0 = 99 then
    some (h, some (.int (-1)))
  else if x0 = 100 then
    some (h, some (.int 3))
  else if x0 = 101 then
    some (h, some (.int (-1)))
  else if x0 = 102 then
    some (h, some (.int (-1)))
  else if x0 = 103 then
    some (h, some (.int 2))
  else if x0 = 104 then
    some (h, some (.int (-1)))
  else if x0 = 105 then
    some (h, some (.int 2))
  else if x0 = 106 then
    some (h, some (.int (-1)))
  else if x0 = 107 then
    some (h, some (.int 2))
  else if x0 = 108 then
    some (h, some (.int (-1)))
  else if x0 = 109 then
    some (h, some (.int (-1)))
  else if x0 = 110 then
    some (h, some (.int 1))
  else if x0 = 111 then
    some (h, some (.int (-1)))
  else if x0 = 112 then
    some (h, some (.int (-1)))
  else if x0 = 113 then
    some (h, some (.int (-1)))
  else if x0 = 114 then
    some (h, some (.int (-1)))
  else if x0 = 115 then
    some (h, some (.int (-1)))
  else if x0 = 116 then
    some (h, some (.int (-1)))
  else if x0 = 117 then
    some (h, some (.int (-1)))
  else if x0 = 118 then
    some (h, some (.int (-1)))
  else if x0 = 119 then
    some (h, some (.int 1))
  else if x0 = 120 then
    some (h, some (.int 0))
  else 
    some (h, some (.int (-1))) := (q_sem_s (by decide) (Nat.le_of_ble_eq_true rfl)).trans (b187_0 q_X0 (q_sem d) 999 h x0)
-- WhirlShaftsModel.number()I with (67,)
set_option maxRecDepth 20000 in
theorem m188 (d : Nat) (h : q_S)  : q_sem (d + 1) 188 h [.ref 67] =
  q_c1 ((q_sem d) 186 h [.ref 67]) (fun h1 v2 =>
  q_c1 ((q_sem d) 120 h1 [.int v2, .int 48, .int 57]) (fun h3 v4 =>
  if v4 = 0 then
    some (h3, some (.int (-1)))
  else
    q_c1 ((q_sem d) 186 h3 [.ref 67]) (fun h5 v6 =>
    q_c1 ((q_sem d) 186 (q_si h5 67 36 ((h5.1 67 36) + 1)) [.ref 67]) (fun h7 v8 =>
    q_c1 ((q_sem d) 120 h7 [.int v8, .int 48, .int 57]) (fun h9 v10 =>
    if v10 = 0 then
      some (h9, some (.int (v6 - 48)))
    else
      q_c1 ((q_sem d) 186 h9 [.ref 67]) (fun h11 v12 =>
      some ((q_si h11 67 36 ((h11.1 67 36) + 1)), some (.int (((10 * (v6 - 48)) + v12) - 48))))))))) := (q_sem_s (by decide) (Nat.le_of_ble_eq_true rfl)).trans (b188_0 q_X0 (q_sem d) 999 h )
-- WhirlShaftsModel.reads()Z with (67,)
set_option maxRecDepth 20000 in
theorem m189 (d : Nat) (h : q_S)  : q_sem (d + 1) 189 h [.ref 67] =
  q_c1 ((q_sem d) 186 h [.ref 67]) (fun h1 v2 =>
  q_c1 ((q_sem d) 187 h1 [.int v2]) (fun h3 v4 =>
  if v4 < 0 then
    some (h3, some (.int 0))
  else
    q_c1 ((q_sem d) 186 h3 [.ref 67]) (fun h5 v6 =>
    q_ix (h3.1 67 37) 40 (fun j7 =>
    q_go e_189 q_X0 (q_sem d) 999 39 [(0, .ref 67), (1, .int v4), (2, .int 0)] [] (q_si (q_si h5 93 j7 v6) 67 36 ((h5.1 67 36) + 1)))))) := (q_sem_s (by decide) (Nat.le_of_ble_eq_true rfl)).trans (b189_0 q_X0 (q_sem d) 999 h )
-- WhirlShaftsModel.readsAll()Z with (67,)
set_option maxRecDepth 20000 in
theorem m190 (d : Nat) (h : q_S)  : q_sem (d + 1) 190 h [.ref 67] =
  q_c1 ((q_sem d) 189 (q_si (q_si h 67 36 0) 67 37 0) [.ref 67]) (fun h1 v2 =>
  q_go e_190 q_X0 (q_sem d) 999 15 [(0, .ref 67), (1, .int v2)] [] h1) := (q_sem_s (by decide) (Nat.le_of_ble_eq_true rfl)).trans (b190_0 q_X0 (q_sem d) 999 h )
-- WhirlShaftsModel.done(I)I with (67, None)
set_option maxRecDepth 20000 in
theorem m191 (d : Nat) (h : q_S) (x1 : Int32) : q_sem (d + 1) 191 h [.ref 67, .int x1] =
  q_ix x1 40 (fun j1 =>
  if (h.1 93 j1) = 98 then
    q_ix x1 40 (fun j2 =>
    q_ix x1 40 (fun j3 =>
    q_c1 ((q_sem d) 145 h [.ref 67, .int 2, .int (h.1 94 j2), .int (h.1 95 j3)]) (fun h4 v5 =>
    some (h4, some (.int v5)))))
  else if (h.1 93 j1) = 99 then
    q_c1 ((q_sem d) 136 h [.ref 67]) (fun h6 v7 =>
    some (h6, some (.int v7)))
  else if (h.1 93 j1) = 100 then
    q_ix x1 40 (fun j8 =>
    q_ix x1 40 (fun j9 =>
    q_ix x1 40 (fun j10 =>
    q_c1 ((q_sem d) 135 h [.ref 67, .int (h.1 94 j8), .int (h.1 95 j9), .int (h.1 96 j10)]) (fun h11 v12 =>
    some (h11, some (.int v12))))))
  else if (h.1 93 j1) = 101 then
    q_c1 ((q_sem d) 136 h [.ref 67]) (fun h13 v14 =>
    some (h13, some (.int v14)))
  else if (h.1 93 j1) = 102 then
    q_c1 ((q_sem d) 136 h [.ref 67]) (fun h15 v16 =>
    some (h15, some (.int v16)))
  else if (h.1 93 j1) = 103 then
    q_ix x1 40 (fun j17 =>
    q_ix x1 40 (fun j18 =>
    q_c1 ((q_sem d) 145 h [.ref 67, .int 3, .int (h.1 94 j17), .int (h.1 95 j18)]) (fun h19 v20 =>
    some (h19, some (.int v20)))))
  else if (h.1 93 j1) = 104 then
    q_c1 ((q_sem d) 136 h [.ref 67]) (fun h21 v22 =>
    some (h21, some (.int v22)))
  else if (h.1 93 j1) = 105 then
    q_ix x1 40 (fun j23 =>
    q_ix x1 40 (fun j24 =>
    q_c1 ((q_sem d) 145 h [.ref 67, .int 0, .int (h.1 94 j23), .int (h.1 95 j24)]) (fun h25 v26 =>
    some (h25, some (.int v26)))))
  else if (h.1 93 j1) = 106 then
    q_c1 ((q_sem d) 136 h [.ref 67]) (fun h27 v28 =>
    some (h27, some (.int v28)))
  else if (h.1 93 j1) = 107 then
    q_ix x1 40 (fun j29 =>
    q_ix x1 40 (fun j30 =>
    q_c1 ((q_sem d) 145 h [.ref 67, .int 1, .int (h.1 94 j29), .int (h.1 95 j30)]) (fun h31 v32 =>
    some (h31, some (.int v32)))))
  else if (h.1 93 j1) = 108 then
    q_c1 ((q_sem d) 136 h [.ref 67]) (fun h33 v34 =>
    some (h33, some (.int v34)))
  else if (h.1 93 j1) = 109 then
    q_c1 ((q_sem d) 136 h [.ref 67]) (fun h35 v36 =>
    some (h35, some (.int v36)))
  else if (h.1 93 j1) = 110 then
    q_ix x1 40 (fun j37 =>
    q_c1 ((q_sem d) 145 h [.ref 67, .int 4, .int 0, .int (h.1 94 j37)]) (fun h38 v39 =>
    some (h38, some (.int v39))))
  else if (h.1 93 j1) = 111 then
    q_c1 ((q_sem d) 136 h [.ref 67]) (fun h40 v41 =>
    some (h40, some (.int v41)))
  else if (h.1 93 j1) = 112 then
    q_c1 ((q_sem d) 136 h [.ref 67]) (fun h42 v43 =>
    some (h42, some (.int v43)))
  else if (h.1 93 j1) = 113 then
    q_c1 ((q_sem d) 136 h [.ref 67]) (fun h44 v45 =>
    some (h44, some (.int v45)))
  else if (h.1 93 j1) = 114 then
    q_c1 ((q_sem d) 136 h [.ref 67]) (fun h46 v47 =>
    some (h46, some (.int v47)))
  else if (h.1 93 j1) = 115 then
    q_c1 ((q_sem d) 136 h [.ref 67]) (fun h48 v49 =>
    some (h48, some (.int v49)))
  else if (h.1 93 j1) = 116 then
    q_c1 ((q_sem d) 136 h [.ref 67]) (fun h50 v51 =>
    some (h50, some (.int v51)))
  else if (h.1 93 j1) = 117 then
    q_c1 ((q_sem d) 136 h [.ref 67]) (fun h52 v53 =>
    some (h52, some (.int v53)))
  else if (h.1 93 j1) = 118 then
    q_c1 ((q_sem d) 136 h [.ref 67]) (fun h54 v55 =>
    some (h54, some (.int v55)))
  else if (h.1 93 j1) = 119 then
    q_ix x1 40 (fun j56 =>
    q_c1 ((q_sem d) 145 h [.ref 67, .int 5, .int 0, .int (h.1 94 j56)]) (fun h57 v58 =>
    some (h57, some (.int v58))))
  else 
    q_c1 ((q_sem d) 136 h [.ref 67]) (fun h59 v60 =>
    some (h59, some (.int v60)))) := (q_sem_s (by decide) (Nat.le_of_ble_eq_true rfl)).trans (b191_0 q_X0 (q_sem d) 999 h x1)
-- WhirlShaftsModel.read()I with (67,)
set_option maxRecDepth 20000 in
theorem m192 (d : Nat) (h : q_S)  : q_sem (d + 1) 192 h [.ref 67] =
  q_c1 ((q_sem d) 190 h [.ref 67]) (fun h1 v2 =>
  if v2 = 0 then
    some ((q_si h1 67 35 0), some (.int ((-100) - (h1.1 67 36))))
  else
    q_go e_192 q_X0 (q_sem d) 999 24 [(0, .ref 67), (2, .int 0)] [] (q_si h1 67 35 0)) := (q_sem_s (by decide) (Nat.le_of_ble_eq_true rfl)).trans (b192_0 q_X0 (q_sem d) 999 h )
-- WhirlShaftsModel.note(I)V with (67, None)
set_option maxRecDepth 20000 in
theorem m193 (d : Nat) (h : q_S) (x1 : Int32) : q_sem (d + 1) 193 h [.ref 67, .int x1] =
  if (h.1 67 39) < 24 then
    q_ix (h.1 67 39) 24 (fun j1 =>
    some ((q_si (q_si h 97 j1 x1) 67 39 ((h.1 67 39) + 1)), none))
  else
    some ((q_si h 67 39 ((h.1 67 39) + 1)), none) := (q_sem_s (by decide) (Nat.le_of_ble_eq_true rfl)).trans (b193_0 q_X0 (q_sem d) 999 h x1)
-- WhirlShaftsModel.spins(II)I with (67, None, None)
set_option maxRecDepth 20000 in
theorem m194 (d : Nat) (h : q_S) (x1 : Int32) (x2 : Int32) : q_sem (d + 1) 194 h [.ref 67, .int x1, .int x2] =
  q_ix x1 8 (fun j1 =>
  if (h.1 68 j1) = 2 then
    q_go e_194 q_X0 (q_sem d) 999 25 [(0, .ref 67), (1, .int x1), (2, .int x2)] [.int 1] h
  else
    q_ix x1 8 (fun j2 =>
    if (h.1 68 j2) = 4 then
      q_go e_194 q_X0 (q_sem d) 999 25 [(0, .ref 67), (1, .int x1), (2, .int x2)] [.int 1] h
    else
      q_go e_194 q_X0 (q_sem d) 999 25 [(0, .ref 67), (1, .int x1), (2, .int x2)] [.int 0] h)) := (q_sem_s (by decide) (Nat.le_of_ble_eq_true rfl)).trans (b194_0 q_X0 (q_sem d) 999 h x1 x2)
-- WhirlShaftsModel.swings(II)I with (67, None, None)
set_option maxRecDepth 20000 in
theorem m195 (d : Nat) (h : q_S) (x1 : Int32) (x2 : Int32) : q_sem (d + 1) 195 h [.ref 67, .int x1, .int x2] =
  q_ix x1 8 (fun j1 =>
  if (h.1 68 j1) = 1 then
    q_go e_195 q_X0 (q_sem d) 999 25 [(0, .ref 67), (1, .int x1), (2, .int x2)] [.int 1] h
  else
    q_ix x1 8 (fun j2 =>
    if (h.1 68 j2) = 3 then
      q_go e_195 q_X0 (q_sem d) 999 25 [(0, .ref 67), (1, .int x1), (2, .int x2)] [.int 1] h
    else
      q_go e_195 q_X0 (q_sem d) 999 25 [(0, .ref 67), (1, .int x1), (2, .int x2)] [.int 0] h)) := (q_sem_s (by decide) (Nat.le_of_ble_eq_true rfl)).trans (b195_0 q_X0 (q_sem d) 999 h x1 x2)
-- WhirlShaftsModel.tells(II)I with (67, None, None)
set_option maxRecDepth 20000 in
theorem m196 (d : Nat) (h : q_S) (x1 : Int32) (x2 : Int32) : q_sem (d + 1) 196 h [.ref 67, .int x1, .int x2] =
  q_ix x1 8 (fun j1 =>
  if (h.1 68 j1) = 3 then
    q_c0 ((q_sem d) 193 h [.ref 67, .int 40]) (fun h2 =>
    q_go e_196 q_X0 (q_sem d) 999 16 [(0, .ref 67), (1, .int x1), (2, .int x2)] [] h2)
  else
    q_go e_196 q_X0 (q_sem d) 999 16 [(0, .ref 67), (1, .int x1), (2, .int x2)] [] h) := (q_sem_s (by decide) (Nat.le_of_ble_eq_true rfl)).trans (b196_0 q_X0 (q_sem d) 999 h x1 x2)
-- WhirlShaftsModel.act(III)I with (67, None, None, None)
set_option maxRecDepth 20000 in
theorem m197 (d : Nat) (h : q_S) (x1 : Int32) (x2 : Int32) (x3 : Int32) : q_sem (d + 1) 197 h [.ref 67, .int x1, .int x2, .int x3] =
  q_c1 ((q_sem d) 121 h [.ref 67, .int x1]) (fun h1 v2 =>
  if v2 = 0 then
    some (h1, some (.int 0))
  else
    q_c1 ((q_sem d) 120 h1 [.int x2, .int 0, .int 2]) (fun h3 v4 =>
    if v4 = 0 then
      some (h3, some (.int 0))
    else
      if x2 = 0 then
        q_c1 ((q_sem d) 194 (q_si h3 67 39 0) [.ref 67, .int x1, .int x3]) (fun h5 v6 =>
        some (h5, some (.int v6)))
      else
        if x2 = 1 then
          q_c1 ((q_sem d) 195 (q_si h3 67 39 0) [.ref 67, .int x1, .int x3]) (fun h7 v8 =>
          some (h7, some (.int v8)))
        else
          q_c1 ((q_sem d) 196 (q_si h3 67 39 0) [.ref 67, .int x1, .int x3]) (fun h9 v10 =>
          some (h9, some (.int v10))))) := (q_sem_s (by decide) (Nat.le_of_ble_eq_true rfl)).trans (b197_0 q_X0 (q_sem d) 999 h x1 x2 x3)
-- WhirlShaftsModel.trace(I)I with (67, None)
set_option maxRecDepth 20000 in
theorem m198 (d : Nat) (h : q_S) (x1 : Int32) : q_sem (d + 1) 198 h [.ref 67, .int x1] =
  if x1 < 0 then
    some (h, some (.int (-2)))
  else
    if x1 < 24 then
      if x1 < (h.1 67 39) then
        q_ix x1 24 (fun j1 =>
        some (h, some (.int (h.1 97 j1))))
      else
        some (h, some (.int (-2)))
    else
      some (h, some (.int (-2))) := (q_sem_s (by decide) (Nat.le_of_ble_eq_true rfl)).trans (b198_0 q_X0 (q_sem d) 999 h x1)
-- WhirlShaftsModel.taken(II)I with (67, None, None)
set_option maxRecDepth 20000 in
theorem m199 (d : Nat) (h : q_S) (x1 : Int32) (x2 : Int32) : q_sem (d + 1) 199 h [.ref 67, .int x1, .int x2] =
  q_c1 ((q_sem d) 121 h [.ref 67, .int x1]) (fun h1 v2 =>
  if v2 = 0 then
    some (h1, some (.int (-1)))
  else
    q_c1 ((q_sem d) 120 h1 [.int x2, .int 0, .int 4]) (fun h3 v4 =>
    if v4 = 0 then
      some (h3, some (.int (-1)))
    else
      if x2 = 0 then
        q_go e_199 q_X0 (q_sem d) 999 63 [(0, .ref 67), (1, .int x1)] [] h3
      else
        q_ix x1 8 (fun j5 =>
        if (h3.1 68 j5) = x2 then
          q_go e_199 q_X0 (q_sem d) 999 63 [(0, .ref 67), (1, .int x1)] [] h3
        else
          if x2 = 1 then
            q_ix x1 8 (fun j6 =>
            if (h3.1 68 j6) = 3 then
              q_go e_199 q_X0 (q_sem d) 999 63 [(0, .ref 67), (1, .int x1)] [] h3
            else
              if x2 = 2 then
                q_ix x1 8 (fun j7 =>
                if (h3.1 68 j7) = 4 then
                  q_go e_199 q_X0 (q_sem d) 999 63 [(0, .ref 67), (1, .int x1)] [] h3
                else
                  q_go e_199 q_X0 (q_sem d) 999 67 [(0, .ref 67), (1, .int x1)] [] h3)
              else
                q_go e_199 q_X0 (q_sem d) 999 67 [(0, .ref 67), (1, .int x1)] [] h3)
          else
            if x2 = 2 then
              q_ix x1 8 (fun j8 =>
              if (h3.1 68 j8) = 4 then
                q_go e_199 q_X0 (q_sem d) 999 63 [(0, .ref 67), (1, .int x1)] [] h3
              else
                q_go e_199 q_X0 (q_sem d) 999 67 [(0, .ref 67), (1, .int x1)] [] h3)
            else
              q_go e_199 q_X0 (q_sem d) 999 67 [(0, .ref 67), (1, .int x1)] [] h3))) := (q_sem_s (by decide) (Nat.le_of_ble_eq_true rfl)).trans (b199_0 q_X0 (q_sem d) 999 h x1 x2)
-- WhirlShaftsModel.passOne(I)I with (67, None)
set_option maxRecDepth 20000 in
theorem m200 (d : Nat) (h : q_S) (x1 : Int32) : q_sem (d + 1) 200 h [.ref 67, .int x1] =
  if (h.1 67 46) = 0 then
    q_ix (h.1 67 44) 140 (fun j1 =>
    q_go e_200 q_X0 (q_sem d) 999 20 [(0, .ref 67)] [.int (h.1 98 j1)] h)
  else
    q_go e_200 q_X0 (q_sem d) 999 20 [(0, .ref 67)] [.int x1] h := (q_sem_s (by decide) (Nat.le_of_ble_eq_true rfl)).trans (b200_0 q_X0 (q_sem d) 999 h x1)
-- WhirlShaftsModel.passes([I)V with (67, 68)
set_option maxRecDepth 20000 in
theorem m201 (d : Nat) (h : q_S)  : q_sem (d + 1) 201 h [.ref 67, .ref 68] =
  q_go e_201 q_X0 (q_sem d) 999 2 [(0, .ref 67), (1, .ref 68), (2, .int 0)] [] h := (q_sem_s (by decide) (Nat.le_of_ble_eq_true rfl)).trans (b201_0 q_X0 (q_sem d) 999 h )
-- WhirlShaftsModel.passes([I)V with (67, 69)
set_option maxRecDepth 20000 in
theorem m201_1 (d : Nat) (h : q_S)  : q_sem (d + 1) 201 h [.ref 67, .ref 69] =
  q_go e_201 q_X0 (q_sem d) 999 2 [(0, .ref 67), (1, .ref 69), (2, .int 0)] [] h := (q_sem_s (by decide) (Nat.le_of_ble_eq_true rfl)).trans (b201_0_1 q_X0 (q_sem d) 999 h )
-- WhirlShaftsModel.passes([I)V with (67, 70)
set_option maxRecDepth 20000 in
theorem m201_2 (d : Nat) (h : q_S)  : q_sem (d + 1) 201 h [.ref 67, .ref 70] =
  q_go e_201 q_X0 (q_sem d) 999 2 [(0, .ref 67), (1, .ref 70), (2, .int 0)] [] h := (q_sem_s (by decide) (Nat.le_of_ble_eq_true rfl)).trans (b201_0_2 q_X0 (q_sem d) 999 h )
-- WhirlShaftsModel.passes([I)V with (67, 71)
set_option maxRecDepth 20000 in
theorem m201_3 (d : Nat) (h : q_S)  : q_sem (d + 1) 201 h [.ref 67, .ref 71] =
  q_go e_201 q_X0 (q_sem d) 999 2 [(0, .ref 67), (1, .ref 71), (2, .int 0)] [] h := (q_sem_s (by decide) (Nat.le_of_ble_eq_true rfl)).trans (b201_0_3 q_X0 (q_sem d) 999 h )
-- WhirlShaftsModel.passes([I)V with (67, 72)
set_option maxRecDepth 20000 in
theorem m201_4 (d : Nat) (h : q_S)  : q_sem (d + 1) 201 h [.ref 67, .ref 72] =
  q_go e_201 q_X0 (q_sem d) 999 2 [(0, .ref 67), (1, .ref 72), (2, .int 0)] [] h := (q_sem_s (by decide) (Nat.le_of_ble_eq_true rfl)).trans (b201_0_4 q_X0 (q_sem d) 999 h )
-- WhirlShaftsModel.passes([I)V with (67, 89)
set_option maxRecDepth 20000 in
theorem m201_5 (d : Nat) (h : q_S)  : q_sem (d + 1) 201 h [.ref 67, .ref 89] =
  q_go e_201 q_X0 (q_sem d) 999 2 [(0, .ref 67), (1, .ref 89), (2, .int 0)] [] h := (q_sem_s (by decide) (Nat.le_of_ble_eq_true rfl)).trans (b201_0_5 q_X0 (q_sem d) 999 h )
-- WhirlShaftsModel.passes([I)V with (67, 90)
set_option maxRecDepth 20000 in
theorem m201_6 (d : Nat) (h : q_S)  : q_sem (d + 1) 201 h [.ref 67, .ref 90] =
  q_go e_201 q_X0 (q_sem d) 999 2 [(0, .ref 67), (1, .ref 90), (2, .int 0)] [] h := (q_sem_s (by decide) (Nat.le_of_ble_eq_true rfl)).trans (b201_0_6 q_X0 (q_sem d) 999 h )
-- WhirlShaftsModel.passes([I)V with (67, 91)
set_option maxRecDepth 20000 in
theorem m201_7 (d : Nat) (h : q_S)  : q_sem (d + 1) 201 h [.ref 67, .ref 91] =
  q_go e_201 q_X0 (q_sem d) 999 2 [(0, .ref 67), (1, .ref 91), (2, .int 0)] [] h := (q_sem_s (by decide) (Nat.le_of_ble_eq_true rfl)).trans (b201_0_7 q_X0 (q_sem d) 999 h )
-- WhirlShaftsModel.passesAll(IZ)V with (67, None, None)
set_option maxRecDepth 20000 in
theorem m202 (d : Nat) (h : q_S) (x1 : Int32) (x2 : Int32) : q_sem (d + 1) 202 h [.ref 67, .int x1, .int x2] =
  if x2 = 0 ∨ x2 = 1 then
  q_c1 ((q_sem d) 200 (q_si (q_si h 67 44 (70 * x1)) 67 46 x2) [.ref 67, .int (h.1 67 0)]) (fun h1 v2 =>
  q_c1 ((q_sem d) 200 (q_si h1 67 0 v2) [.ref 67, .int (h1.1 67 1)]) (fun h3 v4 =>
  q_c1 ((q_sem d) 200 (q_si h3 67 1 v4) [.ref 67, .int (h3.1 67 2)]) (fun h5 v6 =>
  q_c1 ((q_sem d) 200 (q_si h5 67 2 v6) [.ref 67, .int (h5.1 67 26)]) (fun h7 v8 =>
  q_c0 ((q_sem d) 201 (q_si h7 67 26 v8) [.ref 67, .ref 68]) (fun h9 =>
  q_c0 ((q_sem d) 201 h9 [.ref 67, .ref 69]) (fun h10 =>
  q_c0 ((q_sem d) 201 h10 [.ref 67, .ref 70]) (fun h11 =>
  q_c0 ((q_sem d) 201 h11 [.ref 67, .ref 71]) (fun h12 =>
  q_c0 ((q_sem d) 201 h12 [.ref 67, .ref 72]) (fun h13 =>
  q_c0 ((q_sem d) 201 h13 [.ref 67, .ref 89]) (fun h14 =>
  q_c0 ((q_sem d) 201 h14 [.ref 67, .ref 90]) (fun h15 =>
  q_c0 ((q_sem d) 201 h15 [.ref 67, .ref 91]) (fun h16 =>
  some (h16, none)))))))))))))
  else none := (q_sem_s (by decide) (Nat.le_of_ble_eq_true rfl)).trans (b202_0 q_X0 (q_sem d) 999 h x1 x2)
-- WhirlShaftsModel.image()I with (67,)
set_option maxRecDepth 20000 in
theorem m203 (d : Nat) (h : q_S)  : q_sem (d + 1) 203 h [.ref 67] =
  q_c0 ((q_sem d) 202 h [.ref 67, .int 1, .int 1]) (fun h1 =>
  q_c0 ((q_sem d) 126 h1 [.ref 67]) (fun h2 =>
  q_go e_203 q_X0 (q_sem d) 999 20 [(0, .ref 67), (1, .int 0)] [] (q_si h2 67 45 (h2.1 67 0)))) := (q_sem_s (by decide) (Nat.le_of_ble_eq_true rfl)).trans (b203_0 q_X0 (q_sem d) 999 h )
-- WhirlShaftsModel.alike()I with (67,)
set_option maxRecDepth 20000 in
theorem m204 (d : Nat) (h : q_S)  : q_sem (d + 1) 204 h [.ref 67] =
  if (h.1 67 45) < 0 then
    some (h, some (.int (-5)))
  else
    q_c0 ((q_sem d) 126 h [.ref 67]) (fun h1 =>
    if (h1.1 67 45) = (h1.1 67 0) then
      q_go e_204 q_X0 (q_sem d) 999 33 [(0, .ref 67), (1, .int 1), (2, .int 0)] [] h1
    else
      q_go e_204 q_X0 (q_sem d) 999 33 [(0, .ref 67), (1, .int 0), (2, .int 0)] [] h1) := (q_sem_s (by decide) (Nat.le_of_ble_eq_true rfl)).trans (b204_0 q_X0 (q_sem d) 999 h )
-- WhirlShaftsModel.back()I with (67,)
set_option maxRecDepth 20000 in
theorem m205 (d : Nat) (h : q_S)  : q_sem (d + 1) 205 h [.ref 67] =
  if (h.1 67 45) < 0 then
    some (h, some (.int (-5)))
  else
    q_c0 ((q_sem d) 202 h [.ref 67, .int 1, .int 0]) (fun h1 =>
    q_c0 ((q_sem d) 134 h1 [.ref 67]) (fun h2 =>
    some (h2, some (.int (h2.1 67 0))))) := (q_sem_s (by decide) (Nat.le_of_ble_eq_true rfl)).trans (b205_0 q_X0 (q_sem d) 999 h )
-- WhirlShaftsModel.rowsThere()I with (67,)
set_option maxRecDepth 20000 in
theorem m206 (d : Nat) (h : q_S)  : q_sem (d + 1) 206 h [.ref 67] =
  q_go e_206 q_X0 (q_sem d) 999 4 [(0, .ref 67), (1, .int 0), (2, .int 0)] [] h := (q_sem_s (by decide) (Nat.le_of_ble_eq_true rfl)).trans (b206_0 q_X0 (q_sem d) 999 h )
-- WhirlShaftsModel.count(I)I with (67, None)
set_option maxRecDepth 20000 in
theorem m207 (d : Nat) (h : q_S) (x1 : Int32) : q_sem (d + 1) 207 h [.ref 67, .int x1] =
  if x1 = 0 then
    some (h, some (.int (h.1 67 0)))
  else if x1 = 1 then
    some (h, some (.int (h.1 67 1)))
  else if x1 = 2 then
    some (h, some (.int (h.1 67 2)))
  else if x1 = 3 then
    q_c1 ((q_sem d) 127 h [.ref 67]) (fun h1 v2 =>
    some (h1, some (.int v2)))
  else if x1 = 4 then
    some (h, some (.int (h.1 67 26)))
  else if x1 = 5 then
    some (h, some (.int (h.1 67 20)))
  else if x1 = 6 then
    some (h, some (.int (h.1 67 21)))
  else if x1 = 7 then
    some (h, some (.int (h.1 67 35)))
  else if x1 = 8 then
    q_c1 ((q_sem d) 206 h [.ref 67]) (fun h3 v4 =>
    some (h3, some (.int v4)))
  else 
    some (h, some (.int (-1))) := (q_sem_s (by decide) (Nat.le_of_ble_eq_true rfl)).trans (b207_0 q_X0 (q_sem d) 999 h x1)
-- java/lang/Math.max(II)I with (None, None)
set_option maxRecDepth 20000 in
theorem m208 (d : Nat) (h : q_S) (x0 : Int32) (x1 : Int32) : q_sem (d + 1) 208 h [.int x0, .int x1] =
  if x0 < x1 then
    some (h, some (.int x1))
  else
    some (h, some (.int x0)) := (q_sem_s (by decide) (Nat.le_of_ble_eq_true rfl)).trans (b208_0 q_X0 (q_sem d) 999 h x0 x1)
-- java/lang/Math.floorMod(JJ)J with (None, None)
set_option maxRecDepth 20000 in
theorem m209 (d : Nat) (h : q_S) (x0 : Int64) (x1 : Int64) : q_sem (d + 1) 209 h [.long x0, .long x1] =
  if x1 = 0 then none else
  if (lg_cmp (x0 ^^^ x1) (Int64.ofNat 0)) < 0 then
    if (lg_cmp (x0 - x0 / x1 * x1) (Int64.ofNat 0)) = 0 then
      some (h, some (.long (x0 - x0 / x1 * x1)))
    else
      some (h, some (.long ((x0 - x0 / x1 * x1) + x1)))
  else
    some (h, some (.long (x0 - x0 / x1 * x1))) := (q_sem_s (by decide) (Nat.le_of_ble_eq_true rfl)).trans (b209_0 q_X0 (q_sem d) 999 h x0 x1)
-- java/lang/Math.max(JJ)J with (None, None)
set_option maxRecDepth 20000 in
theorem m210 (d : Nat) (h : q_S) (x0 : Int64) (x1 : Int64) : q_sem (d + 1) 210 h [.long x0, .long x1] =
  if (lg_cmp x0 x1) < 0 then
    some (h, some (.long x1))
  else
    some (h, some (.long x0)) := (q_sem_s (by decide) (Nat.le_of_ble_eq_true rfl)).trans (b210_0 q_X0 (q_sem d) 999 h x0 x1)
