-- WhirlShafts$Changes.forget()V with (38,)
set_option maxRecDepth 20000 in
theorem b0_0 (X : q_X) (O : q_O) (n : Nat) (h : q_S)  : q_go e_0 X O (n + 1) 0 [(0, .ref 38)] [] h =
  some ((q_si (q_si h 38 4 0) 38 5 0), none) := by rfl
-- WhirlShafts$Changes.add(IIII)V with (38, None, None, None, None)
set_option maxRecDepth 20000 in
theorem b1_0 (X : q_X) (O : q_O) (n : Nat) (h : q_S) (x1 : Int32) (x2 : Int32) (x3 : Int32) (x4 : Int32) : q_go e_1 X O (n + 1) 0 [(0, .ref 38), (1, .int x1), (2, .int x2), (3, .int x3), (4, .int x4)] [] h =
  if (h.1 38 4) < 12 then
    q_go e_1 X O n 18 [(0, .ref 38), (1, .int x1), (2, .int x2), (3, .int x3), (4, .int x4)] [] (q_si h 38 5 0)
  else
    q_c0 (O 2 (q_si h 38 5 0) [.ref 38]) (fun h1 =>
    q_go e_1 X O n 18 [(0, .ref 38), (1, .int x1), (2, .int x2), (3, .int x3), (4, .int x4)] [] h1) := by rfl
set_option maxRecDepth 20000 in
theorem b1_18 (X : q_X) (O : q_O) (n : Nat) (h : q_S) (x1 : Int32) (x2 : Int32) (x3 : Int32) (x4 : Int32) : q_go e_1 X O (n + 1) 18 [(0, .ref 38), (1, .int x1), (2, .int x2), (3, .int x3), (4, .int x4)] [] h =
  q_ix (h.1 38 4) 12 (fun j1 =>
  q_ix (h.1 38 4) 12 (fun j2 =>
  q_ix (h.1 38 4) 12 (fun j3 =>
  q_ix (h.1 38 4) 12 (fun j4 =>
  some ((q_si (q_si (q_si (q_si (q_si h 39 j1 x1) 40 j2 x2) 41 j3 x3) 42 j4 x4) 38 4 ((h.1 38 4) + 1)), none))))) := by rfl
-- WhirlShafts$Changes.forgetEldest()V with (38,)
set_option maxRecDepth 20000 in
theorem b2_0 (X : q_X) (O : q_O) (n : Nat) (h : q_S)  : q_go e_2 X O (n + 1) 0 [(0, .ref 38)] [] h =
  q_arc (q_si h 38 4 11) 39 1 39 0 11 (fun h1 =>
  q_arc h1 40 1 40 0 (h1.1 38 4) (fun h2 =>
  q_arc h2 41 1 41 0 (h2.1 38 4) (fun h3 =>
  q_arc h3 42 1 42 0 (h3.1 38 4) (fun h4 =>
  some (h4, none))))) := by rfl
-- WhirlShafts$Changes.stepBack(LWhirlShafts$Line;)I with (38, 12)
set_option maxRecDepth 20000 in
theorem b3_0 (X : q_X) (O : q_O) (n : Nat) (h : q_S)  : q_go e_3 X O (n + 1) 0 [(0, .ref 38), (1, .ref 12)] [] h =
  q_ix ((h.1 38 4) - 1) 12 (fun j1 =>
  q_ix ((h.1 38 4) - 1) 12 (fun j2 =>
  q_ix ((h.1 38 4) - 1) 12 (fun j3 =>
  q_c0 (O 24 (q_si (q_si h 38 4 ((h.1 38 4) - 1)) 38 5 ((h.1 38 5) + 1)) [.ref 12, .int (h.1 39 j1), .int (h.1 40 j2), .int (h.1 41 j3)]) (fun h4 =>
  some (h4, some (.int (h4.1 38 4))))))) := by rfl
-- WhirlShafts$Changes.stepOn(LWhirlShafts$Line;)I with (38, 12)
set_option maxRecDepth 20000 in
theorem b4_0 (X : q_X) (O : q_O) (n : Nat) (h : q_S)  : q_go e_4 X O (n + 1) 0 [(0, .ref 38), (1, .ref 12)] [] h =
  q_ix (h.1 38 4) 12 (fun j1 =>
  q_ix (h.1 38 4) 12 (fun j2 =>
  q_ix (h.1 38 4) 12 (fun j3 =>
  q_c0 (O 24 h [.ref 12, .int (h.1 39 j1), .int (h.1 40 j2), .int (h.1 42 j3)]) (fun h4 =>
  some ((q_si (q_si h4 38 4 ((h4.1 38 4) + 1)) 38 5 ((h4.1 38 5) - 1)), some (.int ((h4.1 38 5) - 1))))))) := by rfl
-- WhirlShafts$Crown.weighs(II)I with (5, None, None)
set_option maxRecDepth 20000 in
theorem b5_0 (X : q_X) (O : q_O) (n : Nat) (h : q_S) (x1 : Int32) (x2 : Int32) : q_go e_5 X O (n + 1) 0 [(0, .ref 5), (1, .int x1), (2, .int x2)] [] h =
  q_c1 (O 46 h [.ref 5, .int x1, .int x2]) (fun h1 v2 =>
  some (h1, some (.int (v2 + 3)))) := by rfl
-- WhirlShafts$Crown.tells(I)I with (5, None)
set_option maxRecDepth 20000 in
theorem b6_0 (X : q_X) (O : q_O) (n : Nat) (h : q_S) (x1 : Int32) : q_go e_6 X O (n + 1) 0 [(0, .ref 5), (1, .int x1)] [] h =
  q_c0 (O 9 h [.ref 5, .int 40]) (fun h1 =>
  q_c1 (O 13 h1 [.ref 5, .int (x1 + 1)]) (fun h2 v3 =>
  some (h2, some (.int v3)))) := by rfl
-- WhirlShafts$Crown.spins(I)I with (5, None)
set_option maxRecDepth 20000 in
theorem b7_0 (X : q_X) (O : q_O) (n : Nat) (h : q_S) (x1 : Int32) : q_go e_7 X O (n + 1) 0 [(0, .ref 5), (1, .int x1)] [] h =
  q_c0 (O 9 h [.ref 5, .int 41]) (fun h1 =>
  q_c1 (O 11 h1 [.ref 5, .int x1]) (fun h2 v3 =>
  some (h2, some (.int (v3 * 3))))) := by rfl
-- WhirlShafts$Disc.begin(II)V with (2, None, None)
set_option maxRecDepth 20000 in
theorem b8_0 (X : q_X) (O : q_O) (n : Nat) (h : q_S) (x1 : Int32) (x2 : Int32) : q_go e_8 X O (n + 1) 0 [(0, .ref 2), (1, .int x1), (2, .int x2)] [] h =
  some ((q_si (q_si (q_si h 2 1 0) 2 2 x1) 2 3 x2), none) := by rfl
-- WhirlShafts$Disc.begin(II)V with (3, None, None)
set_option maxRecDepth 20000 in
theorem b8_0_1 (X : q_X) (O : q_O) (n : Nat) (h : q_S) (x1 : Int32) (x2 : Int32) : q_go e_8 X O (n + 1) 0 [(0, .ref 3), (1, .int x1), (2, .int x2)] [] h =
  some ((q_si (q_si (q_si h 3 1 0) 3 2 x1) 3 3 x2), none) := by rfl
-- WhirlShafts$Disc.begin(II)V with (4, None, None)
set_option maxRecDepth 20000 in
theorem b8_0_2 (X : q_X) (O : q_O) (n : Nat) (h : q_S) (x1 : Int32) (x2 : Int32) : q_go e_8 X O (n + 1) 0 [(0, .ref 4), (1, .int x1), (2, .int x2)] [] h =
  some ((q_si (q_si (q_si h 4 1 0) 4 2 x1) 4 3 x2), none) := by rfl
-- WhirlShafts$Disc.begin(II)V with (5, None, None)
set_option maxRecDepth 20000 in
theorem b8_0_3 (X : q_X) (O : q_O) (n : Nat) (h : q_S) (x1 : Int32) (x2 : Int32) : q_go e_8 X O (n + 1) 0 [(0, .ref 5), (1, .int x1), (2, .int x2)] [] h =
  some ((q_si (q_si (q_si h 5 1 0) 5 2 x1) 5 3 x2), none) := by rfl
-- WhirlShafts$Disc.begin(II)V with (6, None, None)
set_option maxRecDepth 20000 in
theorem b8_0_4 (X : q_X) (O : q_O) (n : Nat) (h : q_S) (x1 : Int32) (x2 : Int32) : q_go e_8 X O (n + 1) 0 [(0, .ref 6), (1, .int x1), (2, .int x2)] [] h =
  some ((q_si (q_si (q_si h 6 1 0) 6 2 x1) 6 3 x2), none) := by rfl
-- WhirlShafts$Disc.note(I)V with (2, None)
set_option maxRecDepth 20000 in
theorem b9_0 (X : q_X) (O : q_O) (n : Nat) (h : q_S) (x1 : Int32) : q_go e_9 X O (n + 1) 0 [(0, .ref 2), (1, .int x1)] [] h =
  if (h.1 2 1) < 24 then
    q_ix (h.1 2 1) 24 (fun j1 =>
    some ((q_si (q_si h 7 j1 x1) 2 1 ((h.1 2 1) + 1)), none))
  else
    some (h, none) := by rfl
-- WhirlShafts$Disc.note(I)V with (3, None)
set_option maxRecDepth 20000 in
theorem b9_0_1 (X : q_X) (O : q_O) (n : Nat) (h : q_S) (x1 : Int32) : q_go e_9 X O (n + 1) 0 [(0, .ref 3), (1, .int x1)] [] h =
  if (h.1 3 1) < 24 then
    q_ix (h.1 3 1) 24 (fun j1 =>
    some ((q_si (q_si h 8 j1 x1) 3 1 ((h.1 3 1) + 1)), none))
  else
    some (h, none) := by rfl
-- WhirlShafts$Disc.note(I)V with (4, None)
set_option maxRecDepth 20000 in
theorem b9_0_2 (X : q_X) (O : q_O) (n : Nat) (h : q_S) (x1 : Int32) : q_go e_9 X O (n + 1) 0 [(0, .ref 4), (1, .int x1)] [] h =
  if (h.1 4 1) < 24 then
    q_ix (h.1 4 1) 24 (fun j1 =>
    some ((q_si (q_si h 9 j1 x1) 4 1 ((h.1 4 1) + 1)), none))
  else
    some (h, none) := by rfl
-- WhirlShafts$Disc.note(I)V with (5, None)
set_option maxRecDepth 20000 in
theorem b9_0_3 (X : q_X) (O : q_O) (n : Nat) (h : q_S) (x1 : Int32) : q_go e_9 X O (n + 1) 0 [(0, .ref 5), (1, .int x1)] [] h =
  if (h.1 5 1) < 24 then
    q_ix (h.1 5 1) 24 (fun j1 =>
    some ((q_si (q_si h 10 j1 x1) 5 1 ((h.1 5 1) + 1)), none))
  else
    some (h, none) := by rfl
-- WhirlShafts$Disc.note(I)V with (6, None)
set_option maxRecDepth 20000 in
theorem b9_0_4 (X : q_X) (O : q_O) (n : Nat) (h : q_S) (x1 : Int32) : q_go e_9 X O (n + 1) 0 [(0, .ref 6), (1, .int x1)] [] h =
  if (h.1 6 1) < 24 then
    q_ix (h.1 6 1) 24 (fun j1 =>
    some ((q_si (q_si h 11 j1 x1) 6 1 ((h.1 6 1) + 1)), none))
  else
    some (h, none) := by rfl
-- WhirlShafts$Disc.weighs(II)I with (2, None, None)
set_option maxRecDepth 20000 in
theorem b10_0 (X : q_X) (O : q_O) (n : Nat) (h : q_S) (x1 : Int32) (x2 : Int32) : q_go e_10 X O (n + 1) 0 [(0, .ref 2), (1, .int x1), (2, .int x2)] [] h =
  some (h, some (.int x1)) := by rfl
-- WhirlShafts$Disc.spins(I)I with (2, None)
set_option maxRecDepth 20000 in
theorem b11_0 (X : q_X) (O : q_O) (n : Nat) (h : q_S) (x1 : Int32) : q_go e_11 X O (n + 1) 0 [(0, .ref 2), (1, .int x1)] [] h =
  q_c0 (O 9 h [.ref 2, .int 10]) (fun h1 =>
  some (h1, some (.int (x1 + (h1.1 2 2))))) := by rfl
-- WhirlShafts$Disc.spins(I)I with (3, None)
set_option maxRecDepth 20000 in
theorem b11_0_1 (X : q_X) (O : q_O) (n : Nat) (h : q_S) (x1 : Int32) : q_go e_11 X O (n + 1) 0 [(0, .ref 3), (1, .int x1)] [] h =
  q_c0 (O 9 h [.ref 3, .int 10]) (fun h1 =>
  some (h1, some (.int (x1 + (h1.1 3 2))))) := by rfl
-- WhirlShafts$Disc.spins(I)I with (4, None)
set_option maxRecDepth 20000 in
theorem b11_0_2 (X : q_X) (O : q_O) (n : Nat) (h : q_S) (x1 : Int32) : q_go e_11 X O (n + 1) 0 [(0, .ref 4), (1, .int x1)] [] h =
  q_c0 (O 9 h [.ref 4, .int 10]) (fun h1 =>
  some (h1, some (.int (x1 + (h1.1 4 2))))) := by rfl
-- WhirlShafts$Disc.spins(I)I with (5, None)
set_option maxRecDepth 20000 in
theorem b11_0_3 (X : q_X) (O : q_O) (n : Nat) (h : q_S) (x1 : Int32) : q_go e_11 X O (n + 1) 0 [(0, .ref 5), (1, .int x1)] [] h =
  q_c0 (O 9 h [.ref 5, .int 10]) (fun h1 =>
  some (h1, some (.int (x1 + (h1.1 5 2))))) := by rfl
-- WhirlShafts$Disc.spins(I)I with (6, None)
set_option maxRecDepth 20000 in
theorem b11_0_4 (X : q_X) (O : q_O) (n : Nat) (h : q_S) (x1 : Int32) : q_go e_11 X O (n + 1) 0 [(0, .ref 6), (1, .int x1)] [] h =
  q_c0 (O 9 h [.ref 6, .int 10]) (fun h1 =>
  some (h1, some (.int (x1 + (h1.1 6 2))))) := by rfl
-- WhirlShafts$Disc.swings(I)I with (2, None)
set_option maxRecDepth 20000 in
theorem b12_0 (X : q_X) (O : q_O) (n : Nat) (h : q_S) (x1 : Int32) : q_go e_12 X O (n + 1) 0 [(0, .ref 2), (1, .int x1)] [] h =
  q_c0 (O 9 h [.ref 2, .int 11]) (fun h1 =>
  q_c1 (O 11 h1 [.ref 2, .int x1]) (fun h2 v3 =>
  some (h2, some (.int (v3 * 2))))) := by rfl
-- WhirlShafts$Disc.swings(I)I with (3, None)
set_option maxRecDepth 20000 in
theorem b12_0_1 (X : q_X) (O : q_O) (n : Nat) (h : q_S) (x1 : Int32) : q_go e_12 X O (n + 1) 0 [(0, .ref 3), (1, .int x1)] [] h =
  q_c0 (O 9 h [.ref 3, .int 11]) (fun h1 =>
  q_c1 (O 11 h1 [.ref 3, .int x1]) (fun h2 v3 =>
  some (h2, some (.int (v3 * 2))))) := by rfl
-- WhirlShafts$Disc.swings(I)I with (4, None)
set_option maxRecDepth 20000 in
theorem b12_0_2 (X : q_X) (O : q_O) (n : Nat) (h : q_S) (x1 : Int32) : q_go e_12 X O (n + 1) 0 [(0, .ref 4), (1, .int x1)] [] h =
  q_c0 (O 9 h [.ref 4, .int 11]) (fun h1 =>
  q_c1 (O 15 h1 [.ref 4, .int x1]) (fun h2 v3 =>
  some (h2, some (.int (v3 * 2))))) := by rfl
-- WhirlShafts$Disc.swings(I)I with (5, None)
set_option maxRecDepth 20000 in
theorem b12_0_3 (X : q_X) (O : q_O) (n : Nat) (h : q_S) (x1 : Int32) : q_go e_12 X O (n + 1) 0 [(0, .ref 5), (1, .int x1)] [] h =
  q_c0 (O 9 h [.ref 5, .int 11]) (fun h1 =>
  q_c1 (O 7 h1 [.ref 5, .int x1]) (fun h2 v3 =>
  some (h2, some (.int (v3 * 2))))) := by rfl
-- WhirlShafts$Disc.swings(I)I with (6, None)
set_option maxRecDepth 20000 in
theorem b12_0_4 (X : q_X) (O : q_O) (n : Nat) (h : q_S) (x1 : Int32) : q_go e_12 X O (n + 1) 0 [(0, .ref 6), (1, .int x1)] [] h =
  q_c0 (O 9 h [.ref 6, .int 11]) (fun h1 =>
  q_c1 (O 15 h1 [.ref 6, .int x1]) (fun h2 v3 =>
  some (h2, some (.int (v3 * 2))))) := by rfl
-- WhirlShafts$Disc.tells(I)I with (2, None)
set_option maxRecDepth 20000 in
theorem b13_0 (X : q_X) (O : q_O) (n : Nat) (h : q_S) (x1 : Int32) : q_go e_13 X O (n + 1) 0 [(0, .ref 2), (1, .int x1)] [] h =
  q_c0 (O 9 h [.ref 2, .int 12]) (fun h1 =>
  q_c1 (O 12 h1 [.ref 2, .int x1]) (fun h2 v3 =>
  some (h2, some (.int (v3 - (h2.1 2 3)))))) := by rfl
-- WhirlShafts$Disc.tells(I)I with (3, None)
set_option maxRecDepth 20000 in
theorem b13_0_1 (X : q_X) (O : q_O) (n : Nat) (h : q_S) (x1 : Int32) : q_go e_13 X O (n + 1) 0 [(0, .ref 3), (1, .int x1)] [] h =
  q_c0 (O 9 h [.ref 3, .int 12]) (fun h1 =>
  q_c1 (O 47 h1 [.ref 3, .int x1]) (fun h2 v3 =>
  some (h2, some (.int (v3 - (h2.1 3 3)))))) := by rfl
-- WhirlShafts$Disc.tells(I)I with (4, None)
set_option maxRecDepth 20000 in
theorem b13_0_2 (X : q_X) (O : q_O) (n : Nat) (h : q_S) (x1 : Int32) : q_go e_13 X O (n + 1) 0 [(0, .ref 4), (1, .int x1)] [] h =
  q_c0 (O 9 h [.ref 4, .int 12]) (fun h1 =>
  q_c1 (O 12 h1 [.ref 4, .int x1]) (fun h2 v3 =>
  some (h2, some (.int (v3 - (h2.1 4 3)))))) := by rfl
-- WhirlShafts$Disc.tells(I)I with (5, None)
set_option maxRecDepth 20000 in
theorem b13_0_3 (X : q_X) (O : q_O) (n : Nat) (h : q_S) (x1 : Int32) : q_go e_13 X O (n + 1) 0 [(0, .ref 5), (1, .int x1)] [] h =
  q_c0 (O 9 h [.ref 5, .int 12]) (fun h1 =>
  q_c1 (O 47 h1 [.ref 5, .int x1]) (fun h2 v3 =>
  some (h2, some (.int (v3 - (h2.1 5 3)))))) := by rfl
-- WhirlShafts$Disc.tells(I)I with (6, None)
set_option maxRecDepth 20000 in
theorem b13_0_4 (X : q_X) (O : q_O) (n : Nat) (h : q_S) (x1 : Int32) : q_go e_13 X O (n + 1) 0 [(0, .ref 6), (1, .int x1)] [] h =
  q_c0 (O 9 h [.ref 6, .int 12]) (fun h1 =>
  q_c1 (O 54 h1 [.ref 6, .int x1]) (fun h2 v3 =>
  some (h2, some (.int (v3 - (h2.1 6 3)))))) := by rfl
-- WhirlShafts$Hub.weighs(II)I with (4, None, None)
set_option maxRecDepth 20000 in
theorem b14_0 (X : q_X) (O : q_O) (n : Nat) (h : q_S) (x1 : Int32) (x2 : Int32) : q_go e_14 X O (n + 1) 0 [(0, .ref 4), (1, .int x1), (2, .int x2)] [] h =
  if 2 = 0 then none else
  some (h, some (.int ((x1 + 1) / 2))) := by rfl
-- WhirlShafts$Hub.weighs(II)I with (6, None, None)
set_option maxRecDepth 20000 in
theorem b14_0_1 (X : q_X) (O : q_O) (n : Nat) (h : q_S) (x1 : Int32) (x2 : Int32) : q_go e_14 X O (n + 1) 0 [(0, .ref 6), (1, .int x1), (2, .int x2)] [] h =
  if 2 = 0 then none else
  some (h, some (.int ((x1 + 1) / 2))) := by rfl
-- WhirlShafts$Hub.spins(I)I with (4, None)
set_option maxRecDepth 20000 in
theorem b15_0 (X : q_X) (O : q_O) (n : Nat) (h : q_S) (x1 : Int32) : q_go e_15 X O (n + 1) 0 [(0, .ref 4), (1, .int x1)] [] h =
  q_c0 (O 9 h [.ref 4, .int 30]) (fun h1 =>
  q_c1 (O 11 h1 [.ref 4, .int x1]) (fun h2 v3 =>
  some (h2, some (.int (-v3))))) := by rfl
-- WhirlShafts$Hub.spins(I)I with (6, None)
set_option maxRecDepth 20000 in
theorem b15_0_1 (X : q_X) (O : q_O) (n : Nat) (h : q_S) (x1 : Int32) : q_go e_15 X O (n + 1) 0 [(0, .ref 6), (1, .int x1)] [] h =
  q_c0 (O 9 h [.ref 6, .int 30]) (fun h1 =>
  q_c1 (O 11 h1 [.ref 6, .int x1]) (fun h2 v3 =>
  some (h2, some (.int (-v3))))) := by rfl
-- WhirlShafts$Line.takeFrom(LWhirlShafts$Line;)V with (12, 24)
set_option maxRecDepth 20000 in
theorem b16_0 (X : q_X) (O : q_O) (n : Nat) (h : q_S)  : q_go e_16 X O (n + 1) 0 [(0, .ref 12), (1, .ref 24)] [] h =
  q_arc (q_si (q_si (q_si h 12 6 (h.1 24 6)) 12 7 (h.1 24 7)) 12 8 (h.1 24 8)) 25 0 13 0 8 (fun h1 =>
  q_arc h1 26 0 14 0 8 (fun h2 =>
  q_arc h2 27 0 15 0 8 (fun h3 =>
  q_arc h3 28 0 16 0 8 (fun h4 =>
  q_arc h4 29 0 17 0 8 (fun h5 =>
  some (h5, none)))))) := by rfl
-- WhirlShafts$Line.takeFrom(LWhirlShafts$Line;)V with (18, 12)
set_option maxRecDepth 20000 in
theorem b16_0_1 (X : q_X) (O : q_O) (n : Nat) (h : q_S)  : q_go e_16 X O (n + 1) 0 [(0, .ref 18), (1, .ref 12)] [] h =
  q_arc (q_si (q_si (q_si h 18 6 (h.1 12 6)) 18 7 (h.1 12 7)) 18 8 (h.1 12 8)) 13 0 19 0 8 (fun h1 =>
  q_arc h1 14 0 20 0 8 (fun h2 =>
  q_arc h2 15 0 21 0 8 (fun h3 =>
  q_arc h3 16 0 22 0 8 (fun h4 =>
  q_arc h4 17 0 23 0 8 (fun h5 =>
  some (h5, none)))))) := by rfl
-- WhirlShafts$Line.takeFrom(LWhirlShafts$Line;)V with (24, 12)
set_option maxRecDepth 20000 in
theorem b16_0_2 (X : q_X) (O : q_O) (n : Nat) (h : q_S)  : q_go e_16 X O (n + 1) 0 [(0, .ref 24), (1, .ref 12)] [] h =
  q_arc (q_si (q_si (q_si h 24 6 (h.1 12 6)) 24 7 (h.1 12 7)) 24 8 (h.1 12 8)) 13 0 25 0 8 (fun h1 =>
  q_arc h1 14 0 26 0 8 (fun h2 =>
  q_arc h2 15 0 27 0 8 (fun h3 =>
  q_arc h3 16 0 28 0 8 (fun h4 =>
  q_arc h4 17 0 29 0 8 (fun h5 =>
  some (h5, none)))))) := by rfl
-- WhirlShafts$Line.join(III)I with (12, None, None, None)
set_option maxRecDepth 20000 in
theorem b17_0 (X : q_X) (O : q_O) (n : Nat) (h : q_S) (x1 : Int32) (x2 : Int32) (x3 : Int32) : q_go e_17 X O (n + 1) 0 [(0, .ref 12), (1, .int x1), (2, .int x2), (3, .int x3)] [] h =
  q_ix (h.1 12 6) 8 (fun j1 =>
  q_ix (h.1 12 6) 8 (fun j2 =>
  q_ix (h.1 12 6) 8 (fun j3 =>
  if 0 < (h.1 12 6) then
    q_ix ((h.1 12 6) - 1) 8 (fun j4 =>
    q_ix ((h.1 12 6) - 1) 8 (fun j5 =>
    q_go e_17 X O n 61 [(0, .ref 12)] [] (q_si (q_si (q_si (q_si (q_si h 13 j1 x1) 14 j2 x2) 15 j3 0) 16 j4 x3) 17 j5 1)))
  else
    q_go e_17 X O n 61 [(0, .ref 12)] [] (q_si (q_si (q_si h 13 j1 x1) 14 j2 x2) 15 j3 0)))) := by rfl
set_option maxRecDepth 20000 in
theorem b17_61 (X : q_X) (O : q_O) (n : Nat) (h : q_S)  : q_go e_17 X O (n + 1) 61 [(0, .ref 12)] [] h =
  some ((q_si h 12 6 ((h.1 12 6) + 1)), some (.int (((h.1 12 6) + 1) - 1))) := by rfl
-- WhirlShafts$Line.swap(I)V with (18, None)
set_option maxRecDepth 20000 in
theorem b18_0 (X : q_X) (O : q_O) (n : Nat) (h : q_S) (x1 : Int32) : q_go e_18 X O (n + 1) 0 [(0, .ref 18), (1, .int x1)] [] h =
  q_ix x1 8 (fun j1 =>
  q_ix x1 8 (fun j2 =>
  q_ix (x1 + 1) 8 (fun j3 =>
  q_ix x1 8 (fun j4 =>
  q_ix (x1 + 1) 8 (fun j5 =>
  q_ix x1 8 (fun j6 =>
  q_ix (x1 + 1) 8 (fun j7 =>
  q_ix (x1 + 1) 8 (fun j8 =>
  some ((q_si (q_si (q_si (q_si h 19 j4 (h.1 19 j3)) 20 j6 (h.1 20 j5)) 19 j7 (h.1 19 j1)) 20 j8 (h.1 20 j2)), none))))))))) := by rfl
-- WhirlShafts$Line.hasDisc(I)Z with (12, None)
set_option maxRecDepth 20000 in
theorem b19_0 (X : q_X) (O : q_O) (n : Nat) (h : q_S) (x1 : Int32) : q_go e_19 X O (n + 1) 0 [(0, .ref 12), (1, .int x1)] [] h =
  if x1 < 0 then
    some (h, some (.int 0))
  else
    if x1 < (h.1 12 6) then
      some (h, some (.int 1))
    else
      some (h, some (.int 0)) := by rfl
-- WhirlShafts$Line.hasDisc(I)Z with (18, None)
set_option maxRecDepth 20000 in
theorem b19_0_1 (X : q_X) (O : q_O) (n : Nat) (h : q_S) (x1 : Int32) : q_go e_19 X O (n + 1) 0 [(0, .ref 18), (1, .int x1)] [] h =
  if x1 < 0 then
    some (h, some (.int 0))
  else
    if x1 < (h.1 18 6) then
      some (h, some (.int 1))
    else
      some (h, some (.int 0)) := by rfl
-- WhirlShafts$Line.hasShaft(I)Z with (12, None)
set_option maxRecDepth 20000 in
theorem b20_0 (X : q_X) (O : q_O) (n : Nat) (h : q_S) (x1 : Int32) : q_go e_20 X O (n + 1) 0 [(0, .ref 12), (1, .int x1)] [] h =
  if x1 < 0 then
    some (h, some (.int 0))
  else
    if x1 < ((h.1 12 6) - 1) then
      some (h, some (.int 1))
    else
      some (h, some (.int 0)) := by rfl
-- WhirlShafts$Line.hasShaft(I)Z with (18, None)
set_option maxRecDepth 20000 in
theorem b20_0_1 (X : q_X) (O : q_O) (n : Nat) (h : q_S) (x1 : Int32) : q_go e_20 X O (n + 1) 0 [(0, .ref 18), (1, .int x1)] [] h =
  if x1 < 0 then
    some (h, some (.int 0))
  else
    if x1 < ((h.1 18 6) - 1) then
      some (h, some (.int 1))
    else
      some (h, some (.int 0)) := by rfl
-- WhirlShafts$Line.hasPlace(II)Z with (12, None, None)
set_option maxRecDepth 20000 in
theorem b21_0 (X : q_X) (O : q_O) (n : Nat) (h : q_S) (x1 : Int32) (x2 : Int32) : q_go e_21 X O (n + 1) 0 [(0, .ref 12), (1, .int x1), (2, .int x2)] [] h =
  if x1 = 0 then
    q_c1 (O 19 h [.ref 12, .int x2]) (fun h1 v2 =>
    if v2 = 0 ∨ v2 = 1 then some (h1, some (.int v2)) else none)
  else if x1 = 1 then
    q_c1 (O 20 h [.ref 12, .int x2]) (fun h3 v4 =>
    if v4 = 0 ∨ v4 = 1 then some (h3, some (.int v4)) else none)
  else if x1 = 2 then
    q_c1 (O 19 h [.ref 12, .int x2]) (fun h5 v6 =>
    if v6 = 0 ∨ v6 = 1 then some (h5, some (.int v6)) else none)
  else if x1 = 3 then
    q_c1 (O 20 h [.ref 12, .int x2]) (fun h7 v8 =>
    if v8 = 0 ∨ v8 = 1 then some (h7, some (.int v8)) else none)
  else if x1 = 4 then
    some (h, some (.int 1))
  else if x1 = 5 then
    some (h, some (.int 1))
  else 
    some (h, some (.int 0)) := by rfl
-- WhirlShafts$Line.hasPlace(II)Z with (18, None, None)
set_option maxRecDepth 20000 in
theorem b21_0_1 (X : q_X) (O : q_O) (n : Nat) (h : q_S) (x1 : Int32) (x2 : Int32) : q_go e_21 X O (n + 1) 0 [(0, .ref 18), (1, .int x1), (2, .int x2)] [] h =
  if x1 = 0 then
    q_c1 (O 19 h [.ref 18, .int x2]) (fun h1 v2 =>
    if v2 = 0 ∨ v2 = 1 then some (h1, some (.int v2)) else none)
  else if x1 = 1 then
    q_c1 (O 20 h [.ref 18, .int x2]) (fun h3 v4 =>
    if v4 = 0 ∨ v4 = 1 then some (h3, some (.int v4)) else none)
  else if x1 = 2 then
    q_c1 (O 19 h [.ref 18, .int x2]) (fun h5 v6 =>
    if v6 = 0 ∨ v6 = 1 then some (h5, some (.int v6)) else none)
  else if x1 = 3 then
    q_c1 (O 20 h [.ref 18, .int x2]) (fun h7 v8 =>
    if v8 = 0 ∨ v8 = 1 then some (h7, some (.int v8)) else none)
  else if x1 = 4 then
    some (h, some (.int 1))
  else if x1 = 5 then
    some (h, some (.int 1))
  else 
    some (h, some (.int 0)) := by rfl
-- WhirlShafts$Line.refusal(III)I with (12, None, None, None)
set_option maxRecDepth 20000 in
theorem b22_0 (X : q_X) (O : q_O) (n : Nat) (h : q_S) (x1 : Int32) (x2 : Int32) (x3 : Int32) : q_go e_22 X O (n + 1) 0 [(0, .ref 12), (1, .int x1), (2, .int x2), (3, .int x3)] [] h =
  q_c1 (O 21 h [.ref 12, .int x1, .int x2]) (fun h1 v2 =>
  if v2 = 0 then
    some (h1, some (.int (-1)))
  else
    q_c1 (O 105 h1 [.int x1, .int x3]) (fun h3 v4 =>
    if v4 = 0 then
      some (h3, some (.int (-1)))
    else
      if x1 = 3 then
        q_c1 (O 26 h3 [.ref 12, .int x2]) (fun h5 v6 =>
        if 6 < (v6 * x3) then
          some (h5, some (.int (-5)))
        else
          some (h5, some (.int 0)))
      else
        some (h3, some (.int 0)))) := by rfl
-- WhirlShafts$Line.refusal(III)I with (18, None, None, None)
set_option maxRecDepth 20000 in
theorem b22_0_1 (X : q_X) (O : q_O) (n : Nat) (h : q_S) (x1 : Int32) (x2 : Int32) (x3 : Int32) : q_go e_22 X O (n + 1) 0 [(0, .ref 18), (1, .int x1), (2, .int x2), (3, .int x3)] [] h =
  q_c1 (O 21 h [.ref 18, .int x1, .int x2]) (fun h1 v2 =>
  if v2 = 0 then
    some (h1, some (.int (-1)))
  else
    q_c1 (O 105 h1 [.int x1, .int x3]) (fun h3 v4 =>
    if v4 = 0 then
      some (h3, some (.int (-1)))
    else
      if x1 = 3 then
        q_c1 (O 26 h3 [.ref 18, .int x2]) (fun h5 v6 =>
        if 6 < (v6 * x3) then
          some (h5, some (.int (-5)))
        else
          some (h5, some (.int 0)))
      else
        some (h3, some (.int 0)))) := by rfl
-- WhirlShafts$Line.told(II)I with (12, None, None)
set_option maxRecDepth 20000 in
theorem b23_0 (X : q_X) (O : q_O) (n : Nat) (h : q_S) (x1 : Int32) (x2 : Int32) : q_go e_23 X O (n + 1) 0 [(0, .ref 12), (1, .int x1), (2, .int x2)] [] h =
  if x1 = 0 then
    q_ix x2 8 (fun j1 =>
    some (h, some (.int (h.1 14 j1))))
  else if x1 = 1 then
    q_ix x2 8 (fun j2 =>
    some (h, some (.int (h.1 16 j2))))
  else if x1 = 2 then
    q_ix x2 8 (fun j3 =>
    some (h, some (.int (h.1 15 j3))))
  else if x1 = 3 then
    q_ix x2 8 (fun j4 =>
    some (h, some (.int (h.1 17 j4))))
  else if x1 = 4 then
    some (h, some (.int (h.1 12 7)))
  else 
    some (h, some (.int (h.1 12 8))) := by rfl
-- WhirlShafts$Line.tell(III)V with (12, None, None, None)
set_option maxRecDepth 20000 in
theorem b24_0 (X : q_X) (O : q_O) (n : Nat) (h : q_S) (x1 : Int32) (x2 : Int32) (x3 : Int32) : q_go e_24 X O (n + 1) 0 [(0, .ref 12), (1, .int x1), (2, .int x2), (3, .int x3)] [] h =
  if x1 = 0 then
    q_ix x2 8 (fun j1 =>
    some ((q_si h 14 j1 x3), none))
  else if x1 = 1 then
    q_ix x2 8 (fun j2 =>
    some ((q_si h 16 j2 x3), none))
  else if x1 = 2 then
    q_ix x2 8 (fun j3 =>
    some ((q_si h 15 j3 x3), none))
  else if x1 = 3 then
    q_ix x2 8 (fun j4 =>
    some ((q_si h 17 j4 x3), none))
  else if x1 = 4 then
    some ((q_si h 12 7 x3), none)
  else 
    some ((q_si h 12 8 x3), none) := by rfl
-- WhirlShafts$Line.tell(III)V with (18, None, None, None)
set_option maxRecDepth 20000 in
theorem b24_0_1 (X : q_X) (O : q_O) (n : Nat) (h : q_S) (x1 : Int32) (x2 : Int32) (x3 : Int32) : q_go e_24 X O (n + 1) 0 [(0, .ref 18), (1, .int x1), (2, .int x2), (3, .int x3)] [] h =
  if x1 = 0 then
    q_ix x2 8 (fun j1 =>
    some ((q_si h 20 j1 x3), none))
  else if x1 = 1 then
    q_ix x2 8 (fun j2 =>
    some ((q_si h 22 j2 x3), none))
  else if x1 = 2 then
    q_ix x2 8 (fun j3 =>
    some ((q_si h 21 j3 x3), none))
  else if x1 = 3 then
    q_ix x2 8 (fun j4 =>
    some ((q_si h 23 j4 x3), none))
  else if x1 = 4 then
    some ((q_si h 18 7 x3), none)
  else 
    some ((q_si h 18 8 x3), none) := by rfl
-- WhirlShafts$Line.ratios(I)I with (12, None)
set_option maxRecDepth 20000 in
theorem b25_0 (X : q_X) (O : q_O) (n : Nat) (h : q_S) (x1 : Int32) : q_go e_25 X O (n + 1) 0 [(0, .ref 12), (1, .int x1)] [] h =
  q_go e_25 X O n 4 [(0, .ref 12), (1, .int x1), (2, .int 1), (3, .int 0)] [] h := by rfl
set_option maxRecDepth 20000 in
theorem b25_4 (X : q_X) (O : q_O) (n : Nat) (h : q_S) (x1 : Int32) (x2 : Int32) (x3 : Int32) : q_go e_25 X O (n + 1) 4 [(0, .ref 12), (1, .int x1), (2, .int x2), (3, .int x3)] [] h =
  if x3 < x1 then
    q_ix x3 8 (fun j1 =>
    q_go e_25 X O n 4 [(0, .ref 12), (1, .int x1), (2, .int (x2 * (h.1 17 j1))), (3, .int (x3 + 1))] [] h)
  else
    some (h, some (.int x2)) := by rfl
-- WhirlShafts$Line.ratios(I)I with (18, None)
set_option maxRecDepth 20000 in
theorem b25_0_1 (X : q_X) (O : q_O) (n : Nat) (h : q_S) (x1 : Int32) : q_go e_25 X O (n + 1) 0 [(0, .ref 18), (1, .int x1)] [] h =
  q_go e_25 X O n 4 [(0, .ref 18), (1, .int x1), (2, .int 1), (3, .int 0)] [] h := by rfl
set_option maxRecDepth 20000 in
theorem b25_4_1 (X : q_X) (O : q_O) (n : Nat) (h : q_S) (x1 : Int32) (x2 : Int32) (x3 : Int32) : q_go e_25 X O (n + 1) 4 [(0, .ref 18), (1, .int x1), (2, .int x2), (3, .int x3)] [] h =
  if x3 < x1 then
    q_ix x3 8 (fun j1 =>
    q_go e_25 X O n 4 [(0, .ref 18), (1, .int x1), (2, .int (x2 * (h.1 23 j1))), (3, .int (x3 + 1))] [] h)
  else
    some (h, some (.int x2)) := by rfl
-- WhirlShafts$Line.ratios(I)I with (24, None)
set_option maxRecDepth 20000 in
theorem b25_0_2 (X : q_X) (O : q_O) (n : Nat) (h : q_S) (x1 : Int32) : q_go e_25 X O (n + 1) 0 [(0, .ref 24), (1, .int x1)] [] h =
  q_go e_25 X O n 4 [(0, .ref 24), (1, .int x1), (2, .int 1), (3, .int 0)] [] h := by rfl
set_option maxRecDepth 20000 in
theorem b25_4_2 (X : q_X) (O : q_O) (n : Nat) (h : q_S) (x1 : Int32) (x2 : Int32) (x3 : Int32) : q_go e_25 X O (n + 1) 4 [(0, .ref 24), (1, .int x1), (2, .int x2), (3, .int x3)] [] h =
  if x3 < x1 then
    q_ix x3 8 (fun j1 =>
    q_go e_25 X O n 4 [(0, .ref 24), (1, .int x1), (2, .int (x2 * (h.1 29 j1))), (3, .int (x3 + 1))] [] h)
  else
    some (h, some (.int x2)) := by rfl
-- WhirlShafts$Line.ratiosBut(I)I with (12, None)
set_option maxRecDepth 20000 in
theorem b26_0 (X : q_X) (O : q_O) (n : Nat) (h : q_S) (x1 : Int32) : q_go e_26 X O (n + 1) 0 [(0, .ref 12), (1, .int x1)] [] h =
  q_go e_26 X O n 4 [(0, .ref 12), (1, .int x1), (2, .int 1), (3, .int 0)] [] h := by rfl
set_option maxRecDepth 20000 in
theorem b26_4 (X : q_X) (O : q_O) (n : Nat) (h : q_S) (x1 : Int32) (x2 : Int32) (x3 : Int32) : q_go e_26 X O (n + 1) 4 [(0, .ref 12), (1, .int x1), (2, .int x2), (3, .int x3)] [] h =
  if x3 < ((h.1 12 6) - 1) then
    if x3 = x1 then
      q_go e_26 X O n 4 [(0, .ref 12), (1, .int x1), (2, .int x2), (3, .int (x3 + 1))] [] h
    else
      q_ix x3 8 (fun j1 =>
      q_go e_26 X O n 4 [(0, .ref 12), (1, .int x1), (2, .int (x2 * (h.1 17 j1))), (3, .int (x3 + 1))] [] h)
  else
    some (h, some (.int x2)) := by rfl
-- WhirlShafts$Line.ratiosBut(I)I with (18, None)
set_option maxRecDepth 20000 in
theorem b26_0_1 (X : q_X) (O : q_O) (n : Nat) (h : q_S) (x1 : Int32) : q_go e_26 X O (n + 1) 0 [(0, .ref 18), (1, .int x1)] [] h =
  q_go e_26 X O n 4 [(0, .ref 18), (1, .int x1), (2, .int 1), (3, .int 0)] [] h := by rfl
set_option maxRecDepth 20000 in
theorem b26_4_1 (X : q_X) (O : q_O) (n : Nat) (h : q_S) (x1 : Int32) (x2 : Int32) (x3 : Int32) : q_go e_26 X O (n + 1) 4 [(0, .ref 18), (1, .int x1), (2, .int x2), (3, .int x3)] [] h =
  if x3 < ((h.1 18 6) - 1) then
    if x3 = x1 then
      q_go e_26 X O n 4 [(0, .ref 18), (1, .int x1), (2, .int x2), (3, .int (x3 + 1))] [] h
    else
      q_ix x3 8 (fun j1 =>
      q_go e_26 X O n 4 [(0, .ref 18), (1, .int x1), (2, .int (x2 * (h.1 23 j1))), (3, .int (x3 + 1))] [] h)
  else
    some (h, some (.int x2)) := by rfl
-- WhirlShafts$Line.factor(I)I with (12, None)
set_option maxRecDepth 20000 in
theorem b27_0 (X : q_X) (O : q_O) (n : Nat) (h : q_S) (x1 : Int32) : q_go e_27 X O (n + 1) 0 [(0, .ref 12), (1, .int x1)] [] h =
  q_c1 (O 25 h [.ref 12, .int x1]) (fun h1 v2 =>
  some (h1, some (.int (v2 * v2)))) := by rfl
-- WhirlShafts$Line.factor(I)I with (18, None)
set_option maxRecDepth 20000 in
theorem b27_0_1 (X : q_X) (O : q_O) (n : Nat) (h : q_S) (x1 : Int32) : q_go e_27 X O (n + 1) 0 [(0, .ref 18), (1, .int x1)] [] h =
  q_c1 (O 25 h [.ref 18, .int x1]) (fun h1 v2 =>
  some (h1, some (.int (v2 * v2)))) := by rfl
-- WhirlShafts$Line.factor(I)I with (24, None)
set_option maxRecDepth 20000 in
theorem b27_0_2 (X : q_X) (O : q_O) (n : Nat) (h : q_S) (x1 : Int32) : q_go e_27 X O (n + 1) 0 [(0, .ref 24), (1, .int x1)] [] h =
  q_c1 (O 25 h [.ref 24, .int x1]) (fun h1 v2 =>
  some (h1, some (.int (v2 * v2)))) := by rfl
-- WhirlShafts$Line.weight(I)I with (12, None)
set_option maxRecDepth 20000 in
theorem b28_0 (X : q_X) (O : q_O) (n : Nat) (h : q_S) (x1 : Int32) : q_go e_28 X O (n + 1) 0 [(0, .ref 12), (1, .int x1)] [] h =
  q_ix x1 8 (fun j1 =>
  q_ix (h.1 13 j1) 5 (fun j2 =>
  q_go e_28 X O n 11 [(0, .ref 12), (1, .int x1)] [.ref (q_rf 1 j2)] h)) := by rfl
set_option maxRecDepth 20000 in
theorem b28_11 (X : q_X) (O : q_O) (n : Nat) (h : q_S) (x1 : Int32) : q_go e_28 X O (n + 1) 11 [(0, .ref 12), (1, .int x1)] [.ref 2] h =
  q_ix x1 8 (fun j1 =>
  q_c1 (O 10 h [.ref 2, .int (h.1 14 j1), .int (h.1 12 7)]) (fun h2 v3 =>
  some (h2, some (.int v3)))) := by rfl
set_option maxRecDepth 20000 in
theorem b28_11_1 (X : q_X) (O : q_O) (n : Nat) (h : q_S) (x1 : Int32) : q_go e_28 X O (n + 1) 11 [(0, .ref 12), (1, .int x1)] [.ref 3] h =
  q_ix x1 8 (fun j1 =>
  q_c1 (O 46 h [.ref 3, .int (h.1 14 j1), .int (h.1 12 7)]) (fun h2 v3 =>
  some (h2, some (.int v3)))) := by rfl
set_option maxRecDepth 20000 in
theorem b28_11_2 (X : q_X) (O : q_O) (n : Nat) (h : q_S) (x1 : Int32) : q_go e_28 X O (n + 1) 11 [(0, .ref 12), (1, .int x1)] [.ref 4] h =
  q_ix x1 8 (fun j1 =>
  q_c1 (O 14 h [.ref 4, .int (h.1 14 j1), .int (h.1 12 7)]) (fun h2 v3 =>
  some (h2, some (.int v3)))) := by rfl
set_option maxRecDepth 20000 in
theorem b28_11_3 (X : q_X) (O : q_O) (n : Nat) (h : q_S) (x1 : Int32) : q_go e_28 X O (n + 1) 11 [(0, .ref 12), (1, .int x1)] [.ref 5] h =
  q_ix x1 8 (fun j1 =>
  q_c1 (O 5 h [.ref 5, .int (h.1 14 j1), .int (h.1 12 7)]) (fun h2 v3 =>
  some (h2, some (.int v3)))) := by rfl
set_option maxRecDepth 20000 in
theorem b28_11_4 (X : q_X) (O : q_O) (n : Nat) (h : q_S) (x1 : Int32) : q_go e_28 X O (n + 1) 11 [(0, .ref 12), (1, .int x1)] [.ref 6] h =
  q_ix x1 8 (fun j1 =>
  q_c1 (O 53 h [.ref 6, .int (h.1 14 j1), .int (h.1 12 7)]) (fun h2 v3 =>
  some (h2, some (.int v3)))) := by rfl
-- WhirlShafts$Line.weight(I)I with (18, None)
set_option maxRecDepth 20000 in
theorem b28_0_1 (X : q_X) (O : q_O) (n : Nat) (h : q_S) (x1 : Int32) : q_go e_28 X O (n + 1) 0 [(0, .ref 18), (1, .int x1)] [] h =
  q_ix x1 8 (fun j1 =>
  q_ix (h.1 19 j1) 5 (fun j2 =>
  q_go e_28 X O n 11 [(0, .ref 18), (1, .int x1)] [.ref (q_rf 1 j2)] h)) := by rfl
set_option maxRecDepth 20000 in
theorem b28_11_5 (X : q_X) (O : q_O) (n : Nat) (h : q_S) (x1 : Int32) : q_go e_28 X O (n + 1) 11 [(0, .ref 18), (1, .int x1)] [.ref 2] h =
  q_ix x1 8 (fun j1 =>
  q_c1 (O 10 h [.ref 2, .int (h.1 20 j1), .int (h.1 18 7)]) (fun h2 v3 =>
  some (h2, some (.int v3)))) := by rfl
set_option maxRecDepth 20000 in
theorem b28_11_6 (X : q_X) (O : q_O) (n : Nat) (h : q_S) (x1 : Int32) : q_go e_28 X O (n + 1) 11 [(0, .ref 18), (1, .int x1)] [.ref 3] h =
  q_ix x1 8 (fun j1 =>
  q_c1 (O 46 h [.ref 3, .int (h.1 20 j1), .int (h.1 18 7)]) (fun h2 v3 =>
  some (h2, some (.int v3)))) := by rfl
set_option maxRecDepth 20000 in
theorem b28_11_7 (X : q_X) (O : q_O) (n : Nat) (h : q_S) (x1 : Int32) : q_go e_28 X O (n + 1) 11 [(0, .ref 18), (1, .int x1)] [.ref 4] h =
  q_ix x1 8 (fun j1 =>
  q_c1 (O 14 h [.ref 4, .int (h.1 20 j1), .int (h.1 18 7)]) (fun h2 v3 =>
  some (h2, some (.int v3)))) := by rfl
set_option maxRecDepth 20000 in
theorem b28_11_8 (X : q_X) (O : q_O) (n : Nat) (h : q_S) (x1 : Int32) : q_go e_28 X O (n + 1) 11 [(0, .ref 18), (1, .int x1)] [.ref 5] h =
  q_ix x1 8 (fun j1 =>
  q_c1 (O 5 h [.ref 5, .int (h.1 20 j1), .int (h.1 18 7)]) (fun h2 v3 =>
  some (h2, some (.int v3)))) := by rfl
set_option maxRecDepth 20000 in
theorem b28_11_9 (X : q_X) (O : q_O) (n : Nat) (h : q_S) (x1 : Int32) : q_go e_28 X O (n + 1) 11 [(0, .ref 18), (1, .int x1)] [.ref 6] h =
  q_ix x1 8 (fun j1 =>
  q_c1 (O 53 h [.ref 6, .int (h.1 20 j1), .int (h.1 18 7)]) (fun h2 v3 =>
  some (h2, some (.int v3)))) := by rfl
-- WhirlShafts$Line.weight(I)I with (24, None)
set_option maxRecDepth 20000 in
theorem b28_0_2 (X : q_X) (O : q_O) (n : Nat) (h : q_S) (x1 : Int32) : q_go e_28 X O (n + 1) 0 [(0, .ref 24), (1, .int x1)] [] h =
  q_ix x1 8 (fun j1 =>
  q_ix (h.1 25 j1) 5 (fun j2 =>
  q_go e_28 X O n 11 [(0, .ref 24), (1, .int x1)] [.ref (q_rf 1 j2)] h)) := by rfl
set_option maxRecDepth 20000 in
theorem b28_11_10 (X : q_X) (O : q_O) (n : Nat) (h : q_S) (x1 : Int32) : q_go e_28 X O (n + 1) 11 [(0, .ref 24), (1, .int x1)] [.ref 2] h =
  q_ix x1 8 (fun j1 =>
  q_c1 (O 10 h [.ref 2, .int (h.1 26 j1), .int (h.1 24 7)]) (fun h2 v3 =>
  some (h2, some (.int v3)))) := by rfl
set_option maxRecDepth 20000 in
theorem b28_11_11 (X : q_X) (O : q_O) (n : Nat) (h : q_S) (x1 : Int32) : q_go e_28 X O (n + 1) 11 [(0, .ref 24), (1, .int x1)] [.ref 3] h =
  q_ix x1 8 (fun j1 =>
  q_c1 (O 46 h [.ref 3, .int (h.1 26 j1), .int (h.1 24 7)]) (fun h2 v3 =>
  some (h2, some (.int v3)))) := by rfl
set_option maxRecDepth 20000 in
theorem b28_11_12 (X : q_X) (O : q_O) (n : Nat) (h : q_S) (x1 : Int32) : q_go e_28 X O (n + 1) 11 [(0, .ref 24), (1, .int x1)] [.ref 4] h =
  q_ix x1 8 (fun j1 =>
  q_c1 (O 14 h [.ref 4, .int (h.1 26 j1), .int (h.1 24 7)]) (fun h2 v3 =>
  some (h2, some (.int v3)))) := by rfl
set_option maxRecDepth 20000 in
theorem b28_11_13 (X : q_X) (O : q_O) (n : Nat) (h : q_S) (x1 : Int32) : q_go e_28 X O (n + 1) 11 [(0, .ref 24), (1, .int x1)] [.ref 5] h =
  q_ix x1 8 (fun j1 =>
  q_c1 (O 5 h [.ref 5, .int (h.1 26 j1), .int (h.1 24 7)]) (fun h2 v3 =>
  some (h2, some (.int v3)))) := by rfl
set_option maxRecDepth 20000 in
theorem b28_11_14 (X : q_X) (O : q_O) (n : Nat) (h : q_S) (x1 : Int32) : q_go e_28 X O (n + 1) 11 [(0, .ref 24), (1, .int x1)] [.ref 6] h =
  q_ix x1 8 (fun j1 =>
  q_c1 (O 53 h [.ref 6, .int (h.1 26 j1), .int (h.1 24 7)]) (fun h2 v3 =>
  some (h2, some (.int v3)))) := by rfl
-- WhirlShafts$Line.reducedInertia(I)I with (12, None)
set_option maxRecDepth 20000 in
theorem b29_0 (X : q_X) (O : q_O) (n : Nat) (h : q_S) (x1 : Int32) : q_go e_29 X O (n + 1) 0 [(0, .ref 12), (1, .int x1)] [] h =
  q_c1 (O 28 h [.ref 12, .int x1]) (fun h1 v2 =>
  if (h1.1 12 8) = 1 then
    if 20 = 0 then none else
    q_c1 (O 27 h1 [.ref 12, .int x1]) (fun h3 v4 =>
    some (h3, some (.int ((v2 - ((v2 * (h1.1 12 7)) / 20)) * v4))))
  else
    if (h1.1 12 8) = 2 then
      if 10 = 0 then none else
      q_c1 (O 27 h1 [.ref 12, .int x1]) (fun h5 v6 =>
      some (h5, some (.int ((v2 + ((v2 * (h1.1 12 7)) / 10)) * v6))))
    else
      q_c1 (O 27 h1 [.ref 12, .int x1]) (fun h7 v8 =>
      some (h7, some (.int (v2 * v8))))) := by rfl
-- WhirlShafts$Line.reducedInertia(I)I with (18, None)
set_option maxRecDepth 20000 in
theorem b29_0_1 (X : q_X) (O : q_O) (n : Nat) (h : q_S) (x1 : Int32) : q_go e_29 X O (n + 1) 0 [(0, .ref 18), (1, .int x1)] [] h =
  q_c1 (O 28 h [.ref 18, .int x1]) (fun h1 v2 =>
  if (h1.1 18 8) = 1 then
    if 20 = 0 then none else
    q_c1 (O 27 h1 [.ref 18, .int x1]) (fun h3 v4 =>
    some (h3, some (.int ((v2 - ((v2 * (h1.1 18 7)) / 20)) * v4))))
  else
    if (h1.1 18 8) = 2 then
      if 10 = 0 then none else
      q_c1 (O 27 h1 [.ref 18, .int x1]) (fun h5 v6 =>
      some (h5, some (.int ((v2 + ((v2 * (h1.1 18 7)) / 10)) * v6))))
    else
      q_c1 (O 27 h1 [.ref 18, .int x1]) (fun h7 v8 =>
      some (h7, some (.int (v2 * v8))))) := by rfl
-- WhirlShafts$Line.reducedInertia(I)I with (24, None)
set_option maxRecDepth 20000 in
theorem b29_0_2 (X : q_X) (O : q_O) (n : Nat) (h : q_S) (x1 : Int32) : q_go e_29 X O (n + 1) 0 [(0, .ref 24), (1, .int x1)] [] h =
  q_c1 (O 28 h [.ref 24, .int x1]) (fun h1 v2 =>
  if (h1.1 24 8) = 1 then
    if 20 = 0 then none else
    q_c1 (O 27 h1 [.ref 24, .int x1]) (fun h3 v4 =>
    some (h3, some (.int ((v2 - ((v2 * (h1.1 24 7)) / 20)) * v4))))
  else
    if (h1.1 24 8) = 2 then
      if 10 = 0 then none else
      q_c1 (O 27 h1 [.ref 24, .int x1]) (fun h5 v6 =>
      some (h5, some (.int ((v2 + ((v2 * (h1.1 24 7)) / 10)) * v6))))
    else
      q_c1 (O 27 h1 [.ref 24, .int x1]) (fun h7 v8 =>
      some (h7, some (.int (v2 * v8))))) := by rfl
-- WhirlShafts$Line.reducedBearing(I)I with (12, None)
set_option maxRecDepth 20000 in
theorem b30_0 (X : q_X) (O : q_O) (n : Nat) (h : q_S) (x1 : Int32) : q_go e_30 X O (n + 1) 0 [(0, .ref 12), (1, .int x1)] [] h =
  q_ix x1 8 (fun j1 =>
  q_c1 (O 27 h [.ref 12, .int x1]) (fun h2 v3 =>
  some (h2, some (.int ((h.1 15 j1) * v3))))) := by rfl
-- WhirlShafts$Line.reducedBearing(I)I with (18, None)
set_option maxRecDepth 20000 in
theorem b30_0_1 (X : q_X) (O : q_O) (n : Nat) (h : q_S) (x1 : Int32) : q_go e_30 X O (n + 1) 0 [(0, .ref 18), (1, .int x1)] [] h =
  q_ix x1 8 (fun j1 =>
  q_c1 (O 27 h [.ref 18, .int x1]) (fun h2 v3 =>
  some (h2, some (.int ((h.1 21 j1) * v3))))) := by rfl
-- WhirlShafts$Line.reducedBearing(I)I with (24, None)
set_option maxRecDepth 20000 in
theorem b30_0_2 (X : q_X) (O : q_O) (n : Nat) (h : q_S) (x1 : Int32) : q_go e_30 X O (n + 1) 0 [(0, .ref 24), (1, .int x1)] [] h =
  q_ix x1 8 (fun j1 =>
  q_c1 (O 27 h [.ref 24, .int x1]) (fun h2 v3 =>
  some (h2, some (.int ((h.1 27 j1) * v3))))) := by rfl
-- WhirlShafts$Line.reducedStiff(I)I with (12, None)
set_option maxRecDepth 20000 in
theorem b31_0 (X : q_X) (O : q_O) (n : Nat) (h : q_S) (x1 : Int32) : q_go e_31 X O (n + 1) 0 [(0, .ref 12), (1, .int x1)] [] h =
  q_ix x1 8 (fun j1 =>
  q_c1 (O 27 h [.ref 12, .int x1]) (fun h2 v3 =>
  some (h2, some (.int ((h.1 16 j1) * v3))))) := by rfl
-- WhirlShafts$Line.reducedStiff(I)I with (18, None)
set_option maxRecDepth 20000 in
theorem b31_0_1 (X : q_X) (O : q_O) (n : Nat) (h : q_S) (x1 : Int32) : q_go e_31 X O (n + 1) 0 [(0, .ref 18), (1, .int x1)] [] h =
  q_ix x1 8 (fun j1 =>
  q_c1 (O 27 h [.ref 18, .int x1]) (fun h2 v3 =>
  some (h2, some (.int ((h.1 22 j1) * v3))))) := by rfl
-- WhirlShafts$Line.reducedStiff(I)I with (24, None)
set_option maxRecDepth 20000 in
theorem b31_0_2 (X : q_X) (O : q_O) (n : Nat) (h : q_S) (x1 : Int32) : q_go e_31 X O (n + 1) 0 [(0, .ref 24), (1, .int x1)] [] h =
  q_ix x1 8 (fun j1 =>
  q_c1 (O 27 h [.ref 24, .int x1]) (fun h2 v3 =>
  some (h2, some (.int ((h.1 28 j1) * v3))))) := by rfl
-- WhirlShafts$Line.holds(I)I with (12, None)
set_option maxRecDepth 20000 in
theorem b32_0 (X : q_X) (O : q_O) (n : Nat) (h : q_S) (x1 : Int32) : q_go e_32 X O (n + 1) 0 [(0, .ref 12), (1, .int x1)] [] h =
  q_c1 (O 30 h [.ref 12, .int x1]) (fun h1 v2 =>
  if 0 < x1 then
    q_c1 (O 31 h1 [.ref 12, .int (x1 - 1)]) (fun h3 v4 =>
    q_go e_32 X O n 20 [(0, .ref 12), (1, .int x1), (2, .int (v2 + v4))] [] h3)
  else
    q_go e_32 X O n 20 [(0, .ref 12), (1, .int x1), (2, .int v2)] [] h1) := by rfl
set_option maxRecDepth 20000 in
theorem b32_20 (X : q_X) (O : q_O) (n : Nat) (h : q_S) (x1 : Int32) (x2 : Int32) : q_go e_32 X O (n + 1) 20 [(0, .ref 12), (1, .int x1), (2, .int x2)] [] h =
  if x1 < ((h.1 12 6) - 1) then
    q_c1 (O 31 h [.ref 12, .int x1]) (fun h1 v2 =>
    some (h1, some (.int (x2 + v2))))
  else
    some (h, some (.int x2)) := by rfl
-- WhirlShafts$Line.holds(I)I with (18, None)
set_option maxRecDepth 20000 in
theorem b32_0_1 (X : q_X) (O : q_O) (n : Nat) (h : q_S) (x1 : Int32) : q_go e_32 X O (n + 1) 0 [(0, .ref 18), (1, .int x1)] [] h =
  q_c1 (O 30 h [.ref 18, .int x1]) (fun h1 v2 =>
  if 0 < x1 then
    q_c1 (O 31 h1 [.ref 18, .int (x1 - 1)]) (fun h3 v4 =>
    q_go e_32 X O n 20 [(0, .ref 18), (1, .int x1), (2, .int (v2 + v4))] [] h3)
  else
    q_go e_32 X O n 20 [(0, .ref 18), (1, .int x1), (2, .int v2)] [] h1) := by rfl
set_option maxRecDepth 20000 in
theorem b32_20_1 (X : q_X) (O : q_O) (n : Nat) (h : q_S) (x1 : Int32) (x2 : Int32) : q_go e_32 X O (n + 1) 20 [(0, .ref 18), (1, .int x1), (2, .int x2)] [] h =
  if x1 < ((h.1 18 6) - 1) then
    q_c1 (O 31 h [.ref 18, .int x1]) (fun h1 v2 =>
    some (h1, some (.int (x2 + v2))))
  else
    some (h, some (.int x2)) := by rfl
-- WhirlShafts$Line.reducesLike(LWhirlShafts$Line;)Z with (12, 24)
set_option maxRecDepth 20000 in
theorem b33_0 (X : q_X) (O : q_O) (n : Nat) (h : q_S)  : q_go e_33 X O (n + 1) 0 [(0, .ref 12), (1, .ref 24)] [] h =
  if (h.1 12 6) = (h.1 24 6) then
    q_go e_33 X O n 15 [(0, .ref 12), (1, .ref 24), (2, .int 0)] [] h
  else
    some (h, some (.int 0)) := by rfl
set_option maxRecDepth 20000 in
theorem b33_15 (X : q_X) (O : q_O) (n : Nat) (h : q_S) (x2 : Int32) : q_go e_33 X O (n + 1) 15 [(0, .ref 12), (1, .ref 24), (2, .int x2)] [] h =
  if x2 < (h.1 12 6) then
    q_c1 (O 29 h [.ref 12, .int x2]) (fun h1 v2 =>
    q_c1 (O 29 h1 [.ref 24, .int x2]) (fun h3 v4 =>
    if v2 = v4 then
      q_c1 (O 30 h3 [.ref 12, .int x2]) (fun h5 v6 =>
      q_c1 (O 30 h5 [.ref 24, .int x2]) (fun h7 v8 =>
      if v6 = v8 then
        if x2 < ((h7.1 12 6) - 1) then
          q_c1 (O 31 h7 [.ref 12, .int x2]) (fun h9 v10 =>
          q_c1 (O 31 h9 [.ref 24, .int x2]) (fun h11 v12 =>
          if v10 = v12 then
            q_go e_33 X O n 15 [(0, .ref 12), (1, .ref 24), (2, .int (x2 + 1))] [] h11
          else
            some (h11, some (.int 0))))
        else
          q_go e_33 X O n 15 [(0, .ref 12), (1, .ref 24), (2, .int (x2 + 1))] [] h7
      else
        some (h7, some (.int 0))))
    else
      some (h3, some (.int 0))))
  else
    some (h, some (.int 1)) := by rfl
-- WhirlShafts$Orders.add(III)I with (30, None, None, None)
set_option maxRecDepth 20000 in
theorem b34_0 (X : q_X) (O : q_O) (n : Nat) (h : q_S) (x1 : Int32) (x2 : Int32) (x3 : Int32) : q_go e_34 X O (n + 1) 0 [(0, .ref 30), (1, .int x1), (2, .int x2), (3, .int x3)] [] h =
  q_ix (h.1 30 3) 8 (fun j1 =>
  q_ix (h.1 30 3) 8 (fun j2 =>
  q_ix (h.1 30 3) 8 (fun j3 =>
  some ((q_si (q_si (q_si (q_si h 31 j1 x1) 32 j2 x2) 33 j3 x3) 30 3 ((h.1 30 3) + 1)), some (.int ((h.1 30 3) + 1)))))) := by rfl
-- WhirlShafts$Orders.takeFrom(LWhirlShafts$Orders;)V with (30, 34)
set_option maxRecDepth 20000 in
theorem b35_0 (X : q_X) (O : q_O) (n : Nat) (h : q_S)  : q_go e_35 X O (n + 1) 0 [(0, .ref 30), (1, .ref 34)] [] h =
  q_arc (q_si h 30 3 (h.1 34 3)) 35 0 31 0 8 (fun h1 =>
  q_arc h1 36 0 32 0 8 (fun h2 =>
  q_arc h2 37 0 33 0 8 (fun h3 =>
  some (h3, none)))) := by rfl
-- WhirlShafts$Orders.takeFrom(LWhirlShafts$Orders;)V with (34, 30)
set_option maxRecDepth 20000 in
theorem b35_0_1 (X : q_X) (O : q_O) (n : Nat) (h : q_S)  : q_go e_35 X O (n + 1) 0 [(0, .ref 34), (1, .ref 30)] [] h =
  q_arc (q_si h 34 3 (h.1 30 3)) 31 0 35 0 8 (fun h1 =>
  q_arc h1 32 0 36 0 8 (fun h2 =>
  q_arc h2 33 0 37 0 8 (fun h3 =>
  some (h3, none)))) := by rfl
-- WhirlShafts$Rates.take(LWhirlShafts$Line;)V with (43, 12)
set_option maxRecDepth 20000 in
theorem b36_0 (X : q_X) (O : q_O) (n : Nat) (h : q_S)  : q_go e_36 X O (n + 1) 0 [(0, .ref 43), (1, .ref 12)] [] h =
  q_go e_36 X O n 10 [(0, .ref 43), (1, .ref 12), (2, .int 0)] [] (q_si h 43 0 (h.1 12 6)) := by rfl
set_option maxRecDepth 20000 in
theorem b36_10 (X : q_X) (O : q_O) (n : Nat) (h : q_S) (x2 : Int32) : q_go e_36 X O (n + 1) 10 [(0, .ref 43), (1, .ref 12), (2, .int x2)] [] h =
  if x2 < (h.1 43 0) then
    q_c1 (O 29 h [.ref 12, .int x2]) (fun h1 v2 =>
    q_ix x2 8 (fun j3 =>
    q_c1 (O 32 (q_sl h1 44 j3 (((v2 : Int32)).toInt64)) [.ref 12, .int x2]) (fun h4 v5 =>
    q_ix x2 8 (fun j6 =>
    if x2 < ((h4.1 43 0) - 1) then
      q_c1 (O 31 (q_sl h4 45 j6 (((v5 : Int32)).toInt64)) [.ref 12, .int x2]) (fun h7 v8 =>
      q_ix x2 8 (fun j9 =>
      q_go e_36 X O n 10 [(0, .ref 43), (1, .ref 12), (2, .int (x2 + 1))] [] (q_sl h7 46 j9 (((v8 : Int32)).toInt64))))
    else
      q_ix x2 8 (fun j10 =>
      q_go e_36 X O n 10 [(0, .ref 43), (1, .ref 12), (2, .int (x2 + 1))] [] (q_sl (q_sl h4 45 j6 (((v5 : Int32)).toInt64)) 46 j10 (Int64.ofNat 0)))))))
  else
    some (h, none) := by rfl
-- WhirlShafts$Rates.take(LWhirlShafts$Line;)V with (43, 18)
set_option maxRecDepth 20000 in
theorem b36_0_1 (X : q_X) (O : q_O) (n : Nat) (h : q_S)  : q_go e_36 X O (n + 1) 0 [(0, .ref 43), (1, .ref 18)] [] h =
  q_go e_36 X O n 10 [(0, .ref 43), (1, .ref 18), (2, .int 0)] [] (q_si h 43 0 (h.1 18 6)) := by rfl
set_option maxRecDepth 20000 in
theorem b36_10_1 (X : q_X) (O : q_O) (n : Nat) (h : q_S) (x2 : Int32) : q_go e_36 X O (n + 1) 10 [(0, .ref 43), (1, .ref 18), (2, .int x2)] [] h =
  if x2 < (h.1 43 0) then
    q_c1 (O 29 h [.ref 18, .int x2]) (fun h1 v2 =>
    q_ix x2 8 (fun j3 =>
    q_c1 (O 32 (q_sl h1 44 j3 (((v2 : Int32)).toInt64)) [.ref 18, .int x2]) (fun h4 v5 =>
    q_ix x2 8 (fun j6 =>
    if x2 < ((h4.1 43 0) - 1) then
      q_c1 (O 31 (q_sl h4 45 j6 (((v5 : Int32)).toInt64)) [.ref 18, .int x2]) (fun h7 v8 =>
      q_ix x2 8 (fun j9 =>
      q_go e_36 X O n 10 [(0, .ref 43), (1, .ref 18), (2, .int (x2 + 1))] [] (q_sl h7 46 j9 (((v8 : Int32)).toInt64))))
    else
      q_ix x2 8 (fun j10 =>
      q_go e_36 X O n 10 [(0, .ref 43), (1, .ref 18), (2, .int (x2 + 1))] [] (q_sl (q_sl h4 45 j6 (((v5 : Int32)).toInt64)) 46 j10 (Int64.ofNat 0)))))))
  else
    some (h, none) := by rfl
-- WhirlShafts$Rates.belowAll(II)I with (43, None, None)
set_option maxRecDepth 20000 in
theorem b37_0 (X : q_X) (O : q_O) (n : Nat) (h : q_S) (x1 : Int32) (x2 : Int32) : q_go e_37 X O (n + 1) 0 [(0, .ref 43), (1, .int x1), (2, .int x2)] [] h =
  q_c1 (O 38 h [.ref 43, .int 0, .int ((h.1 43 0) - 1), .int x1, .int x2]) (fun h1 v2 =>
  some (h1, some (.int v2))) := by rfl
-- WhirlShafts$Rates.belowPart(IIII)I with (43, None, None, None, None)
set_option maxRecDepth 20000 in
theorem b38_0 (X : q_X) (O : q_O) (n : Nat) (h : q_S) (x1 : Int32) (x2 : Int32) (x3 : Int32) (x4 : Int32) : q_go e_38 X O (n + 1) 0 [(0, .ref 43), (1, .int x1), (2, .int x2), (3, .int x3), (4, .int x4)] [] h =
  q_ix 0 9 (fun j1 =>
  q_b (Nat.beq (q_ty (q_rf 47 j1)) 1) (q_ix 0 (q_ln (q_rf 47 j1)) (fun j2 =>
  q_go e_38 X O n 18 [(0, .ref 43), (1, .int x1), (2, .int x2), (3, .int x3), (4, .int x4), (5, .int 0), (6, .int 1), (7, .int x1)] [] (q_sl h (q_rf 47 j1) j2 (Int64.ofNat 1))))) := by rfl
set_option maxRecDepth 20000 in
theorem b38_18 (X : q_X) (O : q_O) (n : Nat) (h : q_S) (x1 : Int32) (x2 : Int32) (x3 : Int32) (x4 : Int32) (x5 : Int32) (x6 : Int32) (x7 : Int32) : q_go e_38 X O (n + 1) 18 [(0, .ref 43), (1, .int x1), (2, .int x2), (3, .int x3), (4, .int x4), (5, .int x5), (6, .int x6), (7, .int x7)] [] h =
  if x2 < x7 then
    some (h, some (.int x5))
  else
    q_ix x7 8 (fun j1 =>
    q_ix x7 8 (fun j2 =>
    if x1 < x7 then
      q_ix (x7 - 1) 8 (fun j3 =>
      q_go e_38 X O n 71 [(0, .ref 43), (1, .int x1), (2, .int x2), (3, .int x3), (4, .int x4), (5, .int x5), (6, .int x6), (7, .int x7), (8, .long ((((x4 : Int32)).toInt64 * (h.2.1 45 j1)) - (((x3 : Int32)).toInt64 * (h.2.1 44 j2))))] [.long (((x4 : Int32)).toInt64 * (h.2.1 46 j3))] h)
    else
      q_go e_38 X O n 71 [(0, .ref 43), (1, .int x1), (2, .int x2), (3, .int x3), (4, .int x4), (5, .int x5), (6, .int x6), (7, .int x7), (8, .long ((((x4 : Int32)).toInt64 * (h.2.1 45 j1)) - (((x3 : Int32)).toInt64 * (h.2.1 44 j2))))] [.long (Int64.ofNat 0)] h)) := by rfl
set_option maxRecDepth 20000 in
theorem b38_71 (X : q_X) (O : q_O) (n : Nat) (h : q_S) (x1 : Int32) (x2 : Int32) (x3 : Int32) (x4 : Int32) (x5 : Int32) (x6 : Int32) (x7 : Int32) (x8 : Int64) (s0 : Int64) : q_go e_38 X O (n + 1) 71 [(0, .ref 43), (1, .int x1), (2, .int x2), (3, .int x3), (4, .int x4), (5, .int x5), (6, .int x6), (7, .int x7), (8, .long x8)] [.long s0] h =
  q_c0 (O 39 h [.ref 43, .int (x7 - x1), .long x8, .long (s0 * s0)]) (fun h1 =>
  q_c1 (O 40 h1 [.ref 43, .int ((x7 - x1) + 1)]) (fun h2 v3 =>
  if v3 = (-x6) then
    q_go e_38 X O n 18 [(0, .ref 43), (1, .int x1), (2, .int x2), (3, .int x3), (4, .int x4), (5, .int (x5 + 1)), (6, .int v3), (7, .int (x7 + 1))] [] h2
  else
    q_go e_38 X O n 18 [(0, .ref 43), (1, .int x1), (2, .int x2), (3, .int x3), (4, .int x4), (5, .int x5), (6, .int x6), (7, .int (x7 + 1))] [] h2)) := by rfl
-- WhirlShafts$Rates.addRow(IJJ)V with (43, None, None, None)
set_option maxRecDepth 20000 in
theorem b39_0 (X : q_X) (O : q_O) (n : Nat) (h : q_S) (x1 : Int32) (x2 : Int64) (x3 : Int64) : q_go e_39 X O (n + 1) 0 [(0, .ref 43), (1, .int x1), (2, .long x2), (4, .long x3)] [] h =
  q_ix x1 9 (fun j1 =>
  if 0 < x1 then
    q_go e_39 X O n 23 [(0, .ref 43), (1, .int x1), (2, .long x2), (4, .long x3), (6, .ref (q_rf 47 j1))] [.int (x1 - 1), .ref 47] h
  else
    q_go e_39 X O n 23 [(0, .ref 43), (1, .int x1), (2, .long x2), (4, .long x3), (6, .ref (q_rf 47 j1))] [.int 0, .ref 47] h) := by rfl
set_option maxRecDepth 20000 in
theorem b39_23 (X : q_X) (O : q_O) (n : Nat) (h : q_S) (x1 : Int32) (x2 : Int64) (x4 : Int64) (x6 : Nat) (s0 : Int32) : q_go e_39 X O (n + 1) 23 [(0, .ref 43), (1, .int x1), (2, .long x2), (4, .long x4), (6, .ref x6)] [.int s0, .ref 47] h =
  q_ix s0 9 (fun j1 =>
  q_ix (x1 + 1) 9 (fun j2 =>
  q_go e_39 X O n 42 [(1, .int x1), (2, .long x2), (4, .long x4), (6, .ref x6), (7, .ref (q_rf 47 j1)), (8, .ref (q_rf 47 j2)), (9, .long (Int64.ofNat 0)), (11, .int 0)] [] h)) := by rfl
set_option maxRecDepth 20000 in
theorem b39_42 (X : q_X) (O : q_O) (n : Nat) (h : q_S) (x1 : Int32) (x2 : Int64) (x4 : Int64) (x6 : Nat) (x7 : Nat) (x8 : Nat) (x9 : Int64) (x11 : Int32) : q_go e_39 X O (n + 1) 42 [(1, .int x1), (2, .long x2), (4, .long x4), (6, .ref x6), (7, .ref x7), (8, .ref x8), (9, .long x9), (11, .int x11)] [] h =
  if x1 < x11 then
    q_b (Nat.beq (q_ty x8) 1) (q_ix (x1 + 1) (q_ln x8) (fun j1 =>
    some ((q_sl h x8 j1 x9), none)))
  else
    q_b (Nat.beq (q_ty x6) 1) (q_ix x11 (q_ln x6) (fun j2 =>
    q_b (Nat.beq (q_ty x7) 1) (q_ix x11 (q_ln x7) (fun j3 =>
    q_b (Nat.beq (q_ty x8) 1) (q_ix x11 (q_ln x8) (fun j4 =>
    q_go e_39 X O n 42 [(1, .int x1), (2, .long x2), (4, .long x4), (6, .ref x6), (7, .ref x7), (8, .ref x8), (9, .long (((x9 + (x2 * (h.2.1 x6 j2))) - (x4 * (h.2.1 x7 j3))) >>> (((30 : Int32)).toInt64 &&& 63))), (11, .int (x11 + 1))] [] (q_sl h x8 j4 (((x9 + (x2 * (h.2.1 x6 j2))) - (x4 * (h.2.1 x7 j3))) &&& (Int64.ofNat 1073741823))))))))) := by rfl
-- WhirlShafts$Rates.signOfRow(I)I with (43, None)
set_option maxRecDepth 20000 in
theorem b40_0 (X : q_X) (O : q_O) (n : Nat) (h : q_S) (x1 : Int32) : q_go e_40 X O (n + 1) 0 [(0, .ref 43), (1, .int x1)] [] h =
  q_ix x1 9 (fun j1 =>
  q_b (Nat.beq (q_ty (q_rf 47 j1)) 1) (q_ix x1 (q_ln (q_rf 47 j1)) (fun j2 =>
  if (lg_cmp (h.2.1 (q_rf 47 j1) j2) (Int64.ofNat 0)) < 0 then
    some (h, some (.int (-1)))
  else
    q_go e_40 X O n 19 [(1, .int x1), (2, .ref (q_rf 47 j1)), (3, .int 0)] [] h))) := by rfl
set_option maxRecDepth 20000 in
theorem b40_19 (X : q_X) (O : q_O) (n : Nat) (h : q_S) (x1 : Int32) (x2 : Nat) (x3 : Int32) : q_go e_40 X O (n + 1) 19 [(1, .int x1), (2, .ref x2), (3, .int x3)] [] h =
  if x1 < x3 then
    some (h, some (.int 0))
  else
    q_b (Nat.beq (q_ty x2) 1) (q_ix x3 (q_ln x2) (fun j1 =>
    if (lg_cmp (h.2.1 x2 j1) (Int64.ofNat 0)) = 0 then
      q_go e_40 X O n 19 [(1, .int x1), (2, .ref x2), (3, .int (x3 + 1))] [] h
    else
      some (h, some (.int 1)))) := by rfl
-- WhirlShafts$Rates.restOfRow(I)I with (43, None)
set_option maxRecDepth 20000 in
theorem b41_0 (X : q_X) (O : q_O) (n : Nat) (h : q_S) (x1 : Int32) : q_go e_41 X O (n + 1) 0 [(0, .ref 43), (1, .int x1)] [] h =
  q_go e_41 X O n 5 [(0, .ref 43), (1, .int x1), (2, .long (Int64.ofNat 0)), (4, .int x1)] [] h := by rfl
set_option maxRecDepth 20000 in
theorem b41_5 (X : q_X) (O : q_O) (n : Nat) (h : q_S) (x1 : Int32) (x2 : Int64) (x4 : Int32) : q_go e_41 X O (n + 1) 5 [(0, .ref 43), (1, .int x1), (2, .long x2), (4, .int x4)] [] h =
  if x4 < 0 then
    some (h, some (.int (((x2 : Int64)).toInt32)))
  else
    q_ix x1 9 (fun j1 =>
    q_b (Nat.beq (q_ty (q_rf 47 j1)) 1) (q_ix x4 (q_ln (q_rf 47 j1)) (fun j2 =>
    q_c3 (O 209 h [.long ((x2 <<< (((30 : Int32)).toInt64 &&& 63)) + (h.2.1 (q_rf 47 j1) j2)), .long (Int64.ofNat 10007)]) (fun h3 v4 =>
    q_go e_41 X O n 5 [(0, .ref 43), (1, .int x1), (2, .long v4), (4, .int (x4 + (-1)))] [] h3)))) := by rfl
-- WhirlShafts$Rates.highest()I with (43,)
set_option maxRecDepth 20000 in
theorem b42_0 (X : q_X) (O : q_O) (n : Nat) (h : q_S)  : q_go e_42 X O (n + 1) 0 [(0, .ref 43)] [] h =
  if (h.1 43 0) = 0 then
    some (h, some (.int 0))
  else
    q_go e_42 X O n 13 [(0, .ref 43), (1, .long (Int64.ofNat 0)), (3, .int 0)] [] h := by rfl
set_option maxRecDepth 20000 in
theorem b42_13 (X : q_X) (O : q_O) (n : Nat) (h : q_S) (x1 : Int64) (x3 : Int32) : q_go e_42 X O (n + 1) 13 [(0, .ref 43), (1, .long x1), (3, .int x3)] [] h =
  if x3 < (h.1 43 0) then
    q_ix x3 8 (fun j1 =>
    if 0 < (lg_cmp (h.2.1 44 j1) (Int64.ofNat 0)) then
      q_ix x3 8 (fun j2 =>
      q_ix x3 8 (fun j3 =>
      if (h.2.1 44 j3) = 0 then none else
      q_c3 (O 210 h [.long x1, .long (((Int64.ofNat 2) * (h.2.1 45 j2)) / (h.2.1 44 j3))]) (fun h4 v5 =>
      q_go e_42 X O n 13 [(0, .ref 43), (1, .long v5), (3, .int (x3 + 1))] [] h4)))
    else
      q_go e_42 X O n 13 [(0, .ref 43), (1, .long x1), (3, .int (x3 + 1))] [] h)
  else
    some (h, some (.int (((((Int64.ofNat 1) + x1) : Int64)).toInt32))) := by rfl
-- WhirlShafts$Rates.fenceOf(II)I with (43, None, None)
set_option maxRecDepth 20000 in
theorem b43_0 (X : q_X) (O : q_O) (n : Nat) (h : q_S) (x1 : Int32) (x2 : Int32) : q_go e_43 X O (n + 1) 0 [(0, .ref 43), (1, .int x1), (2, .int x2)] [] h =
  q_c1 (O 42 h [.ref 43]) (fun h1 v2 =>
  q_go e_43 X O n 15 [(0, .ref 43), (1, .int x1), (2, .int x2), (3, .int (v2 * x2)), (4, .int 0), (5, .int 8192)] [] h1) := by rfl
set_option maxRecDepth 20000 in
theorem b43_15 (X : q_X) (O : q_O) (n : Nat) (h : q_S) (x1 : Int32) (x2 : Int32) (x3 : Int32) (x4 : Int32) (x5 : Int32) : q_go e_43 X O (n + 1) 15 [(0, .ref 43), (1, .int x1), (2, .int x2), (3, .int x3), (4, .int x4), (5, .int x5)] [] h =
  if 0 < x5 then
    if x3 < (x4 + x5) then
      q_go e_43 X O n 15 [(0, .ref 43), (1, .int x1), (2, .int x2), (3, .int x3), (4, .int x4), (5, .int (x5 >>> (1 &&& 31)))] [] h
    else
      q_c1 (O 37 h [.ref 43, .int (x4 + x5), .int x2]) (fun h1 v2 =>
      if x1 < v2 then
        q_go e_43 X O n 15 [(0, .ref 43), (1, .int x1), (2, .int x2), (3, .int x3), (4, .int x4), (5, .int (x5 >>> (1 &&& 31)))] [] h1
      else
        q_go e_43 X O n 15 [(0, .ref 43), (1, .int x1), (2, .int x2), (3, .int x3), (4, .int (x4 + x5)), (5, .int (x5 >>> (1 &&& 31)))] [] h1)
  else
    some (h, some (.int x4)) := by rfl
-- WhirlShafts$Rates.fenceIs(IIJ)Z with (43, None, None, None)
set_option maxRecDepth 20000 in
theorem b44_0 (X : q_X) (O : q_O) (n : Nat) (h : q_S) (x1 : Int32) (x2 : Int32) (x3 : Int64) : q_go e_44 X O (n + 1) 0 [(0, .ref 43), (1, .int x1), (2, .int x2), (3, .long x3)] [] h =
  if (lg_cmp x3 (Int64.ofNat 0)) < 0 then
    some (h, some (.int 0))
  else
    if 0 < (lg_cmp x3 (Int64.ofNat 9999)) then
      some (h, some (.int 0))
    else
      q_c1 (O 37 h [.ref 43, .int (((x3 : Int64)).toInt32), .int x2]) (fun h1 v2 =>
      if x1 < v2 then
        some (h1, some (.int 0))
      else
        q_c1 (O 37 h1 [.ref 43, .int (((x3 : Int64)).toInt32 + 1), .int x2]) (fun h3 v4 =>
        if x1 < v4 then
          some (h3, some (.int 1))
        else
          some (h3, some (.int 0)))) := by rfl
-- WhirlShafts$Rates.between(III)I with (43, None, None, None)
set_option maxRecDepth 20000 in
theorem b45_0 (X : q_X) (O : q_O) (n : Nat) (h : q_S) (x1 : Int32) (x2 : Int32) (x3 : Int32) : q_go e_45 X O (n + 1) 0 [(0, .ref 43), (1, .int x1), (2, .int x2), (3, .int x3)] [] h =
  q_c1 (O 37 h [.ref 43, .int x2, .int x3]) (fun h1 v2 =>
  q_c1 (O 37 h1 [.ref 43, .int x1, .int x3]) (fun h3 v4 =>
  some (h3, some (.int (v2 - v4))))) := by rfl
-- WhirlShafts$Rim.weighs(II)I with (3, None, None)
set_option maxRecDepth 20000 in
theorem b46_0 (X : q_X) (O : q_O) (n : Nat) (h : q_S) (x1 : Int32) (x2 : Int32) : q_go e_46 X O (n + 1) 0 [(0, .ref 3), (1, .int x1), (2, .int x2)] [] h =
  some (h, some (.int (x1 * 2))) := by rfl
-- WhirlShafts$Rim.weighs(II)I with (5, None, None)
set_option maxRecDepth 20000 in
theorem b46_0_1 (X : q_X) (O : q_O) (n : Nat) (h : q_S) (x1 : Int32) (x2 : Int32) : q_go e_46 X O (n + 1) 0 [(0, .ref 5), (1, .int x1), (2, .int x2)] [] h =
  some (h, some (.int (x1 * 2))) := by rfl
-- WhirlShafts$Rim.swings(I)I with (3, None)
set_option maxRecDepth 20000 in
theorem b47_0 (X : q_X) (O : q_O) (n : Nat) (h : q_S) (x1 : Int32) : q_go e_47 X O (n + 1) 0 [(0, .ref 3), (1, .int x1)] [] h =
  q_c0 (O 9 h [.ref 3, .int 20]) (fun h1 =>
  q_c1 (O 12 h1 [.ref 3, .int x1]) (fun h2 v3 =>
  some (h2, some (.int (v3 ^^^ 3))))) := by rfl
-- WhirlShafts$Rim.swings(I)I with (5, None)
set_option maxRecDepth 20000 in
theorem b47_0_1 (X : q_X) (O : q_O) (n : Nat) (h : q_S) (x1 : Int32) : q_go e_47 X O (n + 1) 0 [(0, .ref 5), (1, .int x1)] [] h =
  q_c0 (O 9 h [.ref 5, .int 20]) (fun h1 =>
  q_c1 (O 12 h1 [.ref 5, .int x1]) (fun h2 v3 =>
  some (h2, some (.int (v3 ^^^ 3))))) := by rfl
-- WhirlShafts$Row.isMissing()Z with (61,)
set_option maxRecDepth 20000 in
theorem b48_0 (X : q_X) (O : q_O) (n : Nat) (h : q_S)  : q_go e_48 X O (n + 1) 0 [(0, .ref 61)] [] h =
  if (h.1 61 1) = (-1) then
    some (h, some (.int 1))
  else
    some (h, some (.int 0)) := by rfl
-- WhirlShafts$Row.isMissing()Z with (62,)
set_option maxRecDepth 20000 in
theorem b48_0_1 (X : q_X) (O : q_O) (n : Nat) (h : q_S)  : q_go e_48 X O (n + 1) 0 [(0, .ref 62)] [] h =
  if (h.1 62 1) = (-1) then
    some (h, some (.int 1))
  else
    some (h, some (.int 0)) := by rfl
-- WhirlShafts$Row.isMissing()Z with (63,)
set_option maxRecDepth 20000 in
theorem b48_0_2 (X : q_X) (O : q_O) (n : Nat) (h : q_S)  : q_go e_48 X O (n + 1) 0 [(0, .ref 63)] [] h =
  if (h.1 63 1) = (-1) then
    some (h, some (.int 1))
  else
    some (h, some (.int 0)) := by rfl
-- WhirlShafts$Row.become(II)V with (61, None, None)
set_option maxRecDepth 20000 in
theorem b49_0 (X : q_X) (O : q_O) (n : Nat) (h : q_S) (x1 : Int32) (x2 : Int32) : q_go e_49 X O (n + 1) 0 [(0, .ref 61), (1, .int x1), (2, .int x2)] [] h =
  q_go e_49 X O n 12 [(0, .ref 61), (3, .int 0)] [] (q_si (q_si h 61 1 x1) 61 2 x2) := by rfl
set_option maxRecDepth 20000 in
theorem b49_12 (X : q_X) (O : q_O) (n : Nat) (h : q_S) (x3 : Int32) : q_go e_49 X O (n + 1) 12 [(0, .ref 61), (3, .int x3)] [] h =
  if x3 < 40 then
    q_ix x3 40 (fun j1 =>
    q_go e_49 X O n 12 [(0, .ref 61), (3, .int (x3 + 1))] [] (q_sl h 64 j1 (Int64.ofNat 0)))
  else
    some (h, none) := by rfl
-- WhirlShafts$Row.become(II)V with (62, None, None)
set_option maxRecDepth 20000 in
theorem b49_0_1 (X : q_X) (O : q_O) (n : Nat) (h : q_S) (x1 : Int32) (x2 : Int32) : q_go e_49 X O (n + 1) 0 [(0, .ref 62), (1, .int x1), (2, .int x2)] [] h =
  q_go e_49 X O n 12 [(0, .ref 62), (3, .int 0)] [] (q_si (q_si h 62 1 x1) 62 2 x2) := by rfl
set_option maxRecDepth 20000 in
theorem b49_12_1 (X : q_X) (O : q_O) (n : Nat) (h : q_S) (x3 : Int32) : q_go e_49 X O (n + 1) 12 [(0, .ref 62), (3, .int x3)] [] h =
  if x3 < 40 then
    q_ix x3 40 (fun j1 =>
    q_go e_49 X O n 12 [(0, .ref 62), (3, .int (x3 + 1))] [] (q_sl h 65 j1 (Int64.ofNat 0)))
  else
    some (h, none) := by rfl
-- WhirlShafts$Row.become(II)V with (63, None, None)
set_option maxRecDepth 20000 in
theorem b49_0_2 (X : q_X) (O : q_O) (n : Nat) (h : q_S) (x1 : Int32) (x2 : Int32) : q_go e_49 X O (n + 1) 0 [(0, .ref 63), (1, .int x1), (2, .int x2)] [] h =
  q_go e_49 X O n 12 [(0, .ref 63), (3, .int 0)] [] (q_si (q_si h 63 1 x1) 63 2 x2) := by rfl
set_option maxRecDepth 20000 in
theorem b49_12_2 (X : q_X) (O : q_O) (n : Nat) (h : q_S) (x3 : Int32) : q_go e_49 X O (n + 1) 12 [(0, .ref 63), (3, .int x3)] [] h =
  if x3 < 40 then
    q_ix x3 40 (fun j1 =>
    q_go e_49 X O n 12 [(0, .ref 63), (3, .int (x3 + 1))] [] (q_sl h 66 j1 (Int64.ofNat 0)))
  else
    some (h, none) := by rfl
-- WhirlShafts$Row.hasPlace(I)Z with (61, None)
set_option maxRecDepth 20000 in
theorem b50_0 (X : q_X) (O : q_O) (n : Nat) (h : q_S) (x1 : Int32) : q_go e_50 X O (n + 1) 0 [(0, .ref 61), (1, .int x1)] [] h =
  if x1 < 0 then
    some (h, some (.int 0))
  else
    if x1 < (h.1 61 2) then
      some (h, some (.int 1))
    else
      some (h, some (.int 0)) := by rfl
-- WhirlShafts$Row.hasPlace(I)Z with (62, None)
set_option maxRecDepth 20000 in
theorem b50_0_1 (X : q_X) (O : q_O) (n : Nat) (h : q_S) (x1 : Int32) : q_go e_50 X O (n + 1) 0 [(0, .ref 62), (1, .int x1)] [] h =
  if x1 < 0 then
    some (h, some (.int 0))
  else
    if x1 < (h.1 62 2) then
      some (h, some (.int 1))
    else
      some (h, some (.int 0)) := by rfl
-- WhirlShafts$Row.hasPlace(I)Z with (63, None)
set_option maxRecDepth 20000 in
theorem b50_0_2 (X : q_X) (O : q_O) (n : Nat) (h : q_S) (x1 : Int32) : q_go e_50 X O (n + 1) 0 [(0, .ref 63), (1, .int x1)] [] h =
  if x1 < 0 then
    some (h, some (.int 0))
  else
    if x1 < (h.1 63 2) then
      some (h, some (.int 1))
    else
      some (h, some (.int 0)) := by rfl
-- WhirlShafts$Row.hasSpan(II)Z with (61, None, None)
set_option maxRecDepth 20000 in
theorem b51_0 (X : q_X) (O : q_O) (n : Nat) (h : q_S) (x1 : Int32) (x2 : Int32) : q_go e_51 X O (n + 1) 0 [(0, .ref 61), (1, .int x1), (2, .int x2)] [] h =
  if x2 < 0 then
    some (h, some (.int 0))
  else
    if x1 < 0 then
      some (h, some (.int 0))
    else
      if (h.1 61 2) < x2 then
        some (h, some (.int 0))
      else
        if ((h.1 61 2) - x2) < x1 then
          some (h, some (.int 0))
        else
          some (h, some (.int 1)) := by rfl
-- WhirlShafts$Row.hasSpan(II)Z with (62, None, None)
set_option maxRecDepth 20000 in
theorem b51_0_1 (X : q_X) (O : q_O) (n : Nat) (h : q_S) (x1 : Int32) (x2 : Int32) : q_go e_51 X O (n + 1) 0 [(0, .ref 62), (1, .int x1), (2, .int x2)] [] h =
  if x2 < 0 then
    some (h, some (.int 0))
  else
    if x1 < 0 then
      some (h, some (.int 0))
    else
      if (h.1 62 2) < x2 then
        some (h, some (.int 0))
      else
        if ((h.1 62 2) - x2) < x1 then
          some (h, some (.int 0))
        else
          some (h, some (.int 1)) := by rfl
-- WhirlShafts$Row.hasSpan(II)Z with (63, None, None)
set_option maxRecDepth 20000 in
theorem b51_0_2 (X : q_X) (O : q_O) (n : Nat) (h : q_S) (x1 : Int32) (x2 : Int32) : q_go e_51 X O (n + 1) 0 [(0, .ref 63), (1, .int x1), (2, .int x2)] [] h =
  if x2 < 0 then
    some (h, some (.int 0))
  else
    if x1 < 0 then
      some (h, some (.int 0))
    else
      if (h.1 63 2) < x2 then
        some (h, some (.int 0))
      else
        if ((h.1 63 2) - x2) < x1 then
          some (h, some (.int 0))
        else
          some (h, some (.int 1)) := by rfl
-- WhirlShafts$Row.store(IJ)V with (61, None, None)
set_option maxRecDepth 20000 in
theorem b52_0 (X : q_X) (O : q_O) (n : Nat) (h : q_S) (x1 : Int32) (x2 : Int64) : q_go e_52 X O (n + 1) 0 [(0, .ref 61), (1, .int x1), (2, .long x2)] [] h =
  if (h.1 61 1) = 0 then
    q_ix x1 40 (fun j1 =>
    some ((q_sl h 64 j1 (((((((x2 : Int64)).toInt32 : Int32)).toInt8.toInt32 : Int32)).toInt64)), none))
  else
    if (h.1 61 1) = 1 then
      q_ix x1 40 (fun j2 =>
      some ((q_sl h 64 j2 (((((x2 : Int64)).toInt32 : Int32)).toInt64)), none))
    else
      q_ix x1 40 (fun j3 =>
      some ((q_sl h 64 j3 x2), none)) := by rfl
-- WhirlShafts$Row.store(IJ)V with (62, None, None)
set_option maxRecDepth 20000 in
theorem b52_0_1 (X : q_X) (O : q_O) (n : Nat) (h : q_S) (x1 : Int32) (x2 : Int64) : q_go e_52 X O (n + 1) 0 [(0, .ref 62), (1, .int x1), (2, .long x2)] [] h =
  if (h.1 62 1) = 0 then
    q_ix x1 40 (fun j1 =>
    some ((q_sl h 65 j1 (((((((x2 : Int64)).toInt32 : Int32)).toInt8.toInt32 : Int32)).toInt64)), none))
  else
    if (h.1 62 1) = 1 then
      q_ix x1 40 (fun j2 =>
      some ((q_sl h 65 j2 (((((x2 : Int64)).toInt32 : Int32)).toInt64)), none))
    else
      q_ix x1 40 (fun j3 =>
      some ((q_sl h 65 j3 x2), none)) := by rfl
-- WhirlShafts$Row.store(IJ)V with (63, None, None)
set_option maxRecDepth 20000 in
theorem b52_0_2 (X : q_X) (O : q_O) (n : Nat) (h : q_S) (x1 : Int32) (x2 : Int64) : q_go e_52 X O (n + 1) 0 [(0, .ref 63), (1, .int x1), (2, .long x2)] [] h =
  if (h.1 63 1) = 0 then
    q_ix x1 40 (fun j1 =>
    some ((q_sl h 66 j1 (((((((x2 : Int64)).toInt32 : Int32)).toInt8.toInt32 : Int32)).toInt64)), none))
  else
    if (h.1 63 1) = 1 then
      q_ix x1 40 (fun j2 =>
      some ((q_sl h 66 j2 (((((x2 : Int64)).toInt32 : Int32)).toInt64)), none))
    else
      q_ix x1 40 (fun j3 =>
      some ((q_sl h 66 j3 x2), none)) := by rfl
-- WhirlShafts$Shell.weighs(II)I with (6, None, None)
set_option maxRecDepth 20000 in
theorem b53_0 (X : q_X) (O : q_O) (n : Nat) (h : q_S) (x1 : Int32) (x2 : Int32) : q_go e_53 X O (n + 1) 0 [(0, .ref 6), (1, .int x1), (2, .int x2)] [] h =
  q_c1 (O 14 h [.ref 6, .int x1, .int x2]) (fun h1 v2 =>
  if 2 = 0 then none else
  q_c1 (O 208 h1 [.int 1, .int (v2 - (x2 / 2))]) (fun h3 v4 =>
  some (h3, some (.int v4)))) := by rfl
-- WhirlShafts$Shell.swings(I)I with (6, None)
set_option maxRecDepth 20000 in
theorem b54_0 (X : q_X) (O : q_O) (n : Nat) (h : q_S) (x1 : Int32) : q_go e_54 X O (n + 1) 0 [(0, .ref 6), (1, .int x1)] [] h =
  q_c0 (O 9 h [.ref 6, .int 50]) (fun h1 =>
  q_c1 (O 12 h1 [.ref 6, .int x1]) (fun h2 v3 =>
  q_c1 (O 15 h2 [.ref 6, .int 2]) (fun h4 v5 =>
  some (h4, some (.int (v3 + v5)))))) := by rfl
-- WhirlShafts$Tape.add(I)I with (57, None)
set_option maxRecDepth 20000 in
theorem b55_0 (X : q_X) (O : q_O) (n : Nat) (h : q_S) (x1 : Int32) : q_go e_55 X O (n + 1) 0 [(0, .ref 57), (1, .int x1)] [] h =
  q_ix (h.1 57 1) 80 (fun j1 =>
  some ((q_si (q_si h 58 j1 x1) 57 1 ((h.1 57 1) + 1)), some (.int ((h.1 57 1) + 1)))) := by rfl
-- WhirlShafts$Tape.numbersBehind(I)I with (None,)
set_option maxRecDepth 20000 in
theorem b56_0 (X : q_X) (O : q_O) (n : Nat) (h : q_S) (x0 : Int32) : q_go e_56 X O (n + 1) 0 [(0, .int x0)] [] h =
  if x0 = 98 then
    some (h, some (.int 2))
  else if x0 = 99 then
    some (h, some (.int (-1)))
  else if x0 = 100 then
    some (h, some (.int 3))
  else if x0 = 101 then
    some (h, some (.int (-1)))
  else if x0 = 102 then
    some (h, some (.int (-1)))
  else if x0 = 103 then
    some (h, some (.int 2))
  else if x0 = 104 then
    some (h, some (.int (-1)))
  else if x0 = 105 then
    some (h, some (.int 2))
  else if x0 = 106 then
    some (h, some (.int (-1)))
  else if x0 = 107 then
    some (h, some (.int 2))
  else if x0 = 108 then
    some (h, some (.int (-1)))
  else if x0 = 109 then
    some (h, some (.int (-1)))
  else if x0 = 110 then
    some (h, some (.int 1))
  else if x0 = 111 then
    some (h, some (.int (-1)))
  else if x0 = 112 then
    some (h, some (.int (-1)))
  else if x0 = 113 then
    some (h, some (.int (-1)))
  else if x0 = 114 then
    some (h, some (.int (-1)))
  else if x0 = 115 then
    some (h, some (.int (-1)))
  else if x0 = 116 then
    some (h, some (.int (-1)))
  else if x0 = 117 then
    some (h, some (.int (-1)))
  else if x0 = 118 then
    some (h, some (.int (-1)))
  else if x0 = 119 then
    some (h, some (.int 1))
  else if x0 = 120 then
    some (h, some (.int 0))
  else 
    some (h, some (.int (-1))) := by rfl
-- WhirlShafts$Tape.isFigure(I)Z with (None,)
set_option maxRecDepth 20000 in
theorem b57_0 (X : q_X) (O : q_O) (n : Nat) (h : q_S) (x0 : Int32) : q_go e_57 X O (n + 1) 0 [(0, .int x0)] [] h =
  if x0 < 48 then
    some (h, some (.int 0))
  else
    if 57 < x0 then
      some (h, some (.int 0))
    else
      some (h, some (.int 1)) := by rfl
-- WhirlShafts$Tape.fault()I with (57,)
set_option maxRecDepth 20000 in
theorem b58_0 (X : q_X) (O : q_O) (n : Nat) (h : q_S)  : q_go e_58 X O (n + 1) 0 [(0, .ref 57)] [] h =
  q_go e_58 X O n 6 [(0, .ref 57), (1, .int 0), (2, .int 0), (3, .int 0)] [] h := by rfl
set_option maxRecDepth 20000 in
theorem b58_6 (X : q_X) (O : q_O) (n : Nat) (h : q_S) (x1 : Int32) (x2 : Int32) (x3 : Int32) : q_go e_58 X O (n + 1) 6 [(0, .ref 57), (1, .int x1), (2, .int x2), (3, .int x3)] [] h =
  if x3 < (h.1 57 1) then
    q_ix x3 80 (fun j1 =>
    if x1 = 0 then
      q_c1 (O 56 h [.int (h.1 58 j1)]) (fun h2 v3 =>
      if v3 < 0 then
        some (h2, some (.int x3))
      else
        if v3 = 0 then
          q_go e_58 X O n 6 [(0, .ref 57), (1, .int 3), (2, .int v3), (3, .int (x3 + 1))] [] h2
        else
          q_go e_58 X O n 6 [(0, .ref 57), (1, .int 1), (2, .int v3), (3, .int (x3 + 1))] [] h2)
    else
      if x1 = 1 then
        q_c1 (O 57 h [.int (h.1 58 j1)]) (fun h4 v5 =>
        if v5 = 0 then
          some (h4, some (.int x3))
        else
          q_go e_58 X O n 6 [(0, .ref 57), (1, .int 2), (2, .int (x2 + (-1))), (3, .int (x3 + 1))] [] h4)
      else
        if x1 = 2 then
          q_c1 (O 57 h [.int (h.1 58 j1)]) (fun h6 v7 =>
          if v7 = 0 then
            q_go e_58 X O n 92 [(0, .ref 57), (2, .int x2), (3, .int x3), (4, .int (h.1 58 j1))] [] h6
          else
            q_go e_58 X O n 6 [(0, .ref 57), (1, .int 3), (2, .int x2), (3, .int (x3 + 1))] [] h6)
        else
          q_go e_58 X O n 92 [(0, .ref 57), (2, .int x2), (3, .int x3), (4, .int (h.1 58 j1))] [] h)
  else
    if x1 < 2 then
      if 0 = 0 then
        some (h, some (.int (h.1 57 1)))
      else
        some (h, some (.int (-1)))
    else
      if x2 = 0 then
        if 1 = 0 then
          some (h, some (.int (h.1 57 1)))
        else
          some (h, some (.int (-1)))
      else
        if 0 = 0 then
          some (h, some (.int (h.1 57 1)))
        else
          some (h, some (.int (-1))) := by rfl
set_option maxRecDepth 20000 in
theorem b58_92 (X : q_X) (O : q_O) (n : Nat) (h : q_S) (x2 : Int32) (x3 : Int32) (x4 : Int32) : q_go e_58 X O (n + 1) 92 [(0, .ref 57), (2, .int x2), (3, .int x3), (4, .int x4)] [] h =
  if 0 < x2 then
    if x4 = 44 then
      if 0 < x2 then
        q_go e_58 X O n 6 [(0, .ref 57), (1, .int 1), (2, .int x2), (3, .int (x3 + 1))] [] h
      else
        q_go e_58 X O n 6 [(0, .ref 57), (1, .int 0), (2, .int x2), (3, .int (x3 + 1))] [] h
    else
      some (h, some (.int x3))
  else
    if x4 = 59 then
      if 0 < x2 then
        q_go e_58 X O n 6 [(0, .ref 57), (1, .int 1), (2, .int x2), (3, .int (x3 + 1))] [] h
      else
        q_go e_58 X O n 6 [(0, .ref 57), (1, .int 0), (2, .int x2), (3, .int (x3 + 1))] [] h
    else
      some (h, some (.int x3)) := by rfl
-- WhirlShafts$Tape.nextAct()I with (57,)
set_option maxRecDepth 20000 in
theorem b59_0 (X : q_X) (O : q_O) (n : Nat) (h : q_S)  : q_go e_59 X O (n + 1) 0 [(0, .ref 57)] [] h =
  q_ix (h.1 57 2) 80 (fun j1 =>
  q_c1 (O 56 h [.int (h.1 58 j1)]) (fun h2 v3 =>
  q_go e_59 X O n 27 [(0, .ref 57), (1, .int (h.1 58 j1)), (2, .int v3), (3, .int 0)] [] (q_si h2 57 2 ((h2.1 57 2) + 1)))) := by rfl
set_option maxRecDepth 20000 in
theorem b59_27 (X : q_X) (O : q_O) (n : Nat) (h : q_S) (x1 : Int32) (x2 : Int32) (x3 : Int32) : q_go e_59 X O (n + 1) 27 [(0, .ref 57), (1, .int x1), (2, .int x2), (3, .int x3)] [] h =
  if x3 < x2 then
    if x3 < (Int32.ofNat 3) then
      q_c1 (O 60 h [.ref 57]) (fun h1 v2 =>
      q_ix x3 3 (fun j3 =>
      q_go e_59 X O n 27 [(0, .ref 57), (1, .int x1), (2, .int x2), (3, .int (x3 + 1))] [] (q_si h1 59 j3 v2)))
    else
      q_go e_59 X O n 57 [(0, .ref 57), (1, .int x1), (2, .int x2)] [] h
  else
    q_go e_59 X O n 57 [(0, .ref 57), (1, .int x1), (2, .int x2)] [] h := by rfl
set_option maxRecDepth 20000 in
theorem b59_57 (X : q_X) (O : q_O) (n : Nat) (h : q_S) (x1 : Int32) (x2 : Int32) : q_go e_59 X O (n + 1) 57 [(0, .ref 57), (1, .int x1), (2, .int x2)] [] h =
  if x2 = 0 then
    some ((q_si h 57 2 ((h.1 57 2) + 1)), some (.int x1))
  else
    some (h, some (.int x1)) := by rfl
-- WhirlShafts$Tape.nextNumber()I with (57,)
set_option maxRecDepth 20000 in
theorem b60_0 (X : q_X) (O : q_O) (n : Nat) (h : q_S)  : q_go e_60 X O (n + 1) 0 [(0, .ref 57)] [] h =
  q_go e_60 X O n 2 [(0, .ref 57), (1, .int 0)] [] h := by rfl
set_option maxRecDepth 20000 in
theorem b60_2 (X : q_X) (O : q_O) (n : Nat) (h : q_S) (x1 : Int32) : q_go e_60 X O (n + 1) 2 [(0, .ref 57), (1, .int x1)] [] h =
  if (h.1 57 2) < (h.1 57 1) then
    q_ix (h.1 57 2) 80 (fun j1 =>
    q_c1 (O 57 h [.int (h.1 58 j1)]) (fun h2 v3 =>
    if v3 = 0 then
      some ((q_si h2 57 2 ((h2.1 57 2) + 1)), some (.int x1))
    else
      q_ix (h2.1 57 2) 80 (fun j4 =>
      q_go e_60 X O n 2 [(0, .ref 57), (1, .int (((x1 * 10) + (h2.1 58 j4)) - 48))] [] (q_si h2 57 2 ((h2.1 57 2) + 1)))))
  else
    some ((q_si h 57 2 ((h.1 57 2) + 1)), some (.int x1)) := by rfl
-- WhirlShafts.disc(III)I with (0, None, None, None)
set_option maxRecDepth 20000 in
theorem b61_0 (X : q_X) (O : q_O) (n : Nat) (h : q_S) (x1 : Int32) (x2 : Int32) (x3 : Int32) : q_go e_61 X O (n + 1) 0 [(0, .ref 0), (1, .int x1), (2, .int x2), (3, .int x3)] [] h =
  q_c1 (O 104 h [.int x1]) (fun h1 v2 =>
  if v2 = 0 then
    some (h1, some (.int (-1)))
  else
    q_c1 (O 105 h1 [.int 0, .int x2]) (fun h3 v4 =>
    if v4 = 0 then
      some (h3, some (.int (-1)))
    else
      if 0 < (h3.1 12 6) then
        q_c1 (O 105 h3 [.int 1, .int x3]) (fun h5 v6 =>
        if v6 = 0 then
          some (h5, some (.int (-1)))
        else
          q_go e_61 X O n 37 [(0, .ref 0), (1, .int x1), (2, .int x2), (3, .int x3)] [] h5)
      else
        q_go e_61 X O n 37 [(0, .ref 0), (1, .int x1), (2, .int x2), (3, .int x3)] [] h3)) := by rfl
set_option maxRecDepth 20000 in
theorem b61_37 (X : q_X) (O : q_O) (n : Nat) (h : q_S) (x1 : Int32) (x2 : Int32) (x3 : Int32) : q_go e_61 X O (n + 1) 37 [(0, .ref 0), (1, .int x1), (2, .int x2), (3, .int x3)] [] h =
  if (h.1 12 6) < 8 then
    q_c0 (O 0 h [.ref 38]) (fun h1 =>
    q_c1 (O 17 h1 [.ref 12, .int x1, .int x2, .int x3]) (fun h2 v3 =>
    some (h2, some (.int v3))))
  else
    some (h, some (.int (-3))) := by rfl
-- WhirlShafts.cut()I with (0,)
set_option maxRecDepth 20000 in
theorem b62_0 (X : q_X) (O : q_O) (n : Nat) (h : q_S)  : q_go e_62 X O (n + 1) 0 [(0, .ref 0)] [] h =
  if (h.1 12 6) = 0 then
    some (h, some (.int (-5)))
  else
    q_c0 (O 0 h [.ref 38]) (fun h1 =>
    some ((q_si h1 12 6 ((h1.1 12 6) - 1)), some (.int ((h1.1 12 6) - 1)))) := by rfl
-- WhirlShafts.clear()I with (0,)
set_option maxRecDepth 20000 in
theorem b63_0 (X : q_X) (O : q_O) (n : Nat) (h : q_S)  : q_go e_63 X O (n + 1) 0 [(0, .ref 0)] [] h =
  q_c0 (O 0 h [.ref 38]) (fun h1 =>
  some ((q_si (q_si (q_si h1 12 6 0) 12 7 0) 12 8 0), some (.int (h.1 12 6)))) := by rfl
-- WhirlShafts.set(III)I with (0, None, None, None)
set_option maxRecDepth 20000 in
theorem b64_0 (X : q_X) (O : q_O) (n : Nat) (h : q_S) (x1 : Int32) (x2 : Int32) (x3 : Int32) : q_go e_64 X O (n + 1) 0 [(0, .ref 0), (1, .int x1), (2, .int x2), (3, .int x3)] [] h =
  q_c1 (O 22 h [.ref 12, .int x1, .int x2, .int x3]) (fun h1 v2 =>
  if v2 = 0 then
    q_c1 (O 23 h1 [.ref 12, .int x1, .int x2]) (fun h3 v4 =>
    if v4 = x3 then
      some (h3, some (.int v4))
    else
      q_c0 (O 24 h3 [.ref 12, .int x1, .int x2, .int x3]) (fun h5 =>
      q_c0 (O 1 h5 [.ref 38, .int x1, .int x2, .int v4, .int x3]) (fun h6 =>
      some (h6, some (.int v4)))))
  else
    some (h1, some (.int v2))) := by rfl
-- WhirlShafts.of(II)I with (0, None, None)
set_option maxRecDepth 20000 in
theorem b65_0 (X : q_X) (O : q_O) (n : Nat) (h : q_S) (x1 : Int32) (x2 : Int32) : q_go e_65 X O (n + 1) 0 [(0, .ref 0), (1, .int x1), (2, .int x2)] [] h =
  if 5 < x1 then
    if x1 = 12 then
      q_c1 (O 20 h [.ref 12, .int x2]) (fun h1 v2 =>
      if v2 = 0 then
        some (h1, some (.int (-1)))
      else
        q_c1 (O 31 h1 [.ref 12, .int x2]) (fun h3 v4 =>
        some (h3, some (.int v4))))
    else
      q_c1 (O 19 h [.ref 12, .int x2]) (fun h5 v6 =>
      if v6 = 0 then
        some (h5, some (.int (-1)))
      else
        if x1 = 6 then
          q_ix x2 8 (fun j7 =>
          some (h5, some (.int (h5.1 13 j7))))
        else if x1 = 7 then
          q_c1 (O 28 h5 [.ref 12, .int x2]) (fun h8 v9 =>
          some (h8, some (.int v9)))
        else if x1 = 8 then
          q_c1 (O 29 h5 [.ref 12, .int x2]) (fun h10 v11 =>
          some (h10, some (.int v11)))
        else if x1 = 9 then
          q_c1 (O 30 h5 [.ref 12, .int x2]) (fun h12 v13 =>
          some (h12, some (.int v13)))
        else if x1 = 10 then
          q_c1 (O 27 h5 [.ref 12, .int x2]) (fun h14 v15 =>
          some (h14, some (.int v15)))
        else if x1 = 11 then
          q_c1 (O 32 h5 [.ref 12, .int x2]) (fun h16 v17 =>
          some (h16, some (.int v17)))
        else 
          some (h5, some (.int (-1))))
  else
    q_c1 (O 21 h [.ref 12, .int x1, .int x2]) (fun h18 v19 =>
    if v19 = 0 then
      some (h18, some (.int (-1)))
    else
      q_c1 (O 23 h18 [.ref 12, .int x1, .int x2]) (fun h20 v21 =>
      some (h20, some (.int v21)))) := by rfl
-- WhirlShafts.below(II)I with (0, None, None)
set_option maxRecDepth 20000 in
theorem b66_0 (X : q_X) (O : q_O) (n : Nat) (h : q_S) (x1 : Int32) (x2 : Int32) : q_go e_66 X O (n + 1) 0 [(0, .ref 0), (1, .int x1), (2, .int x2)] [] h =
  q_c1 (O 107 h [.int x1, .int x2]) (fun h1 v2 =>
  if v2 = 0 then
    some (h1, some (.int (-1)))
  else
    q_c0 (O 36 h1 [.ref 43, .ref 12]) (fun h3 =>
    q_c1 (O 37 h3 [.ref 43, .int x1, .int x2]) (fun h4 v5 =>
    some (h4, some (.int v5))))) := by rfl
-- WhirlShafts.isRate(II)I with (0, None, None)
set_option maxRecDepth 20000 in
theorem b67_0 (X : q_X) (O : q_O) (n : Nat) (h : q_S) (x1 : Int32) (x2 : Int32) : q_go e_67 X O (n + 1) 0 [(0, .ref 0), (1, .int x1), (2, .int x2)] [] h =
  q_c1 (O 107 h [.int x1, .int x2]) (fun h1 v2 =>
  if v2 = 0 then
    some (h1, some (.int (-1)))
  else
    q_c0 (O 36 h1 [.ref 43, .ref 12]) (fun h3 =>
    q_c1 (O 37 h3 [.ref 43, .int x1, .int x2]) (fun h4 v5 =>
    q_c1 (O 40 h4 [.ref 43, .int (h4.1 12 6)]) (fun h6 v7 =>
    if v7 = 0 then
      some (h6, some (.int 1))
    else
      some (h6, some (.int 0)))))) := by rfl
-- WhirlShafts.sign(III)I with (0, None, None, None)
set_option maxRecDepth 20000 in
theorem b68_0 (X : q_X) (O : q_O) (n : Nat) (h : q_S) (x1 : Int32) (x2 : Int32) (x3 : Int32) : q_go e_68 X O (n + 1) 0 [(0, .ref 0), (1, .int x1), (2, .int x2), (3, .int x3)] [] h =
  q_c1 (O 19 h [.ref 12, .int x1]) (fun h1 v2 =>
  if v2 = 0 then
    some (h1, some (.int (-1000)))
  else
    q_c1 (O 107 h1 [.int x2, .int x3]) (fun h3 v4 =>
    if v4 = 0 then
      some (h3, some (.int (-1000)))
    else
      q_c0 (O 36 h3 [.ref 43, .ref 12]) (fun h5 =>
      q_c1 (O 38 h5 [.ref 43, .int 0, .int (x1 - 1), .int x2, .int x3]) (fun h6 v7 =>
      q_c1 (O 40 h6 [.ref 43, .int x1]) (fun h8 v9 =>
      some (h8, some (.int v9))))))) := by rfl
-- WhirlShafts.nodes(II)I with (0, None, None)
set_option maxRecDepth 20000 in
theorem b69_0 (X : q_X) (O : q_O) (n : Nat) (h : q_S) (x1 : Int32) (x2 : Int32) : q_go e_69 X O (n + 1) 0 [(0, .ref 0), (1, .int x1), (2, .int x2)] [] h =
  q_c1 (O 107 h [.int x1, .int x2]) (fun h1 v2 =>
  if v2 = 0 then
    some (h1, some (.int (-1)))
  else
    q_c0 (O 36 h1 [.ref 43, .ref 12]) (fun h3 =>
    q_c1 (O 38 h3 [.ref 43, .int 0, .int ((h3.1 12 6) - 2), .int x1, .int x2]) (fun h4 v5 =>
    some (h4, some (.int v5))))) := by rfl
-- WhirlShafts.rest(III)I with (0, None, None, None)
set_option maxRecDepth 20000 in
theorem b70_0 (X : q_X) (O : q_O) (n : Nat) (h : q_S) (x1 : Int32) (x2 : Int32) (x3 : Int32) : q_go e_70 X O (n + 1) 0 [(0, .ref 0), (1, .int x1), (2, .int x2), (3, .int x3)] [] h =
  if x1 < 0 then
    some (h, some (.int (-1)))
  else
    if (h.1 12 6) < x1 then
      some (h, some (.int (-1)))
    else
      q_c1 (O 107 h [.int x2, .int x3]) (fun h1 v2 =>
      if v2 = 0 then
        some (h1, some (.int (-1)))
      else
        q_c0 (O 36 h1 [.ref 43, .ref 12]) (fun h3 =>
        q_c1 (O 38 h3 [.ref 43, .int 0, .int (x1 - 1), .int x2, .int x3]) (fun h4 v5 =>
        q_c1 (O 41 h4 [.ref 43, .int x1]) (fun h6 v7 =>
        some (h6, some (.int v7)))))) := by rfl
-- WhirlShafts.top()I with (0,)
set_option maxRecDepth 20000 in
theorem b71_0 (X : q_X) (O : q_O) (n : Nat) (h : q_S)  : q_go e_71 X O (n + 1) 0 [(0, .ref 0)] [] h =
  q_c0 (O 36 h [.ref 43, .ref 12]) (fun h1 =>
  q_c1 (O 42 h1 [.ref 43]) (fun h2 v3 =>
  some (h2, some (.int v3)))) := by rfl
-- WhirlShafts.fence(II)I with (0, None, None)
set_option maxRecDepth 20000 in
theorem b72_0 (X : q_X) (O : q_O) (n : Nat) (h : q_S) (x1 : Int32) (x2 : Int32) : q_go e_72 X O (n + 1) 0 [(0, .ref 0), (1, .int x1), (2, .int x2)] [] h =
  q_c1 (O 19 h [.ref 12, .int x1]) (fun h1 v2 =>
  if v2 = 0 then
    some (h1, some (.int (-1)))
  else
    q_c1 (O 106 h1 [.int x2]) (fun h3 v4 =>
    if v4 = 0 then
      some (h3, some (.int (-1)))
    else
      q_c1 (O 112 h3 [.ref 0, .ref 12, .int x1, .int x2]) (fun h5 v6 =>
      some (h5, some (.int v6))))) := by rfl
-- WhirlShafts.held(III)I with (0, None, None, None)
set_option maxRecDepth 20000 in
theorem b73_0 (X : q_X) (O : q_O) (n : Nat) (h : q_S) (x1 : Int32) (x2 : Int32) (x3 : Int32) : q_go e_73 X O (n + 1) 0 [(0, .ref 0), (1, .int x1), (2, .int x2), (3, .int x3)] [] h =
  q_c1 (O 19 h [.ref 12, .int x1]) (fun h1 v2 =>
  if v2 = 0 then
    some (h1, some (.int (-1)))
  else
    q_c1 (O 107 h1 [.int x2, .int x3]) (fun h3 v4 =>
    if v4 = 0 then
      some (h3, some (.int (-1)))
    else
      q_c0 (O 36 h3 [.ref 43, .ref 12]) (fun h5 =>
      q_c1 (O 38 h5 [.ref 43, .int 0, .int (x1 - 1), .int x2, .int x3]) (fun h6 v7 =>
      q_c1 (O 38 h6 [.ref 43, .int (x1 + 1), .int ((h6.1 12 6) - 1), .int x2, .int x3]) (fun h8 v9 =>
      some (h8, some (.int (v7 + v9)))))))) := by rfl
-- WhirlShafts.band(III)I with (0, None, None, None)
set_option maxRecDepth 20000 in
theorem b74_0 (X : q_X) (O : q_O) (n : Nat) (h : q_S) (x1 : Int32) (x2 : Int32) (x3 : Int32) : q_go e_74 X O (n + 1) 0 [(0, .ref 0), (1, .int x1), (2, .int x2), (3, .int x3)] [] h =
  q_c1 (O 108 h [.int x1, .int x2, .int x3]) (fun h1 v2 =>
  if v2 = 0 then
    some (h1, some (.int (-1)))
  else
    q_c0 (O 36 h1 [.ref 43, .ref 12]) (fun h3 =>
    q_c1 (O 45 h3 [.ref 43, .int x1, .int x2, .int x3]) (fun h4 v5 =>
    some (h4, some (.int v5))))) := by rfl
-- WhirlShafts.gap(II)I with (0, None, None)
set_option maxRecDepth 20000 in
theorem b75_0 (X : q_X) (O : q_O) (n : Nat) (h : q_S) (x1 : Int32) (x2 : Int32) : q_go e_75 X O (n + 1) 0 [(0, .ref 0), (1, .int x1), (2, .int x2)] [] h =
  q_c1 (O 106 h [.int x1]) (fun h1 v2 =>
  if v2 = 0 then
    some (h1, some (.int (-1)))
  else
    if x2 < 0 then
      some (h1, some (.int (-1)))
    else
      if 1 < x2 then
        some (h1, some (.int (-1)))
      else
        if (h1.1 12 6) < 2 then
          some (h1, some (.int (-2)))
        else
          q_c0 (O 36 h1 [.ref 43, .ref 12]) (fun h3 =>
          q_c1 (O 43 h3 [.ref 43, .int 0, .int x1]) (fun h4 v5 =>
          q_go e_75 X O n 62 [(0, .ref 0), (1, .int x1), (2, .int x2), (3, .int 0), (4, .int (-1)), (5, .int v5), (6, .int 1)] [] h4))) := by rfl
set_option maxRecDepth 20000 in
theorem b75_62 (X : q_X) (O : q_O) (n : Nat) (h : q_S) (x1 : Int32) (x2 : Int32) (x3 : Int32) (x4 : Int32) (x5 : Int32) (x6 : Int32) : q_go e_75 X O (n + 1) 62 [(0, .ref 0), (1, .int x1), (2, .int x2), (3, .int x3), (4, .int x4), (5, .int x5), (6, .int x6)] [] h =
  if x6 < (h.1 12 6) then
    q_c1 (O 43 h [.ref 43, .int x6, .int x1]) (fun h1 v2 =>
    if x4 < (v2 - x5) then
      q_go e_75 X O n 62 [(0, .ref 0), (1, .int x1), (2, .int x2), (3, .int (x6 - 1)), (4, .int (v2 - x5)), (5, .int v2), (6, .int (x6 + 1))] [] h1
    else
      q_go e_75 X O n 62 [(0, .ref 0), (1, .int x1), (2, .int x2), (3, .int x3), (4, .int x4), (5, .int v2), (6, .int (x6 + 1))] [] h1)
  else
    if x2 = 0 then
      some (h, some (.int x3))
    else
      some (h, some (.int x4)) := by rfl
-- WhirlShafts.trim(IIIII)I with (0, None, None, None, None, None)
set_option maxRecDepth 20000 in
theorem b76_0 (X : q_X) (O : q_O) (n : Nat) (h : q_S) (x1 : Int32) (x2 : Int32) (x3 : Int32) (x4 : Int32) (x5 : Int32) : q_go e_76 X O (n + 1) 0 [(0, .ref 0), (1, .int x1), (2, .int x2), (3, .int x3), (4, .int x4), (5, .int x5)] [] h =
  q_c1 (O 19 h [.ref 12, .int x1]) (fun h1 v2 =>
  if v2 = 0 then
    some (h1, some (.int (-1)))
  else
    q_c1 (O 19 h1 [.ref 12, .int x2]) (fun h3 v4 =>
    if v4 = 0 then
      some (h3, some (.int (-1)))
    else
      q_c1 (O 107 h3 [.int x3, .int x4]) (fun h5 v6 =>
      if v6 = 0 then
        some (h5, some (.int (-1)))
      else
        if x5 < 0 then
          some (h5, some (.int (-1)))
        else
          if 1 < x5 then
            some (h5, some (.int (-1)))
          else
            q_c0 (O 16 h5 [.ref 18, .ref 12]) (fun h7 =>
            q_c1 (O 114 h7 [.ref 0, .int x1, .int x2, .int x3, .int x4]) (fun h8 v9 =>
            if 99 < v9 then
              q_go e_76 X O n 91 [(0, .ref 0), (1, .int x1), (2, .int x2), (3, .int x3), (4, .int x4), (5, .int x5), (6, .int v9)] [.int 10000] h8
            else
              q_c1 (O 113 h8 [.ref 0, .int x1, .int v9, .int x2, .int x4]) (fun h10 v11 =>
              q_go e_76 X O n 91 [(0, .ref 0), (1, .int x1), (2, .int x2), (3, .int x3), (4, .int x4), (5, .int x5), (6, .int v9)] [.int (x3 - v11)] h10)))))) := by rfl
set_option maxRecDepth 20000 in
theorem b76_91 (X : q_X) (O : q_O) (n : Nat) (h : q_S) (x1 : Int32) (x2 : Int32) (x3 : Int32) (x4 : Int32) (x5 : Int32) (x6 : Int32) (s0 : Int32) : q_go e_76 X O (n + 1) 91 [(0, .ref 0), (1, .int x1), (2, .int x2), (3, .int x3), (4, .int x4), (5, .int x5), (6, .int x6)] [.int s0] h =
  if 1 < x6 then
    q_c1 (O 113 h [.ref 0, .int x1, .int (x6 - 1), .int x2, .int x4]) (fun h1 v2 =>
    if s0 < (v2 - x3) then
      if x5 = 0 then
        some (h1, some (.int x6))
      else
        some (h1, some (.int s0))
    else
      q_c1 (O 114 h1 [.ref 0, .int x1, .int x2, .int v2, .int x4]) (fun h3 v4 =>
      if x5 = 0 then
        some (h3, some (.int v4))
      else
        some (h3, some (.int (v2 - x3)))))
  else
    if x5 = 0 then
      some (h, some (.int x6))
    else
      some (h, some (.int s0)) := by rfl
-- WhirlShafts.tune(IIII)I with (0, None, None, None, None)
set_option maxRecDepth 20000 in
theorem b77_0 (X : q_X) (O : q_O) (n : Nat) (h : q_S) (x1 : Int32) (x2 : Int32) (x3 : Int32) (x4 : Int32) : q_go e_77 X O (n + 1) 0 [(0, .ref 0), (1, .int x1), (2, .int x2), (3, .int x3), (4, .int x4)] [] h =
  q_c1 (O 20 h [.ref 12, .int x1]) (fun h1 v2 =>
  if v2 = 0 then
    some (h1, some (.int (-1)))
  else
    q_c1 (O 108 h1 [.int x2, .int x3, .int x4]) (fun h3 v4 =>
    if v4 = 0 then
      some (h3, some (.int (-1)))
    else
      q_c0 (O 16 h3 [.ref 18, .ref 12]) (fun h5 =>
      q_go e_77 X O n 37 [(0, .ref 0), (1, .int x1), (2, .int x2), (3, .int x3), (4, .int x4), (5, .int 1)] [] h5))) := by rfl
set_option maxRecDepth 20000 in
theorem b77_37 (X : q_X) (O : q_O) (n : Nat) (h : q_S) (x1 : Int32) (x2 : Int32) (x3 : Int32) (x4 : Int32) (x5 : Int32) : q_go e_77 X O (n + 1) 37 [(0, .ref 0), (1, .int x1), (2, .int x2), (3, .int x3), (4, .int x4), (5, .int x5)] [] h =
  if 99 < x5 then
    some (h, some (.int (-2)))
  else
    q_ix x1 8 (fun j1 =>
    q_c0 (O 36 (q_si h 22 j1 x5) [.ref 43, .ref 18]) (fun h2 =>
    q_c1 (O 45 h2 [.ref 43, .int x2, .int x3, .int x4]) (fun h3 v4 =>
    if v4 = 0 then
      some (h3, some (.int x5))
    else
      q_go e_77 X O n 37 [(0, .ref 0), (1, .int x1), (2, .int x2), (3, .int x3), (4, .int x4), (5, .int (x5 + 1))] [] h3))) := by rfl
-- WhirlShafts.heavier(III)I with (0, None, None, None)
set_option maxRecDepth 20000 in
theorem b78_0 (X : q_X) (O : q_O) (n : Nat) (h : q_S) (x1 : Int32) (x2 : Int32) (x3 : Int32) : q_go e_78 X O (n + 1) 0 [(0, .ref 0), (1, .int x1), (2, .int x2), (3, .int x3)] [] h =
  q_c1 (O 19 h [.ref 12, .int x1]) (fun h1 v2 =>
  if v2 = 0 then
    some (h1, some (.int (-1)))
  else
    q_c1 (O 106 h1 [.int x2]) (fun h3 v4 =>
    if v4 = 0 then
      some (h3, some (.int (-1)))
    else
      if x3 < 0 then
        some (h3, some (.int (-1)))
      else
        if 1 < x3 then
          some (h3, some (.int (-1)))
        else
          q_c0 (O 16 h3 [.ref 18, .ref 12]) (fun h5 =>
          q_go e_78 X O n 51 [(0, .ref 0), (1, .int x1), (2, .int x2), (3, .int x3), (4, .int (-2)), (5, .int (-2)), (6, .int 0)] [] h5))) := by rfl
set_option maxRecDepth 20000 in
theorem b78_51 (X : q_X) (O : q_O) (n : Nat) (h : q_S) (x1 : Int32) (x2 : Int32) (x3 : Int32) (x4 : Int32) (x5 : Int32) (x6 : Int32) : q_go e_78 X O (n + 1) 51 [(0, .ref 0), (1, .int x1), (2, .int x2), (3, .int x3), (4, .int x4), (5, .int x5), (6, .int x6)] [] h =
  if x6 < (h.1 12 6) then
    q_ix x6 8 (fun j1 =>
    if (h.1 14 j1) < 99 then
      q_ix x6 8 (fun j2 =>
      q_c1 (O 113 h [.ref 0, .int x6, .int ((h.1 14 j2) + 1), .int x1, .int x2]) (fun h3 v4 =>
      q_ix x6 8 (fun j5 =>
      q_ix x6 8 (fun j6 =>
      if x4 < 0 then
        q_go e_78 X O n 51 [(0, .ref 0), (1, .int x1), (2, .int x2), (3, .int x3), (4, .int x6), (5, .int v4), (6, .int (x6 + 1))] [] (q_si h3 20 j6 (h3.1 14 j5))
      else
        if v4 < x5 then
          q_go e_78 X O n 51 [(0, .ref 0), (1, .int x1), (2, .int x2), (3, .int x3), (4, .int x6), (5, .int v4), (6, .int (x6 + 1))] [] (q_si h3 20 j6 (h3.1 14 j5))
        else
          q_go e_78 X O n 51 [(0, .ref 0), (1, .int x1), (2, .int x2), (3, .int x3), (4, .int x4), (5, .int x5), (6, .int (x6 + 1))] [] (q_si h3 20 j6 (h3.1 14 j5))))))
    else
      q_go e_78 X O n 51 [(0, .ref 0), (1, .int x1), (2, .int x2), (3, .int x3), (4, .int x4), (5, .int x5), (6, .int (x6 + 1))] [] h)
  else
    if x3 = 0 then
      some (h, some (.int x4))
    else
      some (h, some (.int x5)) := by rfl
-- WhirlShafts.change(II)I with (0, None, None)
set_option maxRecDepth 20000 in
theorem b79_0 (X : q_X) (O : q_O) (n : Nat) (h : q_S) (x1 : Int32) (x2 : Int32) : q_go e_79 X O (n + 1) 0 [(0, .ref 0), (1, .int x1), (2, .int x2)] [] h =
  q_c1 (O 19 h [.ref 12, .int x1]) (fun h1 v2 =>
  if v2 = 0 then
    some (h1, some (.int (-1)))
  else
    q_c1 (O 106 h1 [.int x2]) (fun h3 v4 =>
    if v4 = 0 then
      some (h3, some (.int (-1)))
    else
      q_c0 (O 16 h3 [.ref 18, .ref 12]) (fun h5 =>
      q_c1 (O 112 h5 [.ref 0, .ref 12, .int x1, .int x2]) (fun h6 v7 =>
      q_go e_79 X O n 49 [(0, .ref 0), (1, .int x1), (2, .int x2), (3, .int (-2)), (4, .int v7), (5, .int 0)] [] h6)))) := by rfl
set_option maxRecDepth 20000 in
theorem b79_49 (X : q_X) (O : q_O) (n : Nat) (h : q_S) (x1 : Int32) (x2 : Int32) (x3 : Int32) (x4 : Int32) (x5 : Int32) : q_go e_79 X O (n + 1) 49 [(0, .ref 0), (1, .int x1), (2, .int x2), (3, .int x3), (4, .int x4), (5, .int x5)] [] h =
  if (x5 + 1) < (h.1 12 6) then
    q_c0 (O 18 h [.ref 18, .int x5]) (fun h1 =>
    q_c1 (O 112 h1 [.ref 0, .ref 18, .int x1, .int x2]) (fun h2 v3 =>
    q_c0 (O 18 h2 [.ref 18, .int x5]) (fun h4 =>
    if x4 < v3 then
      q_go e_79 X O n 49 [(0, .ref 0), (1, .int x1), (2, .int x2), (3, .int x5), (4, .int v3), (5, .int (x5 + 1))] [] h4
    else
      q_go e_79 X O n 49 [(0, .ref 0), (1, .int x1), (2, .int x2), (3, .int x3), (4, .int x4), (5, .int (x5 + 1))] [] h4)))
  else
    some (h, some (.int x3)) := by rfl
-- WhirlShafts.critical(I)I with (0, None)
set_option maxRecDepth 20000 in
theorem b80_0 (X : q_X) (O : q_O) (n : Nat) (h : q_S) (x1 : Int32) : q_go e_80 X O (n + 1) 0 [(0, .ref 0), (1, .int x1)] [] h =
  q_c1 (O 19 h [.ref 12, .int x1]) (fun h1 v2 =>
  if v2 = 0 then
    some (h1, some (.int (-1)))
  else
    q_c0 (O 16 h1 [.ref 18, .ref 12]) (fun h3 =>
    q_go e_80 X O n 26 [(0, .ref 0), (1, .int x1), (2, .int 1)] [] h3)) := by rfl
set_option maxRecDepth 20000 in
theorem b80_26 (X : q_X) (O : q_O) (n : Nat) (h : q_S) (x1 : Int32) (x2 : Int32) : q_go e_80 X O (n + 1) 26 [(0, .ref 0), (1, .int x1), (2, .int x2)] [] h =
  if 9 < x2 then
    some (h, some (.int (-2)))
  else
    q_c1 (O 112 (q_si h 18 7 x2) [.ref 0, .ref 18, .int x1, .int 1]) (fun h1 v2 =>
    if (x2 * x2) < v2 then
      q_go e_80 X O n 26 [(0, .ref 0), (1, .int x1), (2, .int (x2 + 1))] [] h1
    else
      some (h1, some (.int x2))) := by rfl
-- WhirlShafts.fits(IIIII)I with (0, None, None, None, None, None)
set_option maxRecDepth 20000 in
theorem b81_0 (X : q_X) (O : q_O) (n : Nat) (h : q_S) (x1 : Int32) (x2 : Int32) (x3 : Int32) (x4 : Int32) (x5 : Int32) : q_go e_81 X O (n + 1) 0 [(0, .ref 0), (1, .int x1), (2, .int x2), (3, .int x3), (4, .int x4), (5, .int x5)] [] h =
  q_c1 (O 109 h [.int x1]) (fun h1 v2 =>
  if v2 = 0 then
    some (h1, some (.int (-1)))
  else
    if x2 < 0 then
      some (h1, some (.int (-1)))
    else
      if (h1.1 12 6) < x2 then
        some (h1, some (.int (-1)))
      else
        q_c1 (O 106 h1 [.int x3]) (fun h3 v4 =>
        if v4 = 0 then
          some (h3, some (.int (-1)))
        else
          q_c1 (O 19 h3 [.ref 12, .int x4]) (fun h5 v6 =>
          if v6 = 0 then
            some (h5, some (.int (-1)))
          else
            if x5 < 0 then
              some (h5, some (.int (-1)))
            else
              if 2 < x5 then
                some (h5, some (.int (-1)))
              else
                q_ix x1 3 (fun j7 =>
                q_go e_81 X O n 60 [(0, .ref 0), (1, .int x1), (2, .int x2), (3, .int x3), (4, .int x4), (5, .int x5)] [.ref (q_rf 60 j7)] h5)))) := by rfl
set_option maxRecDepth 20000 in
theorem b81_60 (X : q_X) (O : q_O) (n : Nat) (h : q_S) (x1 : Int32) (x2 : Int32) (x3 : Int32) (x4 : Int32) (x5 : Int32) : q_go e_81 X O (n + 1) 60 [(0, .ref 0), (1, .int x1), (2, .int x2), (3, .int x3), (4, .int x4), (5, .int x5)] [.ref 61] h =
  q_c1 (O 48 h [.ref 61]) (fun h1 v2 =>
  if v2 = 0 then
    q_ix x1 3 (fun j3 =>
    q_go e_81 X O n 76 [(0, .ref 0), (1, .int x1), (2, .int x2), (3, .int x3), (4, .int x4), (5, .int x5)] [.ref (q_rf 60 j3), .int x2] h1)
  else
    some (h1, some (.int (-11)))) := by rfl
set_option maxRecDepth 20000 in
theorem b81_60_1 (X : q_X) (O : q_O) (n : Nat) (h : q_S) (x1 : Int32) (x2 : Int32) (x3 : Int32) (x4 : Int32) (x5 : Int32) : q_go e_81 X O (n + 1) 60 [(0, .ref 0), (1, .int x1), (2, .int x2), (3, .int x3), (4, .int x4), (5, .int x5)] [.ref 62] h =
  q_c1 (O 48 h [.ref 62]) (fun h1 v2 =>
  if v2 = 0 then
    q_ix x1 3 (fun j3 =>
    q_go e_81 X O n 76 [(0, .ref 0), (1, .int x1), (2, .int x2), (3, .int x3), (4, .int x4), (5, .int x5)] [.ref (q_rf 60 j3), .int x2] h1)
  else
    some (h1, some (.int (-11)))) := by rfl
set_option maxRecDepth 20000 in
theorem b81_60_2 (X : q_X) (O : q_O) (n : Nat) (h : q_S) (x1 : Int32) (x2 : Int32) (x3 : Int32) (x4 : Int32) (x5 : Int32) : q_go e_81 X O (n + 1) 60 [(0, .ref 0), (1, .int x1), (2, .int x2), (3, .int x3), (4, .int x4), (5, .int x5)] [.ref 63] h =
  q_c1 (O 48 h [.ref 63]) (fun h1 v2 =>
  if v2 = 0 then
    q_ix x1 3 (fun j3 =>
    q_go e_81 X O n 76 [(0, .ref 0), (1, .int x1), (2, .int x2), (3, .int x3), (4, .int x4), (5, .int x5)] [.ref (q_rf 60 j3), .int x2] h1)
  else
    some (h1, some (.int (-11)))) := by rfl
set_option maxRecDepth 20000 in
theorem b81_76 (X : q_X) (O : q_O) (n : Nat) (h : q_S) (x1 : Int32) (x2 : Int32) (x3 : Int32) (x4 : Int32) (x5 : Int32) (s1 : Int32) : q_go e_81 X O (n + 1) 76 [(0, .ref 0), (1, .int x1), (2, .int x2), (3, .int x3), (4, .int x4), (5, .int x5)] [.ref 61, .int s1] h =
  if (h.1 61 2) < s1 then
    some (h, some (.int (-13)))
  else
    q_c0 (O 16 h [.ref 18, .ref 12]) (fun h1 =>
    if x5 = 2 then
      q_ix x1 3 (fun j2 =>
      q_go e_81 X O n 109 [(2, .int x2), (3, .int x3), (4, .int x4)] [.ref (q_rf 60 j2), .ref 0] h1)
    else
      q_ix x1 3 (fun j3 =>
      q_go e_81 X O n 124 [(2, .int x2), (3, .int x3), (4, .int x4), (5, .int x5)] [.ref (q_rf 60 j3), .ref 0] h1)) := by rfl
set_option maxRecDepth 20000 in
theorem b81_76_1 (X : q_X) (O : q_O) (n : Nat) (h : q_S) (x1 : Int32) (x2 : Int32) (x3 : Int32) (x4 : Int32) (x5 : Int32) (s1 : Int32) : q_go e_81 X O (n + 1) 76 [(0, .ref 0), (1, .int x1), (2, .int x2), (3, .int x3), (4, .int x4), (5, .int x5)] [.ref 62, .int s1] h =
  if (h.1 62 2) < s1 then
    some (h, some (.int (-13)))
  else
    q_c0 (O 16 h [.ref 18, .ref 12]) (fun h1 =>
    if x5 = 2 then
      q_ix x1 3 (fun j2 =>
      q_go e_81 X O n 109 [(2, .int x2), (3, .int x3), (4, .int x4)] [.ref (q_rf 60 j2), .ref 0] h1)
    else
      q_ix x1 3 (fun j3 =>
      q_go e_81 X O n 124 [(2, .int x2), (3, .int x3), (4, .int x4), (5, .int x5)] [.ref (q_rf 60 j3), .ref 0] h1)) := by rfl
set_option maxRecDepth 20000 in
theorem b81_76_2 (X : q_X) (O : q_O) (n : Nat) (h : q_S) (x1 : Int32) (x2 : Int32) (x3 : Int32) (x4 : Int32) (x5 : Int32) (s1 : Int32) : q_go e_81 X O (n + 1) 76 [(0, .ref 0), (1, .int x1), (2, .int x2), (3, .int x3), (4, .int x4), (5, .int x5)] [.ref 63, .int s1] h =
  if (h.1 63 2) < s1 then
    some (h, some (.int (-13)))
  else
    q_c0 (O 16 h [.ref 18, .ref 12]) (fun h1 =>
    if x5 = 2 then
      q_ix x1 3 (fun j2 =>
      q_go e_81 X O n 109 [(2, .int x2), (3, .int x3), (4, .int x4)] [.ref (q_rf 60 j2), .ref 0] h1)
    else
      q_ix x1 3 (fun j3 =>
      q_go e_81 X O n 124 [(2, .int x2), (3, .int x3), (4, .int x4), (5, .int x5)] [.ref (q_rf 60 j3), .ref 0] h1)) := by rfl
set_option maxRecDepth 20000 in
theorem b81_109 (X : q_X) (O : q_O) (n : Nat) (h : q_S) (x2 : Int32) (x3 : Int32) (x4 : Int32) : q_go e_81 X O (n + 1) 109 [(2, .int x2), (3, .int x3), (4, .int x4)] [.ref 61, .ref 0] h =
  q_c1 (O 117 h [.ref 0, .ref 61, .int x2, .int x3, .int x4]) (fun h1 v2 =>
  some (h1, some (.int v2))) := by rfl
set_option maxRecDepth 20000 in
theorem b81_109_1 (X : q_X) (O : q_O) (n : Nat) (h : q_S) (x2 : Int32) (x3 : Int32) (x4 : Int32) : q_go e_81 X O (n + 1) 109 [(2, .int x2), (3, .int x3), (4, .int x4)] [.ref 62, .ref 0] h =
  q_c1 (O 117 h [.ref 0, .ref 62, .int x2, .int x3, .int x4]) (fun h1 v2 =>
  some (h1, some (.int v2))) := by rfl
set_option maxRecDepth 20000 in
theorem b81_109_2 (X : q_X) (O : q_O) (n : Nat) (h : q_S) (x2 : Int32) (x3 : Int32) (x4 : Int32) : q_go e_81 X O (n + 1) 109 [(2, .int x2), (3, .int x3), (4, .int x4)] [.ref 63, .ref 0] h =
  q_c1 (O 117 h [.ref 0, .ref 63, .int x2, .int x3, .int x4]) (fun h1 v2 =>
  some (h1, some (.int v2))) := by rfl
set_option maxRecDepth 20000 in
theorem b81_124 (X : q_X) (O : q_O) (n : Nat) (h : q_S) (x2 : Int32) (x3 : Int32) (x4 : Int32) (x5 : Int32) : q_go e_81 X O (n + 1) 124 [(2, .int x2), (3, .int x3), (4, .int x4), (5, .int x5)] [.ref 61, .ref 0] h =
  if x5 = 1 then
    q_c1 (O 116 h [.ref 0, .ref 61, .int x2, .int x3, .int x4, .int 1]) (fun h1 v2 =>
    some (h1, some (.int v2)))
  else
    q_c1 (O 116 h [.ref 0, .ref 61, .int x2, .int x3, .int x4, .int 0]) (fun h3 v4 =>
    some (h3, some (.int v4))) := by rfl
set_option maxRecDepth 20000 in
theorem b81_124_1 (X : q_X) (O : q_O) (n : Nat) (h : q_S) (x2 : Int32) (x3 : Int32) (x4 : Int32) (x5 : Int32) : q_go e_81 X O (n + 1) 124 [(2, .int x2), (3, .int x3), (4, .int x4), (5, .int x5)] [.ref 62, .ref 0] h =
  if x5 = 1 then
    q_c1 (O 116 h [.ref 0, .ref 62, .int x2, .int x3, .int x4, .int 1]) (fun h1 v2 =>
    some (h1, some (.int v2)))
  else
    q_c1 (O 116 h [.ref 0, .ref 62, .int x2, .int x3, .int x4, .int 0]) (fun h3 v4 =>
    some (h3, some (.int v4))) := by rfl
set_option maxRecDepth 20000 in
theorem b81_124_2 (X : q_X) (O : q_O) (n : Nat) (h : q_S) (x2 : Int32) (x3 : Int32) (x4 : Int32) (x5 : Int32) : q_go e_81 X O (n + 1) 124 [(2, .int x2), (3, .int x3), (4, .int x4), (5, .int x5)] [.ref 63, .ref 0] h =
  if x5 = 1 then
    q_c1 (O 116 h [.ref 0, .ref 63, .int x2, .int x3, .int x4, .int 1]) (fun h1 v2 =>
    some (h1, some (.int v2)))
  else
    q_c1 (O 116 h [.ref 0, .ref 63, .int x2, .int x3, .int x4, .int 0]) (fun h3 v4 =>
    some (h3, some (.int v4))) := by rfl
-- WhirlShafts.judge(II)I with (0, None, None)
set_option maxRecDepth 20000 in
theorem b82_0 (X : q_X) (O : q_O) (n : Nat) (h : q_S) (x1 : Int32) (x2 : Int32) : q_go e_82 X O (n + 1) 0 [(0, .ref 0), (1, .int x1), (2, .int x2)] [] h =
  q_c1 (O 109 h [.int x1]) (fun h1 v2 =>
  if v2 = 0 then
    some (h1, some (.int (-1)))
  else
    q_c1 (O 106 h1 [.int x2]) (fun h3 v4 =>
    if v4 = 0 then
      some (h3, some (.int (-1)))
    else
      q_ix x1 3 (fun j5 =>
      q_go e_82 X O n 22 [(0, .ref 0), (2, .int x2)] [.ref (q_rf 60 j5)] h3))) := by rfl
set_option maxRecDepth 20000 in
theorem b82_22 (X : q_X) (O : q_O) (n : Nat) (h : q_S) (x2 : Int32) : q_go e_82 X O (n + 1) 22 [(0, .ref 0), (2, .int x2)] [.ref 61] h =
  q_c1 (O 48 h [.ref 61]) (fun h1 v2 =>
  if v2 = 0 then
    q_c0 (O 36 h1 [.ref 43, .ref 12]) (fun h3 =>
    q_go e_82 X O n 47 [(0, .ref 0), (2, .int x2), (3, .ref 61), (4, .int 0)] [] h3)
  else
    some (h1, some (.int (-11)))) := by rfl
set_option maxRecDepth 20000 in
theorem b82_22_1 (X : q_X) (O : q_O) (n : Nat) (h : q_S) (x2 : Int32) : q_go e_82 X O (n + 1) 22 [(0, .ref 0), (2, .int x2)] [.ref 62] h =
  q_c1 (O 48 h [.ref 62]) (fun h1 v2 =>
  if v2 = 0 then
    q_c0 (O 36 h1 [.ref 43, .ref 12]) (fun h3 =>
    q_go e_82 X O n 47 [(0, .ref 0), (2, .int x2), (3, .ref 62), (4, .int 0)] [] h3)
  else
    some (h1, some (.int (-11)))) := by rfl
set_option maxRecDepth 20000 in
theorem b82_22_2 (X : q_X) (O : q_O) (n : Nat) (h : q_S) (x2 : Int32) : q_go e_82 X O (n + 1) 22 [(0, .ref 0), (2, .int x2)] [.ref 63] h =
  q_c1 (O 48 h [.ref 63]) (fun h1 v2 =>
  if v2 = 0 then
    q_c0 (O 36 h1 [.ref 43, .ref 12]) (fun h3 =>
    q_go e_82 X O n 47 [(0, .ref 0), (2, .int x2), (3, .ref 63), (4, .int 0)] [] h3)
  else
    some (h1, some (.int (-11)))) := by rfl
set_option maxRecDepth 20000 in
theorem b82_47 (X : q_X) (O : q_O) (n : Nat) (h : q_S) (x2 : Int32) (x4 : Int32) : q_go e_82 X O (n + 1) 47 [(0, .ref 0), (2, .int x2), (3, .ref 61), (4, .int x4)] [] h =
  if x4 < (h.1 12 6) then
    if x4 < (h.1 61 2) then
      q_ix x4 40 (fun j1 =>
      q_c1 (O 44 h [.ref 43, .int x4, .int x2, .long (h.2.1 64 j1)]) (fun h2 v3 =>
      if v3 = 0 then
        some (h2, some (.int x4))
      else
        q_go e_82 X O n 47 [(0, .ref 0), (2, .int x2), (3, .ref 61), (4, .int (x4 + 1))] [] h2))
    else
      some (h, some (.int (100 + x4)))
  else
    some (h, some (.int (-2))) := by rfl
set_option maxRecDepth 20000 in
theorem b82_47_1 (X : q_X) (O : q_O) (n : Nat) (h : q_S) (x2 : Int32) (x4 : Int32) : q_go e_82 X O (n + 1) 47 [(0, .ref 0), (2, .int x2), (3, .ref 62), (4, .int x4)] [] h =
  if x4 < (h.1 12 6) then
    if x4 < (h.1 62 2) then
      q_ix x4 40 (fun j1 =>
      q_c1 (O 44 h [.ref 43, .int x4, .int x2, .long (h.2.1 65 j1)]) (fun h2 v3 =>
      if v3 = 0 then
        some (h2, some (.int x4))
      else
        q_go e_82 X O n 47 [(0, .ref 0), (2, .int x2), (3, .ref 62), (4, .int (x4 + 1))] [] h2))
    else
      some (h, some (.int (100 + x4)))
  else
    some (h, some (.int (-2))) := by rfl
set_option maxRecDepth 20000 in
theorem b82_47_2 (X : q_X) (O : q_O) (n : Nat) (h : q_S) (x2 : Int32) (x4 : Int32) : q_go e_82 X O (n + 1) 47 [(0, .ref 0), (2, .int x2), (3, .ref 63), (4, .int x4)] [] h =
  if x4 < (h.1 12 6) then
    if x4 < (h.1 63 2) then
      q_ix x4 40 (fun j1 =>
      q_c1 (O 44 h [.ref 43, .int x4, .int x2, .long (h.2.1 66 j1)]) (fun h2 v3 =>
      if v3 = 0 then
        some (h2, some (.int x4))
      else
        q_go e_82 X O n 47 [(0, .ref 0), (2, .int x2), (3, .ref 63), (4, .int (x4 + 1))] [] h2))
    else
      some (h, some (.int (100 + x4)))
  else
    some (h, some (.int (-2))) := by rfl
-- WhirlShafts.order(III)I with (0, None, None, None)
set_option maxRecDepth 20000 in
theorem b83_0 (X : q_X) (O : q_O) (n : Nat) (h : q_S) (x1 : Int32) (x2 : Int32) (x3 : Int32) : q_go e_83 X O (n + 1) 0 [(0, .ref 0), (1, .int x1), (2, .int x2), (3, .int x3)] [] h =
  if x1 < 0 then
    some (h, some (.int (-1)))
  else
    if 5 < x1 then
      some (h, some (.int (-1)))
    else
      if (h.1 30 3) < 8 then
        q_c1 (O 34 h [.ref 30, .int x1, .int x2, .int x3]) (fun h1 v2 =>
        some (h1, some (.int v2)))
      else
        some (h, some (.int (-3))) := by rfl
-- WhirlShafts.tried(II)I with (0, None, None)
set_option maxRecDepth 20000 in
theorem b84_0 (X : q_X) (O : q_O) (n : Nat) (h : q_S) (x1 : Int32) (x2 : Int32) : q_go e_84 X O (n + 1) 0 [(0, .ref 0), (1, .int x1), (2, .int x2)] [] h =
  q_c1 (O 19 h [.ref 12, .int x1]) (fun h1 v2 =>
  if v2 = 0 then
    some (h1, some (.int (-1)))
  else
    q_c1 (O 106 h1 [.int x2]) (fun h3 v4 =>
    if v4 = 0 then
      some (h3, some (.int (-1)))
    else
      q_c0 (O 16 h3 [.ref 18, .ref 12]) (fun h5 =>
      q_go e_84 X O n 33 [(0, .ref 0), (1, .int x1), (2, .int x2), (3, .int 0)] [] h5))) := by rfl
set_option maxRecDepth 20000 in
theorem b84_33 (X : q_X) (O : q_O) (n : Nat) (h : q_S) (x1 : Int32) (x2 : Int32) (x3 : Int32) : q_go e_84 X O (n + 1) 33 [(0, .ref 0), (1, .int x1), (2, .int x2), (3, .int x3)] [] h =
  if x3 < (h.1 30 3) then
    q_ix x3 8 (fun j1 =>
    q_ix x3 8 (fun j2 =>
    q_ix x3 8 (fun j3 =>
    q_c1 (O 22 h [.ref 18, .int (h.1 31 j1), .int (h.1 32 j2), .int (h.1 33 j3)]) (fun h4 v5 =>
    if v5 = 0 then
      q_ix x3 8 (fun j6 =>
      q_ix x3 8 (fun j7 =>
      q_ix x3 8 (fun j8 =>
      q_c0 (O 24 h4 [.ref 18, .int (h4.1 31 j6), .int (h4.1 32 j7), .int (h4.1 33 j8)]) (fun h9 =>
      q_go e_84 X O n 33 [(0, .ref 0), (1, .int x1), (2, .int x2), (3, .int (x3 + 1))] [] h9))))
    else
      q_go e_84 X O n 33 [(0, .ref 0), (1, .int x1), (2, .int x2), (3, .int (x3 + 1))] [] h4))))
  else
    q_c1 (O 112 h [.ref 0, .ref 18, .int x1, .int x2]) (fun h10 v11 =>
    some (h10, some (.int v11))) := by rfl
-- WhirlShafts.does()I with (0,)
set_option maxRecDepth 20000 in
theorem b85_0 (X : q_X) (O : q_O) (n : Nat) (h : q_S)  : q_go e_85 X O (n + 1) 0 [(0, .ref 0)] [] h =
  q_go e_85 X O n 4 [(0, .ref 0), (1, .int 0), (2, .int 0)] [] h := by rfl
set_option maxRecDepth 20000 in
theorem b85_4 (X : q_X) (O : q_O) (n : Nat) (h : q_S) (x1 : Int32) (x2 : Int32) : q_go e_85 X O (n + 1) 4 [(0, .ref 0), (1, .int x1), (2, .int x2)] [] h =
  if x2 < (h.1 30 3) then
    q_ix x2 8 (fun j1 =>
    q_ix x2 8 (fun j2 =>
    q_ix x2 8 (fun j3 =>
    q_c1 (O 64 h [.ref 0, .int (h.1 31 j1), .int (h.1 32 j2), .int (h.1 33 j3)]) (fun h4 v5 =>
    if v5 < 0 then
      q_go e_85 X O n 4 [(0, .ref 0), (1, .int x1), (2, .int (x2 + 1))] [] h4
    else
      q_go e_85 X O n 4 [(0, .ref 0), (1, .int (x1 + 1)), (2, .int (x2 + 1))] [] h4))))
  else
    some ((q_si h 30 3 0), some (.int x1)) := by rfl
-- WhirlShafts.drop()I with (0,)
set_option maxRecDepth 20000 in
theorem b86_0 (X : q_X) (O : q_O) (n : Nat) (h : q_S)  : q_go e_86 X O (n + 1) 0 [(0, .ref 0)] [] h =
  some ((q_si h 30 3 0), some (.int (h.1 30 3))) := by rfl
-- WhirlShafts.undo()I with (0,)
set_option maxRecDepth 20000 in
theorem b87_0 (X : q_X) (O : q_O) (n : Nat) (h : q_S)  : q_go e_87 X O (n + 1) 0 [(0, .ref 0)] [] h =
  if (h.1 38 4) = 0 then
    some (h, some (.int (-5)))
  else
    q_c1 (O 3 h [.ref 38, .ref 12]) (fun h1 v2 =>
    some (h1, some (.int v2))) := by rfl
-- WhirlShafts.redo()I with (0,)
set_option maxRecDepth 20000 in
theorem b88_0 (X : q_X) (O : q_O) (n : Nat) (h : q_S)  : q_go e_88 X O (n + 1) 0 [(0, .ref 0)] [] h =
  if (h.1 38 5) = 0 then
    some (h, some (.int (-5)))
  else
    q_c1 (O 4 h [.ref 38, .ref 12]) (fun h1 v2 =>
    some (h1, some (.int v2))) := by rfl
-- WhirlShafts.feed(I)I with (0, None)
set_option maxRecDepth 20000 in
theorem b89_0 (X : q_X) (O : q_O) (n : Nat) (h : q_S) (x1 : Int32) : q_go e_89 X O (n + 1) 0 [(0, .ref 0), (1, .int x1)] [] h =
  if x1 < 32 then
    some (h, some (.int (-1)))
  else
    if 126 < x1 then
      some (h, some (.int (-1)))
    else
      if (h.1 57 1) < 80 then
        q_c1 (O 55 h [.ref 57, .int x1]) (fun h1 v2 =>
        some (h1, some (.int v2)))
      else
        some (h, some (.int (-3))) := by rfl
-- WhirlShafts.wipe()I with (0,)
set_option maxRecDepth 20000 in
theorem b90_0 (X : q_X) (O : q_O) (n : Nat) (h : q_S)  : q_go e_90 X O (n + 1) 0 [(0, .ref 0)] [] h =
  some ((q_si h 57 1 0), some (.int (h.1 57 1))) := by rfl
-- WhirlShafts.read()I with (0,)
set_option maxRecDepth 20000 in
theorem b91_0 (X : q_X) (O : q_O) (n : Nat) (h : q_S)  : q_go e_91 X O (n + 1) 0 [(0, .ref 0)] [] h =
  q_c1 (O 58 h [.ref 57]) (fun h1 v2 =>
  if v2 < 0 then
    q_c1 (O 118 h1 [.ref 0]) (fun h3 v4 =>
    some ((q_si h3 57 1 0), some (.int v4)))
  else
    some ((q_si h1 57 1 0), some (.int ((-100) - v2)))) := by rfl
-- WhirlShafts.row(III)I with (0, None, None, None)
set_option maxRecDepth 20000 in
theorem b92_0 (X : q_X) (O : q_O) (n : Nat) (h : q_S) (x1 : Int32) (x2 : Int32) (x3 : Int32) : q_go e_92 X O (n + 1) 0 [(0, .ref 0), (1, .int x1), (2, .int x2), (3, .int x3)] [] h =
  q_c1 (O 109 h [.int x1]) (fun h1 v2 =>
  if v2 = 0 then
    some (h1, some (.int (-1)))
  else
    if x2 < (-1) then
      some (h1, some (.int (-1)))
    else
      if 2 < x2 then
        some (h1, some (.int (-1)))
      else
        if x2 = (-1) then
          q_ix x1 3 (fun j3 =>
          q_go e_92 X O n 30 [] [.ref (q_rf 60 j3)] h1)
        else
          if 40 < x3 then
            some (h1, some (.int (-1)))
          else
            if x3 < 0 then
              some (h1, some (.int (-14)))
            else
              q_ix x1 3 (fun j4 =>
              q_go e_92 X O n 58 [(2, .int x2), (3, .int x3)] [.ref (q_rf 60 j4)] h1)) := by rfl
set_option maxRecDepth 20000 in
theorem b92_30 (X : q_X) (O : q_O) (n : Nat) (h : q_S)  : q_go e_92 X O (n + 1) 30 [] [.ref 61] h =
  q_c0 (O 49 h [.ref 61, .int (-1), .int 0]) (fun h1 =>
  some (h1, some (.int 1))) := by rfl
set_option maxRecDepth 20000 in
theorem b92_30_1 (X : q_X) (O : q_O) (n : Nat) (h : q_S)  : q_go e_92 X O (n + 1) 30 [] [.ref 62] h =
  q_c0 (O 49 h [.ref 62, .int (-1), .int 0]) (fun h1 =>
  some (h1, some (.int 1))) := by rfl
set_option maxRecDepth 20000 in
theorem b92_30_2 (X : q_X) (O : q_O) (n : Nat) (h : q_S)  : q_go e_92 X O (n + 1) 30 [] [.ref 63] h =
  q_c0 (O 49 h [.ref 63, .int (-1), .int 0]) (fun h1 =>
  some (h1, some (.int 1))) := by rfl
set_option maxRecDepth 20000 in
theorem b92_58 (X : q_X) (O : q_O) (n : Nat) (h : q_S) (x2 : Int32) (x3 : Int32) : q_go e_92 X O (n + 1) 58 [(2, .int x2), (3, .int x3)] [.ref 61] h =
  q_c0 (O 49 h [.ref 61, .int x2, .int x3]) (fun h1 =>
  some (h1, some (.int 1))) := by rfl
set_option maxRecDepth 20000 in
theorem b92_58_1 (X : q_X) (O : q_O) (n : Nat) (h : q_S) (x2 : Int32) (x3 : Int32) : q_go e_92 X O (n + 1) 58 [(2, .int x2), (3, .int x3)] [.ref 62] h =
  q_c0 (O 49 h [.ref 62, .int x2, .int x3]) (fun h1 =>
  some (h1, some (.int 1))) := by rfl
set_option maxRecDepth 20000 in
theorem b92_58_2 (X : q_X) (O : q_O) (n : Nat) (h : q_S) (x2 : Int32) (x3 : Int32) : q_go e_92 X O (n + 1) 58 [(2, .int x2), (3, .int x3)] [.ref 63] h =
  q_c0 (O 49 h [.ref 63, .int x2, .int x3]) (fun h1 =>
  some (h1, some (.int 1))) := by rfl
-- WhirlShafts.put(IIJ)I with (0, None, None, None)
set_option maxRecDepth 20000 in
theorem b93_0 (X : q_X) (O : q_O) (n : Nat) (h : q_S) (x1 : Int32) (x2 : Int32) (x3 : Int64) : q_go e_93 X O (n + 1) 0 [(0, .ref 0), (1, .int x1), (2, .int x2), (3, .long x3)] [] h =
  q_c1 (O 109 h [.int x1]) (fun h1 v2 =>
  if v2 = 0 then
    some (h1, some (.int (-1)))
  else
    q_ix x1 3 (fun j3 =>
    q_go e_93 X O n 15 [(0, .ref 0), (1, .int x1), (2, .int x2), (3, .long x3)] [.ref (q_rf 60 j3)] h1)) := by rfl
set_option maxRecDepth 20000 in
theorem b93_15 (X : q_X) (O : q_O) (n : Nat) (h : q_S) (x1 : Int32) (x2 : Int32) (x3 : Int64) : q_go e_93 X O (n + 1) 15 [(0, .ref 0), (1, .int x1), (2, .int x2), (3, .long x3)] [.ref 61] h =
  q_c1 (O 48 h [.ref 61]) (fun h1 v2 =>
  if v2 = 0 then
    q_ix x1 3 (fun j3 =>
    q_go e_93 X O n 30 [(0, .ref 0), (1, .int x1), (2, .int x2), (3, .long x3)] [.ref (q_rf 60 j3)] h1)
  else
    some (h1, some (.int (-11)))) := by rfl
set_option maxRecDepth 20000 in
theorem b93_15_1 (X : q_X) (O : q_O) (n : Nat) (h : q_S) (x1 : Int32) (x2 : Int32) (x3 : Int64) : q_go e_93 X O (n + 1) 15 [(0, .ref 0), (1, .int x1), (2, .int x2), (3, .long x3)] [.ref 62] h =
  q_c1 (O 48 h [.ref 62]) (fun h1 v2 =>
  if v2 = 0 then
    q_ix x1 3 (fun j3 =>
    q_go e_93 X O n 30 [(0, .ref 0), (1, .int x1), (2, .int x2), (3, .long x3)] [.ref (q_rf 60 j3)] h1)
  else
    some (h1, some (.int (-11)))) := by rfl
set_option maxRecDepth 20000 in
theorem b93_15_2 (X : q_X) (O : q_O) (n : Nat) (h : q_S) (x1 : Int32) (x2 : Int32) (x3 : Int64) : q_go e_93 X O (n + 1) 15 [(0, .ref 0), (1, .int x1), (2, .int x2), (3, .long x3)] [.ref 63] h =
  q_c1 (O 48 h [.ref 63]) (fun h1 v2 =>
  if v2 = 0 then
    q_ix x1 3 (fun j3 =>
    q_go e_93 X O n 30 [(0, .ref 0), (1, .int x1), (2, .int x2), (3, .long x3)] [.ref (q_rf 60 j3)] h1)
  else
    some (h1, some (.int (-11)))) := by rfl
set_option maxRecDepth 20000 in
theorem b93_30 (X : q_X) (O : q_O) (n : Nat) (h : q_S) (x1 : Int32) (x2 : Int32) (x3 : Int64) : q_go e_93 X O (n + 1) 30 [(0, .ref 0), (1, .int x1), (2, .int x2), (3, .long x3)] [.ref 61] h =
  q_c1 (O 50 h [.ref 61, .int x2]) (fun h1 v2 =>
  if v2 = 0 then
    some (h1, some (.int (-13)))
  else
    q_ix x1 3 (fun j3 =>
    q_go e_93 X O n 46 [(2, .int x2), (3, .long x3)] [.ref (q_rf 60 j3)] h1)) := by rfl
set_option maxRecDepth 20000 in
theorem b93_30_1 (X : q_X) (O : q_O) (n : Nat) (h : q_S) (x1 : Int32) (x2 : Int32) (x3 : Int64) : q_go e_93 X O (n + 1) 30 [(0, .ref 0), (1, .int x1), (2, .int x2), (3, .long x3)] [.ref 62] h =
  q_c1 (O 50 h [.ref 62, .int x2]) (fun h1 v2 =>
  if v2 = 0 then
    some (h1, some (.int (-13)))
  else
    q_ix x1 3 (fun j3 =>
    q_go e_93 X O n 46 [(2, .int x2), (3, .long x3)] [.ref (q_rf 60 j3)] h1)) := by rfl
set_option maxRecDepth 20000 in
theorem b93_30_2 (X : q_X) (O : q_O) (n : Nat) (h : q_S) (x1 : Int32) (x2 : Int32) (x3 : Int64) : q_go e_93 X O (n + 1) 30 [(0, .ref 0), (1, .int x1), (2, .int x2), (3, .long x3)] [.ref 63] h =
  q_c1 (O 50 h [.ref 63, .int x2]) (fun h1 v2 =>
  if v2 = 0 then
    some (h1, some (.int (-13)))
  else
    q_ix x1 3 (fun j3 =>
    q_go e_93 X O n 46 [(2, .int x2), (3, .long x3)] [.ref (q_rf 60 j3)] h1)) := by rfl
set_option maxRecDepth 20000 in
theorem b93_46 (X : q_X) (O : q_O) (n : Nat) (h : q_S) (x2 : Int32) (x3 : Int64) : q_go e_93 X O (n + 1) 46 [(2, .int x2), (3, .long x3)] [.ref 61] h =
  q_c0 (O 52 h [.ref 61, .int x2, .long x3]) (fun h1 =>
  some (h1, some (.int 1))) := by rfl
set_option maxRecDepth 20000 in
theorem b93_46_1 (X : q_X) (O : q_O) (n : Nat) (h : q_S) (x2 : Int32) (x3 : Int64) : q_go e_93 X O (n + 1) 46 [(2, .int x2), (3, .long x3)] [.ref 62] h =
  q_c0 (O 52 h [.ref 62, .int x2, .long x3]) (fun h1 =>
  some (h1, some (.int 1))) := by rfl
set_option maxRecDepth 20000 in
theorem b93_46_2 (X : q_X) (O : q_O) (n : Nat) (h : q_S) (x2 : Int32) (x3 : Int64) : q_go e_93 X O (n + 1) 46 [(2, .int x2), (3, .long x3)] [.ref 63] h =
  q_c0 (O 52 h [.ref 63, .int x2, .long x3]) (fun h1 =>
  some (h1, some (.int 1))) := by rfl
-- WhirlShafts.get(II)J with (0, None, None)
set_option maxRecDepth 20000 in
theorem b94_0 (X : q_X) (O : q_O) (n : Nat) (h : q_S) (x1 : Int32) (x2 : Int32) : q_go e_94 X O (n + 1) 0 [(0, .ref 0), (1, .int x1), (2, .int x2)] [] h =
  q_c1 (O 109 h [.int x1]) (fun h1 v2 =>
  if v2 = 0 then
    some (h1, some (.long (Int64.ofNat 9223372036854775808)))
  else
    q_ix x1 3 (fun j3 =>
    q_go e_94 X O n 13 [(0, .ref 0), (1, .int x1), (2, .int x2)] [.ref (q_rf 60 j3)] h1)) := by rfl
set_option maxRecDepth 20000 in
theorem b94_13 (X : q_X) (O : q_O) (n : Nat) (h : q_S) (x1 : Int32) (x2 : Int32) : q_go e_94 X O (n + 1) 13 [(0, .ref 0), (1, .int x1), (2, .int x2)] [.ref 61] h =
  q_c1 (O 50 h [.ref 61, .int x2]) (fun h1 v2 =>
  if v2 = 0 then
    some (h1, some (.long (Int64.ofNat 9223372036854775808)))
  else
    q_ix x1 3 (fun j3 =>
    q_go e_94 X O n 26 [(2, .int x2)] [.ref (q_rf 60 j3)] h1)) := by rfl
set_option maxRecDepth 20000 in
theorem b94_13_1 (X : q_X) (O : q_O) (n : Nat) (h : q_S) (x1 : Int32) (x2 : Int32) : q_go e_94 X O (n + 1) 13 [(0, .ref 0), (1, .int x1), (2, .int x2)] [.ref 62] h =
  q_c1 (O 50 h [.ref 62, .int x2]) (fun h1 v2 =>
  if v2 = 0 then
    some (h1, some (.long (Int64.ofNat 9223372036854775808)))
  else
    q_ix x1 3 (fun j3 =>
    q_go e_94 X O n 26 [(2, .int x2)] [.ref (q_rf 60 j3)] h1)) := by rfl
set_option maxRecDepth 20000 in
theorem b94_13_2 (X : q_X) (O : q_O) (n : Nat) (h : q_S) (x1 : Int32) (x2 : Int32) : q_go e_94 X O (n + 1) 13 [(0, .ref 0), (1, .int x1), (2, .int x2)] [.ref 63] h =
  q_c1 (O 50 h [.ref 63, .int x2]) (fun h1 v2 =>
  if v2 = 0 then
    some (h1, some (.long (Int64.ofNat 9223372036854775808)))
  else
    q_ix x1 3 (fun j3 =>
    q_go e_94 X O n 26 [(2, .int x2)] [.ref (q_rf 60 j3)] h1)) := by rfl
set_option maxRecDepth 20000 in
theorem b94_26 (X : q_X) (O : q_O) (n : Nat) (h : q_S) (x2 : Int32) : q_go e_94 X O (n + 1) 26 [(2, .int x2)] [.ref 61] h =
  q_ix x2 40 (fun j1 =>
  some (h, some (.long (h.2.1 64 j1)))) := by rfl
set_option maxRecDepth 20000 in
theorem b94_26_1 (X : q_X) (O : q_O) (n : Nat) (h : q_S) (x2 : Int32) : q_go e_94 X O (n + 1) 26 [(2, .int x2)] [.ref 62] h =
  q_ix x2 40 (fun j1 =>
  some (h, some (.long (h.2.1 65 j1)))) := by rfl
set_option maxRecDepth 20000 in
theorem b94_26_2 (X : q_X) (O : q_O) (n : Nat) (h : q_S) (x2 : Int32) : q_go e_94 X O (n + 1) 26 [(2, .int x2)] [.ref 63] h =
  q_ix x2 40 (fun j1 =>
  some (h, some (.long (h.2.1 66 j1)))) := by rfl
-- WhirlShafts.film(III)I with (0, None, None, None)
set_option maxRecDepth 20000 in
theorem b95_0 (X : q_X) (O : q_O) (n : Nat) (h : q_S) (x1 : Int32) (x2 : Int32) (x3 : Int32) : q_go e_95 X O (n + 1) 0 [(0, .ref 0), (1, .int x1), (2, .int x2), (3, .int x3)] [] h =
  q_c1 (O 109 h [.int x1]) (fun h1 v2 =>
  if v2 = 0 then
    some (h1, some (.int (-1)))
  else
    if x2 < 0 then
      some (h1, some (.int (-1)))
    else
      if 2 < x2 then
        some (h1, some (.int (-1)))
      else
        q_c1 (O 106 h1 [.int x3]) (fun h3 v4 =>
        if v4 = 0 then
          some (h3, some (.int (-1)))
        else
          q_c0 (O 36 h3 [.ref 43, .ref 12]) (fun h5 =>
          q_ix x1 3 (fun j6 =>
          q_go e_95 X O n 42 [(0, .ref 0), (1, .int x1), (2, .int x2), (3, .int x3)] [.ref (q_rf 60 j6)] h5)))) := by rfl
set_option maxRecDepth 20000 in
theorem b95_42 (X : q_X) (O : q_O) (n : Nat) (h : q_S) (x1 : Int32) (x2 : Int32) (x3 : Int32) : q_go e_95 X O (n + 1) 42 [(0, .ref 0), (1, .int x1), (2, .int x2), (3, .int x3)] [.ref 61] h =
  q_c0 (O 49 h [.ref 61, .int x2, .int (h.1 12 6)]) (fun h1 =>
  q_go e_95 X O n 56 [(0, .ref 0), (1, .int x1), (3, .int x3), (4, .int 0)] [] h1) := by rfl
set_option maxRecDepth 20000 in
theorem b95_42_1 (X : q_X) (O : q_O) (n : Nat) (h : q_S) (x1 : Int32) (x2 : Int32) (x3 : Int32) : q_go e_95 X O (n + 1) 42 [(0, .ref 0), (1, .int x1), (2, .int x2), (3, .int x3)] [.ref 62] h =
  q_c0 (O 49 h [.ref 62, .int x2, .int (h.1 12 6)]) (fun h1 =>
  q_go e_95 X O n 56 [(0, .ref 0), (1, .int x1), (3, .int x3), (4, .int 0)] [] h1) := by rfl
set_option maxRecDepth 20000 in
theorem b95_42_2 (X : q_X) (O : q_O) (n : Nat) (h : q_S) (x1 : Int32) (x2 : Int32) (x3 : Int32) : q_go e_95 X O (n + 1) 42 [(0, .ref 0), (1, .int x1), (2, .int x2), (3, .int x3)] [.ref 63] h =
  q_c0 (O 49 h [.ref 63, .int x2, .int (h.1 12 6)]) (fun h1 =>
  q_go e_95 X O n 56 [(0, .ref 0), (1, .int x1), (3, .int x3), (4, .int 0)] [] h1) := by rfl
set_option maxRecDepth 20000 in
theorem b95_56 (X : q_X) (O : q_O) (n : Nat) (h : q_S) (x1 : Int32) (x3 : Int32) (x4 : Int32) : q_go e_95 X O (n + 1) 56 [(0, .ref 0), (1, .int x1), (3, .int x3), (4, .int x4)] [] h =
  if x4 < (h.1 12 6) then
    q_ix x1 3 (fun j1 =>
    q_go e_95 X O n 74 [(0, .ref 0), (1, .int x1), (3, .int x3), (4, .int x4)] [.ref (q_rf 60 j1)] h)
  else
    some (h, some (.int (h.1 12 6))) := by rfl
set_option maxRecDepth 20000 in
theorem b95_74 (X : q_X) (O : q_O) (n : Nat) (h : q_S) (x1 : Int32) (x3 : Int32) (x4 : Int32) : q_go e_95 X O (n + 1) 74 [(0, .ref 0), (1, .int x1), (3, .int x3), (4, .int x4)] [.ref 61] h =
  q_c1 (O 43 h [.ref 43, .int x4, .int x3]) (fun h1 v2 =>
  q_c0 (O 52 h1 [.ref 61, .int x4, .long (((v2 : Int32)).toInt64)]) (fun h3 =>
  q_go e_95 X O n 56 [(0, .ref 0), (1, .int x1), (3, .int x3), (4, .int (x4 + 1))] [] h3)) := by rfl
set_option maxRecDepth 20000 in
theorem b95_74_1 (X : q_X) (O : q_O) (n : Nat) (h : q_S) (x1 : Int32) (x3 : Int32) (x4 : Int32) : q_go e_95 X O (n + 1) 74 [(0, .ref 0), (1, .int x1), (3, .int x3), (4, .int x4)] [.ref 62] h =
  q_c1 (O 43 h [.ref 43, .int x4, .int x3]) (fun h1 v2 =>
  q_c0 (O 52 h1 [.ref 62, .int x4, .long (((v2 : Int32)).toInt64)]) (fun h3 =>
  q_go e_95 X O n 56 [(0, .ref 0), (1, .int x1), (3, .int x3), (4, .int (x4 + 1))] [] h3)) := by rfl
set_option maxRecDepth 20000 in
theorem b95_74_2 (X : q_X) (O : q_O) (n : Nat) (h : q_S) (x1 : Int32) (x3 : Int32) (x4 : Int32) : q_go e_95 X O (n + 1) 74 [(0, .ref 0), (1, .int x1), (3, .int x3), (4, .int x4)] [.ref 63] h =
  q_c1 (O 43 h [.ref 43, .int x4, .int x3]) (fun h1 v2 =>
  q_c0 (O 52 h1 [.ref 63, .int x4, .long (((v2 : Int32)).toInt64)]) (fun h3 =>
  q_go e_95 X O n 56 [(0, .ref 0), (1, .int x1), (3, .int x3), (4, .int (x4 + 1))] [] h3)) := by rfl
-- WhirlShafts.copy(IIIII)I with (0, None, None, None, None, None)
set_option maxRecDepth 20000 in
theorem b96_0 (X : q_X) (O : q_O) (n : Nat) (h : q_S) (x1 : Int32) (x2 : Int32) (x3 : Int32) (x4 : Int32) (x5 : Int32) : q_go e_96 X O (n + 1) 0 [(0, .ref 0), (1, .int x1), (2, .int x2), (3, .int x3), (4, .int x4), (5, .int x5)] [] h =
  q_c1 (O 109 h [.int x1]) (fun h1 v2 =>
  if v2 = 0 then
    some (h1, some (.int (-1)))
  else
    q_c1 (O 109 h1 [.int x3]) (fun h3 v4 =>
    if v4 = 0 then
      some (h3, some (.int (-1)))
    else
      q_ix x1 3 (fun j5 =>
      q_go e_96 X O n 22 [(0, .ref 0), (2, .int x2), (3, .int x3), (4, .int x4), (5, .int x5)] [.ref (q_rf 60 j5)] h3))) := by rfl
set_option maxRecDepth 20000 in
theorem b96_22 (X : q_X) (O : q_O) (n : Nat) (h : q_S) (x2 : Int32) (x3 : Int32) (x4 : Int32) (x5 : Int32) : q_go e_96 X O (n + 1) 22 [(0, .ref 0), (2, .int x2), (3, .int x3), (4, .int x4), (5, .int x5)] [.ref 61] h =
  q_ix x3 3 (fun j1 =>
  q_go e_96 X O n 30 [(2, .int x2), (4, .int x4), (5, .int x5), (6, .ref 61)] [.ref (q_rf 60 j1)] h) := by rfl
set_option maxRecDepth 20000 in
theorem b96_22_1 (X : q_X) (O : q_O) (n : Nat) (h : q_S) (x2 : Int32) (x3 : Int32) (x4 : Int32) (x5 : Int32) : q_go e_96 X O (n + 1) 22 [(0, .ref 0), (2, .int x2), (3, .int x3), (4, .int x4), (5, .int x5)] [.ref 62] h =
  q_ix x3 3 (fun j1 =>
  q_go e_96 X O n 30 [(2, .int x2), (4, .int x4), (5, .int x5), (6, .ref 62)] [.ref (q_rf 60 j1)] h) := by rfl
set_option maxRecDepth 20000 in
theorem b96_22_2 (X : q_X) (O : q_O) (n : Nat) (h : q_S) (x2 : Int32) (x3 : Int32) (x4 : Int32) (x5 : Int32) : q_go e_96 X O (n + 1) 22 [(0, .ref 0), (2, .int x2), (3, .int x3), (4, .int x4), (5, .int x5)] [.ref 63] h =
  q_ix x3 3 (fun j1 =>
  q_go e_96 X O n 30 [(2, .int x2), (4, .int x4), (5, .int x5), (6, .ref 63)] [.ref (q_rf 60 j1)] h) := by rfl
set_option maxRecDepth 20000 in
theorem b96_30 (X : q_X) (O : q_O) (n : Nat) (h : q_S) (x2 : Int32) (x4 : Int32) (x5 : Int32) : q_go e_96 X O (n + 1) 30 [(2, .int x2), (4, .int x4), (5, .int x5), (6, .ref 61)] [.ref 61] h =
  q_c1 (O 48 h [.ref 61]) (fun h1 v2 =>
  if v2 = 0 then
    q_c1 (O 48 h1 [.ref 61]) (fun h3 v4 =>
    if v4 = 0 then
      if (h3.1 61 1) = (h3.1 61 1) then
        q_c1 (O 51 h3 [.ref 61, .int x2, .int x5]) (fun h5 v6 =>
        if v6 = 0 then
          some (h5, some (.int (-13)))
        else
          q_c1 (O 51 h5 [.ref 61, .int x4, .int x5]) (fun h7 v8 =>
          if v8 = 0 then
            some (h7, some (.int (-13)))
          else
            q_arc h7 64 x2 64 x4 x5 (fun h9 =>
            some (h9, some (.int x5)))))
      else
        some (h3, some (.int (-12)))
    else
      some (h3, some (.int (-11))))
  else
    some (h1, some (.int (-11)))) := by rfl
set_option maxRecDepth 20000 in
theorem b96_30_1 (X : q_X) (O : q_O) (n : Nat) (h : q_S) (x2 : Int32) (x4 : Int32) (x5 : Int32) : q_go e_96 X O (n + 1) 30 [(2, .int x2), (4, .int x4), (5, .int x5), (6, .ref 61)] [.ref 62] h =
  q_c1 (O 48 h [.ref 61]) (fun h1 v2 =>
  if v2 = 0 then
    q_c1 (O 48 h1 [.ref 62]) (fun h3 v4 =>
    if v4 = 0 then
      if (h3.1 61 1) = (h3.1 62 1) then
        q_c1 (O 51 h3 [.ref 61, .int x2, .int x5]) (fun h5 v6 =>
        if v6 = 0 then
          some (h5, some (.int (-13)))
        else
          q_c1 (O 51 h5 [.ref 62, .int x4, .int x5]) (fun h7 v8 =>
          if v8 = 0 then
            some (h7, some (.int (-13)))
          else
            q_arc h7 64 x2 65 x4 x5 (fun h9 =>
            some (h9, some (.int x5)))))
      else
        some (h3, some (.int (-12)))
    else
      some (h3, some (.int (-11))))
  else
    some (h1, some (.int (-11)))) := by rfl
set_option maxRecDepth 20000 in
theorem b96_30_2 (X : q_X) (O : q_O) (n : Nat) (h : q_S) (x2 : Int32) (x4 : Int32) (x5 : Int32) : q_go e_96 X O (n + 1) 30 [(2, .int x2), (4, .int x4), (5, .int x5), (6, .ref 61)] [.ref 63] h =
  q_c1 (O 48 h [.ref 61]) (fun h1 v2 =>
  if v2 = 0 then
    q_c1 (O 48 h1 [.ref 63]) (fun h3 v4 =>
    if v4 = 0 then
      if (h3.1 61 1) = (h3.1 63 1) then
        q_c1 (O 51 h3 [.ref 61, .int x2, .int x5]) (fun h5 v6 =>
        if v6 = 0 then
          some (h5, some (.int (-13)))
        else
          q_c1 (O 51 h5 [.ref 63, .int x4, .int x5]) (fun h7 v8 =>
          if v8 = 0 then
            some (h7, some (.int (-13)))
          else
            q_arc h7 64 x2 66 x4 x5 (fun h9 =>
            some (h9, some (.int x5)))))
      else
        some (h3, some (.int (-12)))
    else
      some (h3, some (.int (-11))))
  else
    some (h1, some (.int (-11)))) := by rfl
set_option maxRecDepth 20000 in
theorem b96_30_3 (X : q_X) (O : q_O) (n : Nat) (h : q_S) (x2 : Int32) (x4 : Int32) (x5 : Int32) : q_go e_96 X O (n + 1) 30 [(2, .int x2), (4, .int x4), (5, .int x5), (6, .ref 62)] [.ref 61] h =
  q_c1 (O 48 h [.ref 62]) (fun h1 v2 =>
  if v2 = 0 then
    q_c1 (O 48 h1 [.ref 61]) (fun h3 v4 =>
    if v4 = 0 then
      if (h3.1 62 1) = (h3.1 61 1) then
        q_c1 (O 51 h3 [.ref 62, .int x2, .int x5]) (fun h5 v6 =>
        if v6 = 0 then
          some (h5, some (.int (-13)))
        else
          q_c1 (O 51 h5 [.ref 61, .int x4, .int x5]) (fun h7 v8 =>
          if v8 = 0 then
            some (h7, some (.int (-13)))
          else
            q_arc h7 65 x2 64 x4 x5 (fun h9 =>
            some (h9, some (.int x5)))))
      else
        some (h3, some (.int (-12)))
    else
      some (h3, some (.int (-11))))
  else
    some (h1, some (.int (-11)))) := by rfl
set_option maxRecDepth 20000 in
theorem b96_30_4 (X : q_X) (O : q_O) (n : Nat) (h : q_S) (x2 : Int32) (x4 : Int32) (x5 : Int32) : q_go e_96 X O (n + 1) 30 [(2, .int x2), (4, .int x4), (5, .int x5), (6, .ref 62)] [.ref 62] h =
  q_c1 (O 48 h [.ref 62]) (fun h1 v2 =>
  if v2 = 0 then
    q_c1 (O 48 h1 [.ref 62]) (fun h3 v4 =>
    if v4 = 0 then
      if (h3.1 62 1) = (h3.1 62 1) then
        q_c1 (O 51 h3 [.ref 62, .int x2, .int x5]) (fun h5 v6 =>
        if v6 = 0 then
          some (h5, some (.int (-13)))
        else
          q_c1 (O 51 h5 [.ref 62, .int x4, .int x5]) (fun h7 v8 =>
          if v8 = 0 then
            some (h7, some (.int (-13)))
          else
            q_arc h7 65 x2 65 x4 x5 (fun h9 =>
            some (h9, some (.int x5)))))
      else
        some (h3, some (.int (-12)))
    else
      some (h3, some (.int (-11))))
  else
    some (h1, some (.int (-11)))) := by rfl
set_option maxRecDepth 20000 in
theorem b96_30_5 (X : q_X) (O : q_O) (n : Nat) (h : q_S) (x2 : Int32) (x4 : Int32) (x5 : Int32) : q_go e_96 X O (n + 1) 30 [(2, .int x2), (4, .int x4), (5, .int x5), (6, .ref 62)] [.ref 63] h =
  q_c1 (O 48 h [.ref 62]) (fun h1 v2 =>
  if v2 = 0 then
    q_c1 (O 48 h1 [.ref 63]) (fun h3 v4 =>
    if v4 = 0 then
      if (h3.1 62 1) = (h3.1 63 1) then
        q_c1 (O 51 h3 [.ref 62, .int x2, .int x5]) (fun h5 v6 =>
        if v6 = 0 then
          some (h5, some (.int (-13)))
        else
          q_c1 (O 51 h5 [.ref 63, .int x4, .int x5]) (fun h7 v8 =>
          if v8 = 0 then
            some (h7, some (.int (-13)))
          else
            q_arc h7 65 x2 66 x4 x5 (fun h9 =>
            some (h9, some (.int x5)))))
      else
        some (h3, some (.int (-12)))
    else
      some (h3, some (.int (-11))))
  else
    some (h1, some (.int (-11)))) := by rfl
set_option maxRecDepth 20000 in
theorem b96_30_6 (X : q_X) (O : q_O) (n : Nat) (h : q_S) (x2 : Int32) (x4 : Int32) (x5 : Int32) : q_go e_96 X O (n + 1) 30 [(2, .int x2), (4, .int x4), (5, .int x5), (6, .ref 63)] [.ref 61] h =
  q_c1 (O 48 h [.ref 63]) (fun h1 v2 =>
  if v2 = 0 then
    q_c1 (O 48 h1 [.ref 61]) (fun h3 v4 =>
    if v4 = 0 then
      if (h3.1 63 1) = (h3.1 61 1) then
        q_c1 (O 51 h3 [.ref 63, .int x2, .int x5]) (fun h5 v6 =>
        if v6 = 0 then
          some (h5, some (.int (-13)))
        else
          q_c1 (O 51 h5 [.ref 61, .int x4, .int x5]) (fun h7 v8 =>
          if v8 = 0 then
            some (h7, some (.int (-13)))
          else
            q_arc h7 66 x2 64 x4 x5 (fun h9 =>
            some (h9, some (.int x5)))))
      else
        some (h3, some (.int (-12)))
    else
      some (h3, some (.int (-11))))
  else
    some (h1, some (.int (-11)))) := by rfl
set_option maxRecDepth 20000 in
theorem b96_30_7 (X : q_X) (O : q_O) (n : Nat) (h : q_S) (x2 : Int32) (x4 : Int32) (x5 : Int32) : q_go e_96 X O (n + 1) 30 [(2, .int x2), (4, .int x4), (5, .int x5), (6, .ref 63)] [.ref 62] h =
  q_c1 (O 48 h [.ref 63]) (fun h1 v2 =>
  if v2 = 0 then
    q_c1 (O 48 h1 [.ref 62]) (fun h3 v4 =>
    if v4 = 0 then
      if (h3.1 63 1) = (h3.1 62 1) then
        q_c1 (O 51 h3 [.ref 63, .int x2, .int x5]) (fun h5 v6 =>
        if v6 = 0 then
          some (h5, some (.int (-13)))
        else
          q_c1 (O 51 h5 [.ref 62, .int x4, .int x5]) (fun h7 v8 =>
          if v8 = 0 then
            some (h7, some (.int (-13)))
          else
            q_arc h7 66 x2 65 x4 x5 (fun h9 =>
            some (h9, some (.int x5)))))
      else
        some (h3, some (.int (-12)))
    else
      some (h3, some (.int (-11))))
  else
    some (h1, some (.int (-11)))) := by rfl
set_option maxRecDepth 20000 in
theorem b96_30_8 (X : q_X) (O : q_O) (n : Nat) (h : q_S) (x2 : Int32) (x4 : Int32) (x5 : Int32) : q_go e_96 X O (n + 1) 30 [(2, .int x2), (4, .int x4), (5, .int x5), (6, .ref 63)] [.ref 63] h =
  q_c1 (O 48 h [.ref 63]) (fun h1 v2 =>
  if v2 = 0 then
    q_c1 (O 48 h1 [.ref 63]) (fun h3 v4 =>
    if v4 = 0 then
      if (h3.1 63 1) = (h3.1 63 1) then
        q_c1 (O 51 h3 [.ref 63, .int x2, .int x5]) (fun h5 v6 =>
        if v6 = 0 then
          some (h5, some (.int (-13)))
        else
          q_c1 (O 51 h5 [.ref 63, .int x4, .int x5]) (fun h7 v8 =>
          if v8 = 0 then
            some (h7, some (.int (-13)))
          else
            q_arc h7 66 x2 66 x4 x5 (fun h9 =>
            some (h9, some (.int x5)))))
      else
        some (h3, some (.int (-12)))
    else
      some (h3, some (.int (-11))))
  else
    some (h1, some (.int (-11)))) := by rfl
-- WhirlShafts.act(III)I with (0, None, None, None)
set_option maxRecDepth 20000 in
theorem b97_0 (X : q_X) (O : q_O) (n : Nat) (h : q_S) (x1 : Int32) (x2 : Int32) (x3 : Int32) : q_go e_97 X O (n + 1) 0 [(0, .ref 0), (1, .int x1), (2, .int x2), (3, .int x3)] [] h =
  q_c1 (O 19 h [.ref 12, .int x1]) (fun h1 v2 =>
  if v2 = 0 then
    some (h1, some (.int 0))
  else
    if x2 < 0 then
      some (h1, some (.int 0))
    else
      if 2 < x2 then
        some (h1, some (.int 0))
      else
        q_ix x1 8 (fun j3 =>
        q_ix (h1.1 13 j3) 5 (fun j4 =>
        q_go e_97 X O n 37 [(0, .ref 0), (1, .int x1), (2, .int x2), (3, .int x3)] [.ref (q_rf 1 j4), .ref 0] h1))) := by rfl
set_option maxRecDepth 20000 in
theorem b97_37 (X : q_X) (O : q_O) (n : Nat) (h : q_S) (x1 : Int32) (x2 : Int32) (x3 : Int32) : q_go e_97 X O (n + 1) 37 [(0, .ref 0), (1, .int x1), (2, .int x2), (3, .int x3)] [.ref 2, .ref 0] h =
  q_go e_97 X O n 44 [(0, .ref 0), (1, .int x1), (2, .int x2), (3, .int x3)] [.ref 2] (h.1, h.2.1, some 2) := by rfl
set_option maxRecDepth 20000 in
theorem b97_37_1 (X : q_X) (O : q_O) (n : Nat) (h : q_S) (x1 : Int32) (x2 : Int32) (x3 : Int32) : q_go e_97 X O (n + 1) 37 [(0, .ref 0), (1, .int x1), (2, .int x2), (3, .int x3)] [.ref 3, .ref 0] h =
  q_go e_97 X O n 44 [(0, .ref 0), (1, .int x1), (2, .int x2), (3, .int x3)] [.ref 3] (h.1, h.2.1, some 3) := by rfl
set_option maxRecDepth 20000 in
theorem b97_37_2 (X : q_X) (O : q_O) (n : Nat) (h : q_S) (x1 : Int32) (x2 : Int32) (x3 : Int32) : q_go e_97 X O (n + 1) 37 [(0, .ref 0), (1, .int x1), (2, .int x2), (3, .int x3)] [.ref 4, .ref 0] h =
  q_go e_97 X O n 44 [(0, .ref 0), (1, .int x1), (2, .int x2), (3, .int x3)] [.ref 4] (h.1, h.2.1, some 4) := by rfl
set_option maxRecDepth 20000 in
theorem b97_37_3 (X : q_X) (O : q_O) (n : Nat) (h : q_S) (x1 : Int32) (x2 : Int32) (x3 : Int32) : q_go e_97 X O (n + 1) 37 [(0, .ref 0), (1, .int x1), (2, .int x2), (3, .int x3)] [.ref 5, .ref 0] h =
  q_go e_97 X O n 44 [(0, .ref 0), (1, .int x1), (2, .int x2), (3, .int x3)] [.ref 5] (h.1, h.2.1, some 5) := by rfl
set_option maxRecDepth 20000 in
theorem b97_37_4 (X : q_X) (O : q_O) (n : Nat) (h : q_S) (x1 : Int32) (x2 : Int32) (x3 : Int32) : q_go e_97 X O (n + 1) 37 [(0, .ref 0), (1, .int x1), (2, .int x2), (3, .int x3)] [.ref 6, .ref 0] h =
  q_go e_97 X O n 44 [(0, .ref 0), (1, .int x1), (2, .int x2), (3, .int x3)] [.ref 6] (h.1, h.2.1, some 6) := by rfl
set_option maxRecDepth 20000 in
theorem b97_44 (X : q_X) (O : q_O) (n : Nat) (h : q_S) (x1 : Int32) (x2 : Int32) (x3 : Int32) : q_go e_97 X O (n + 1) 44 [(0, .ref 0), (1, .int x1), (2, .int x2), (3, .int x3)] [.ref 2] h =
  q_ix x1 8 (fun j1 =>
  q_c0 (O 8 h [.ref 2, .int x1, .int (h.1 14 j1)]) (fun h2 =>
  if x2 = 0 then
    q_go e_97 X O n 88 [(3, .int x3)] [(q_rv h2.2.2)] h2
  else if x2 = 1 then
    q_go e_97 X O n 97 [(3, .int x3)] [(q_rv h2.2.2)] h2
  else 
    q_go e_97 X O n 106 [(3, .int x3)] [(q_rv h2.2.2)] h2)) := by rfl
set_option maxRecDepth 20000 in
theorem b97_44_1 (X : q_X) (O : q_O) (n : Nat) (h : q_S) (x1 : Int32) (x2 : Int32) (x3 : Int32) : q_go e_97 X O (n + 1) 44 [(0, .ref 0), (1, .int x1), (2, .int x2), (3, .int x3)] [.ref 3] h =
  q_ix x1 8 (fun j1 =>
  q_c0 (O 8 h [.ref 3, .int x1, .int (h.1 14 j1)]) (fun h2 =>
  if x2 = 0 then
    q_go e_97 X O n 88 [(3, .int x3)] [(q_rv h2.2.2)] h2
  else if x2 = 1 then
    q_go e_97 X O n 97 [(3, .int x3)] [(q_rv h2.2.2)] h2
  else 
    q_go e_97 X O n 106 [(3, .int x3)] [(q_rv h2.2.2)] h2)) := by rfl
set_option maxRecDepth 20000 in
theorem b97_44_2 (X : q_X) (O : q_O) (n : Nat) (h : q_S) (x1 : Int32) (x2 : Int32) (x3 : Int32) : q_go e_97 X O (n + 1) 44 [(0, .ref 0), (1, .int x1), (2, .int x2), (3, .int x3)] [.ref 4] h =
  q_ix x1 8 (fun j1 =>
  q_c0 (O 8 h [.ref 4, .int x1, .int (h.1 14 j1)]) (fun h2 =>
  if x2 = 0 then
    q_go e_97 X O n 88 [(3, .int x3)] [(q_rv h2.2.2)] h2
  else if x2 = 1 then
    q_go e_97 X O n 97 [(3, .int x3)] [(q_rv h2.2.2)] h2
  else 
    q_go e_97 X O n 106 [(3, .int x3)] [(q_rv h2.2.2)] h2)) := by rfl
set_option maxRecDepth 20000 in
theorem b97_44_3 (X : q_X) (O : q_O) (n : Nat) (h : q_S) (x1 : Int32) (x2 : Int32) (x3 : Int32) : q_go e_97 X O (n + 1) 44 [(0, .ref 0), (1, .int x1), (2, .int x2), (3, .int x3)] [.ref 5] h =
  q_ix x1 8 (fun j1 =>
  q_c0 (O 8 h [.ref 5, .int x1, .int (h.1 14 j1)]) (fun h2 =>
  if x2 = 0 then
    q_go e_97 X O n 88 [(3, .int x3)] [(q_rv h2.2.2)] h2
  else if x2 = 1 then
    q_go e_97 X O n 97 [(3, .int x3)] [(q_rv h2.2.2)] h2
  else 
    q_go e_97 X O n 106 [(3, .int x3)] [(q_rv h2.2.2)] h2)) := by rfl
set_option maxRecDepth 20000 in
theorem b97_44_4 (X : q_X) (O : q_O) (n : Nat) (h : q_S) (x1 : Int32) (x2 : Int32) (x3 : Int32) : q_go e_97 X O (n + 1) 44 [(0, .ref 0), (1, .int x1), (2, .int x2), (3, .int x3)] [.ref 6] h =
  q_ix x1 8 (fun j1 =>
  q_c0 (O 8 h [.ref 6, .int x1, .int (h.1 14 j1)]) (fun h2 =>
  if x2 = 0 then
    q_go e_97 X O n 88 [(3, .int x3)] [(q_rv h2.2.2)] h2
  else if x2 = 1 then
    q_go e_97 X O n 97 [(3, .int x3)] [(q_rv h2.2.2)] h2
  else 
    q_go e_97 X O n 106 [(3, .int x3)] [(q_rv h2.2.2)] h2)) := by rfl
set_option maxRecDepth 20000 in
theorem b97_88 (X : q_X) (O : q_O) (n : Nat) (h : q_S) (x3 : Int32) : q_go e_97 X O (n + 1) 88 [(3, .int x3)] [.ref 2] h =
  q_c1 (O 11 h [.ref 2, .int x3]) (fun h1 v2 =>
  some (h1, some (.int v2))) := by rfl
set_option maxRecDepth 20000 in
theorem b97_88_1 (X : q_X) (O : q_O) (n : Nat) (h : q_S) (x3 : Int32) : q_go e_97 X O (n + 1) 88 [(3, .int x3)] [.ref 3] h =
  q_c1 (O 11 h [.ref 3, .int x3]) (fun h1 v2 =>
  some (h1, some (.int v2))) := by rfl
set_option maxRecDepth 20000 in
theorem b97_88_2 (X : q_X) (O : q_O) (n : Nat) (h : q_S) (x3 : Int32) : q_go e_97 X O (n + 1) 88 [(3, .int x3)] [.ref 4] h =
  q_c1 (O 15 h [.ref 4, .int x3]) (fun h1 v2 =>
  some (h1, some (.int v2))) := by rfl
set_option maxRecDepth 20000 in
theorem b97_88_3 (X : q_X) (O : q_O) (n : Nat) (h : q_S) (x3 : Int32) : q_go e_97 X O (n + 1) 88 [(3, .int x3)] [.ref 5] h =
  q_c1 (O 7 h [.ref 5, .int x3]) (fun h1 v2 =>
  some (h1, some (.int v2))) := by rfl
set_option maxRecDepth 20000 in
theorem b97_88_4 (X : q_X) (O : q_O) (n : Nat) (h : q_S) (x3 : Int32) : q_go e_97 X O (n + 1) 88 [(3, .int x3)] [.ref 6] h =
  q_c1 (O 15 h [.ref 6, .int x3]) (fun h1 v2 =>
  some (h1, some (.int v2))) := by rfl
set_option maxRecDepth 20000 in
theorem b97_88_5 (X : q_X) (O : q_O) (n : Nat) (h : q_S) (x3 : Int32) : q_go e_97 X O (n + 1) 88 [(3, .int x3)] [.null] h =
  none := by rfl
set_option maxRecDepth 20000 in
theorem b97_97 (X : q_X) (O : q_O) (n : Nat) (h : q_S) (x3 : Int32) : q_go e_97 X O (n + 1) 97 [(3, .int x3)] [.ref 2] h =
  q_c1 (O 12 h [.ref 2, .int x3]) (fun h1 v2 =>
  some (h1, some (.int v2))) := by rfl
set_option maxRecDepth 20000 in
theorem b97_97_1 (X : q_X) (O : q_O) (n : Nat) (h : q_S) (x3 : Int32) : q_go e_97 X O (n + 1) 97 [(3, .int x3)] [.ref 3] h =
  q_c1 (O 47 h [.ref 3, .int x3]) (fun h1 v2 =>
  some (h1, some (.int v2))) := by rfl
set_option maxRecDepth 20000 in
theorem b97_97_2 (X : q_X) (O : q_O) (n : Nat) (h : q_S) (x3 : Int32) : q_go e_97 X O (n + 1) 97 [(3, .int x3)] [.ref 4] h =
  q_c1 (O 12 h [.ref 4, .int x3]) (fun h1 v2 =>
  some (h1, some (.int v2))) := by rfl
set_option maxRecDepth 20000 in
theorem b97_97_3 (X : q_X) (O : q_O) (n : Nat) (h : q_S) (x3 : Int32) : q_go e_97 X O (n + 1) 97 [(3, .int x3)] [.ref 5] h =
  q_c1 (O 47 h [.ref 5, .int x3]) (fun h1 v2 =>
  some (h1, some (.int v2))) := by rfl
set_option maxRecDepth 20000 in
theorem b97_97_4 (X : q_X) (O : q_O) (n : Nat) (h : q_S) (x3 : Int32) : q_go e_97 X O (n + 1) 97 [(3, .int x3)] [.ref 6] h =
  q_c1 (O 54 h [.ref 6, .int x3]) (fun h1 v2 =>
  some (h1, some (.int v2))) := by rfl
set_option maxRecDepth 20000 in
theorem b97_97_5 (X : q_X) (O : q_O) (n : Nat) (h : q_S) (x3 : Int32) : q_go e_97 X O (n + 1) 97 [(3, .int x3)] [.null] h =
  none := by rfl
set_option maxRecDepth 20000 in
theorem b97_106 (X : q_X) (O : q_O) (n : Nat) (h : q_S) (x3 : Int32) : q_go e_97 X O (n + 1) 106 [(3, .int x3)] [.ref 2] h =
  q_c1 (O 13 h [.ref 2, .int x3]) (fun h1 v2 =>
  some (h1, some (.int v2))) := by rfl
set_option maxRecDepth 20000 in
theorem b97_106_1 (X : q_X) (O : q_O) (n : Nat) (h : q_S) (x3 : Int32) : q_go e_97 X O (n + 1) 106 [(3, .int x3)] [.ref 3] h =
  q_c1 (O 13 h [.ref 3, .int x3]) (fun h1 v2 =>
  some (h1, some (.int v2))) := by rfl
set_option maxRecDepth 20000 in
theorem b97_106_2 (X : q_X) (O : q_O) (n : Nat) (h : q_S) (x3 : Int32) : q_go e_97 X O (n + 1) 106 [(3, .int x3)] [.ref 4] h =
  q_c1 (O 13 h [.ref 4, .int x3]) (fun h1 v2 =>
  some (h1, some (.int v2))) := by rfl
set_option maxRecDepth 20000 in
theorem b97_106_3 (X : q_X) (O : q_O) (n : Nat) (h : q_S) (x3 : Int32) : q_go e_97 X O (n + 1) 106 [(3, .int x3)] [.ref 5] h =
  q_c1 (O 6 h [.ref 5, .int x3]) (fun h1 v2 =>
  some (h1, some (.int v2))) := by rfl
set_option maxRecDepth 20000 in
theorem b97_106_4 (X : q_X) (O : q_O) (n : Nat) (h : q_S) (x3 : Int32) : q_go e_97 X O (n + 1) 106 [(3, .int x3)] [.ref 6] h =
  q_c1 (O 13 h [.ref 6, .int x3]) (fun h1 v2 =>
  some (h1, some (.int v2))) := by rfl
set_option maxRecDepth 20000 in
theorem b97_106_5 (X : q_X) (O : q_O) (n : Nat) (h : q_S) (x3 : Int32) : q_go e_97 X O (n + 1) 106 [(3, .int x3)] [.null] h =
  none := by rfl
-- WhirlShafts.trace(I)I with (0, None)
set_option maxRecDepth 20000 in
theorem b98_0 (X : q_X) (O : q_O) (n : Nat) (h : q_S) (x1 : Int32) : q_go e_98 X O (n + 1) 0 [(0, .ref 0), (1, .int x1)] [] h =
  q_go e_98 X O n 4 [(0, .ref 0), (1, .int x1)] [(q_rv h.2.2)] h := by rfl
set_option maxRecDepth 20000 in
theorem b98_4 (X : q_X) (O : q_O) (n : Nat) (h : q_S) (x1 : Int32) : q_go e_98 X O (n + 1) 4 [(0, .ref 0), (1, .int x1)] [.ref 2] h =
  if x1 < 0 then
    some (h, some (.int (-2)))
  else
    q_go e_98 X O n 16 [(0, .ref 0), (1, .int x1)] [(q_rv h.2.2), .int x1] h := by rfl
set_option maxRecDepth 20000 in
theorem b98_4_1 (X : q_X) (O : q_O) (n : Nat) (h : q_S) (x1 : Int32) : q_go e_98 X O (n + 1) 4 [(0, .ref 0), (1, .int x1)] [.ref 3] h =
  if x1 < 0 then
    some (h, some (.int (-2)))
  else
    q_go e_98 X O n 16 [(0, .ref 0), (1, .int x1)] [(q_rv h.2.2), .int x1] h := by rfl
set_option maxRecDepth 20000 in
theorem b98_4_2 (X : q_X) (O : q_O) (n : Nat) (h : q_S) (x1 : Int32) : q_go e_98 X O (n + 1) 4 [(0, .ref 0), (1, .int x1)] [.ref 4] h =
  if x1 < 0 then
    some (h, some (.int (-2)))
  else
    q_go e_98 X O n 16 [(0, .ref 0), (1, .int x1)] [(q_rv h.2.2), .int x1] h := by rfl
set_option maxRecDepth 20000 in
theorem b98_4_3 (X : q_X) (O : q_O) (n : Nat) (h : q_S) (x1 : Int32) : q_go e_98 X O (n + 1) 4 [(0, .ref 0), (1, .int x1)] [.ref 5] h =
  if x1 < 0 then
    some (h, some (.int (-2)))
  else
    q_go e_98 X O n 16 [(0, .ref 0), (1, .int x1)] [(q_rv h.2.2), .int x1] h := by rfl
set_option maxRecDepth 20000 in
theorem b98_4_4 (X : q_X) (O : q_O) (n : Nat) (h : q_S) (x1 : Int32) : q_go e_98 X O (n + 1) 4 [(0, .ref 0), (1, .int x1)] [.ref 6] h =
  if x1 < 0 then
    some (h, some (.int (-2)))
  else
    q_go e_98 X O n 16 [(0, .ref 0), (1, .int x1)] [(q_rv h.2.2), .int x1] h := by rfl
set_option maxRecDepth 20000 in
theorem b98_4_5 (X : q_X) (O : q_O) (n : Nat) (h : q_S) (x1 : Int32) : q_go e_98 X O (n + 1) 4 [(0, .ref 0), (1, .int x1)] [.null] h =
  some (h, some (.int (-2))) := by rfl
set_option maxRecDepth 20000 in
theorem b98_16 (X : q_X) (O : q_O) (n : Nat) (h : q_S) (x1 : Int32) (s1 : Int32) : q_go e_98 X O (n + 1) 16 [(0, .ref 0), (1, .int x1)] [.ref 2, .int s1] h =
  if s1 < (h.1 2 1) then
    q_go e_98 X O n 29 [(1, .int x1)] [(q_rv h.2.2)] h
  else
    some (h, some (.int (-2))) := by rfl
set_option maxRecDepth 20000 in
theorem b98_16_1 (X : q_X) (O : q_O) (n : Nat) (h : q_S) (x1 : Int32) (s1 : Int32) : q_go e_98 X O (n + 1) 16 [(0, .ref 0), (1, .int x1)] [.ref 3, .int s1] h =
  if s1 < (h.1 3 1) then
    q_go e_98 X O n 29 [(1, .int x1)] [(q_rv h.2.2)] h
  else
    some (h, some (.int (-2))) := by rfl
set_option maxRecDepth 20000 in
theorem b98_16_2 (X : q_X) (O : q_O) (n : Nat) (h : q_S) (x1 : Int32) (s1 : Int32) : q_go e_98 X O (n + 1) 16 [(0, .ref 0), (1, .int x1)] [.ref 4, .int s1] h =
  if s1 < (h.1 4 1) then
    q_go e_98 X O n 29 [(1, .int x1)] [(q_rv h.2.2)] h
  else
    some (h, some (.int (-2))) := by rfl
set_option maxRecDepth 20000 in
theorem b98_16_3 (X : q_X) (O : q_O) (n : Nat) (h : q_S) (x1 : Int32) (s1 : Int32) : q_go e_98 X O (n + 1) 16 [(0, .ref 0), (1, .int x1)] [.ref 5, .int s1] h =
  if s1 < (h.1 5 1) then
    q_go e_98 X O n 29 [(1, .int x1)] [(q_rv h.2.2)] h
  else
    some (h, some (.int (-2))) := by rfl
set_option maxRecDepth 20000 in
theorem b98_16_4 (X : q_X) (O : q_O) (n : Nat) (h : q_S) (x1 : Int32) (s1 : Int32) : q_go e_98 X O (n + 1) 16 [(0, .ref 0), (1, .int x1)] [.ref 6, .int s1] h =
  if s1 < (h.1 6 1) then
    q_go e_98 X O n 29 [(1, .int x1)] [(q_rv h.2.2)] h
  else
    some (h, some (.int (-2))) := by rfl
set_option maxRecDepth 20000 in
theorem b98_16_5 (X : q_X) (O : q_O) (n : Nat) (h : q_S) (x1 : Int32) (s1 : Int32) : q_go e_98 X O (n + 1) 16 [(0, .ref 0), (1, .int x1)] [.null, .int s1] h =
  none := by rfl
set_option maxRecDepth 20000 in
theorem b98_29 (X : q_X) (O : q_O) (n : Nat) (h : q_S) (x1 : Int32) : q_go e_98 X O (n + 1) 29 [(1, .int x1)] [.ref 2] h =
  q_ix x1 24 (fun j1 =>
  some (h, some (.int (h.1 7 j1)))) := by rfl
set_option maxRecDepth 20000 in
theorem b98_29_1 (X : q_X) (O : q_O) (n : Nat) (h : q_S) (x1 : Int32) : q_go e_98 X O (n + 1) 29 [(1, .int x1)] [.ref 3] h =
  q_ix x1 24 (fun j1 =>
  some (h, some (.int (h.1 8 j1)))) := by rfl
set_option maxRecDepth 20000 in
theorem b98_29_2 (X : q_X) (O : q_O) (n : Nat) (h : q_S) (x1 : Int32) : q_go e_98 X O (n + 1) 29 [(1, .int x1)] [.ref 4] h =
  q_ix x1 24 (fun j1 =>
  some (h, some (.int (h.1 9 j1)))) := by rfl
set_option maxRecDepth 20000 in
theorem b98_29_3 (X : q_X) (O : q_O) (n : Nat) (h : q_S) (x1 : Int32) : q_go e_98 X O (n + 1) 29 [(1, .int x1)] [.ref 5] h =
  q_ix x1 24 (fun j1 =>
  some (h, some (.int (h.1 10 j1)))) := by rfl
set_option maxRecDepth 20000 in
theorem b98_29_4 (X : q_X) (O : q_O) (n : Nat) (h : q_S) (x1 : Int32) : q_go e_98 X O (n + 1) 29 [(1, .int x1)] [.ref 6] h =
  q_ix x1 24 (fun j1 =>
  some (h, some (.int (h.1 11 j1)))) := by rfl
set_option maxRecDepth 20000 in
theorem b98_29_5 (X : q_X) (O : q_O) (n : Nat) (h : q_S) (x1 : Int32) : q_go e_98 X O (n + 1) 29 [(1, .int x1)] [.null] h =
  none := by rfl
-- WhirlShafts.taken(II)I with (0, None, None)
set_option maxRecDepth 20000 in
theorem b99_0 (X : q_X) (O : q_O) (n : Nat) (h : q_S) (x1 : Int32) (x2 : Int32) : q_go e_99 X O (n + 1) 0 [(0, .ref 0), (1, .int x1), (2, .int x2)] [] h =
  q_c1 (O 19 h [.ref 12, .int x1]) (fun h1 v2 =>
  if v2 = 0 then
    some (h1, some (.int (-1)))
  else
    q_c1 (O 104 h1 [.int x2]) (fun h3 v4 =>
    if v4 = 0 then
      some (h3, some (.int (-1)))
    else
      q_ix x1 8 (fun j5 =>
      q_c1 (O 110 h3 [.int (h3.1 13 j5), .int x2]) (fun h6 v7 =>
      if v7 = 0 then
        some (h6, some (.int (-5)))
      else
        q_ix x1 8 (fun j8 =>
        some (h6, some (.int (h6.1 14 j8)))))))) := by rfl
-- WhirlShafts.image()I with (0,)
set_option maxRecDepth 20000 in
theorem b100_0 (X : q_X) (O : q_O) (n : Nat) (h : q_S)  : q_go e_100 X O (n + 1) 0 [(0, .ref 0)] [] h =
  q_c0 (O 16 h [.ref 24, .ref 12]) (fun h1 =>
  q_c0 (O 35 h1 [.ref 34, .ref 30]) (fun h2 =>
  some ((q_si h2 0 5 1), some (.int (h2.1 24 6))))) := by rfl
-- WhirlShafts.alike()I with (0,)
set_option maxRecDepth 20000 in
theorem b101_0 (X : q_X) (O : q_O) (n : Nat) (h : q_S)  : q_go e_101 X O (n + 1) 0 [(0, .ref 0)] [] h =
  if (h.1 0 5) = 0 then
    some (h, some (.int (-5)))
  else
    q_c1 (O 33 h [.ref 12, .ref 24]) (fun h1 v2 =>
    if v2 = 0 then
      some (h1, some (.int 0))
    else
      some (h1, some (.int 1))) := by rfl
-- WhirlShafts.back()I with (0,)
set_option maxRecDepth 20000 in
theorem b102_0 (X : q_X) (O : q_O) (n : Nat) (h : q_S)  : q_go e_102 X O (n + 1) 0 [(0, .ref 0)] [] h =
  if (h.1 0 5) = 0 then
    some (h, some (.int (-5)))
  else
    q_c0 (O 16 h [.ref 12, .ref 24]) (fun h1 =>
    q_c0 (O 35 h1 [.ref 30, .ref 34]) (fun h2 =>
    q_c0 (O 0 h2 [.ref 38]) (fun h3 =>
    some (h3, some (.int (h3.1 12 6)))))) := by rfl
-- WhirlShafts.count(I)I with (0, None)
set_option maxRecDepth 20000 in
theorem b103_0 (X : q_X) (O : q_O) (n : Nat) (h : q_S) (x1 : Int32) : q_go e_103 X O (n + 1) 0 [(0, .ref 0), (1, .int x1)] [] h =
  if x1 = 0 then
    some (h, some (.int (h.1 12 6)))
  else if x1 = 1 then
    some (h, some (.int (h.1 12 7)))
  else if x1 = 2 then
    some (h, some (.int (h.1 12 8)))
  else if x1 = 3 then
    q_c1 (O 25 h [.ref 12, .int ((h.1 12 6) - 1)]) (fun h1 v2 =>
    some (h1, some (.int v2)))
  else if x1 = 4 then
    some (h, some (.int (h.1 30 3)))
  else if x1 = 5 then
    some (h, some (.int (h.1 38 4)))
  else if x1 = 6 then
    some (h, some (.int (h.1 38 5)))
  else if x1 = 7 then
    some (h, some (.int (h.1 57 1)))
  else if x1 = 8 then
    q_c1 (O 111 h [.ref 0]) (fun h3 v4 =>
    some (h3, some (.int v4)))
  else 
    some (h, some (.int (-1))) := by rfl
-- WhirlShafts.isKind(I)Z with (None,)
set_option maxRecDepth 20000 in
theorem b104_0 (X : q_X) (O : q_O) (n : Nat) (h : q_S) (x0 : Int32) : q_go e_104 X O (n + 1) 0 [(0, .int x0)] [] h =
  if x0 < 0 then
    some (h, some (.int 0))
  else
    q_len X 102 (fun w1 =>
    if x0 < w1 then
      some (h, some (.int 1))
    else
      some (h, some (.int 0))) := by rfl
-- WhirlShafts.inRange(II)Z with (None, None)
set_option maxRecDepth 20000 in
theorem b105_0 (X : q_X) (O : q_O) (n : Nat) (h : q_S) (x0 : Int32) (x1 : Int32) : q_go e_105 X O (n + 1) 0 [(0, .int x0), (1, .int x1)] [] h =
  q_ald X h 103 x0 (fun w2 =>
  if x1 < w2 then
    some (h, some (.int 0))
  else
    q_ald X h 104 x0 (fun w4 =>
    if w4 < x1 then
      some (h, some (.int 0))
    else
      some (h, some (.int 1)))) := by rfl
-- WhirlShafts.isQ(I)Z with (None,)
set_option maxRecDepth 20000 in
theorem b106_0 (X : q_X) (O : q_O) (n : Nat) (h : q_S) (x0 : Int32) : q_go e_106 X O (n + 1) 0 [(0, .int x0)] [] h =
  if x0 < 1 then
    some (h, some (.int 0))
  else
    if 16 < x0 then
      some (h, some (.int 0))
    else
      some (h, some (.int 1)) := by rfl
-- WhirlShafts.isPoint(II)Z with (None, None)
set_option maxRecDepth 20000 in
theorem b107_0 (X : q_X) (O : q_O) (n : Nat) (h : q_S) (x0 : Int32) (x1 : Int32) : q_go e_107 X O (n + 1) 0 [(0, .int x0), (1, .int x1)] [] h =
  if x0 < 0 then
    some (h, some (.int 0))
  else
    if 9999 < x0 then
      some (h, some (.int 0))
    else
      q_c1 (O 106 h [.int x1]) (fun h1 v2 =>
      if v2 = 0 then
        some (h1, some (.int 0))
      else
        some (h1, some (.int 1))) := by rfl
-- WhirlShafts.isBand(III)Z with (None, None, None)
set_option maxRecDepth 20000 in
theorem b108_0 (X : q_X) (O : q_O) (n : Nat) (h : q_S) (x0 : Int32) (x1 : Int32) (x2 : Int32) : q_go e_108 X O (n + 1) 0 [(0, .int x0), (1, .int x1), (2, .int x2)] [] h =
  q_c1 (O 107 h [.int x0, .int x2]) (fun h1 v2 =>
  if v2 = 0 then
    some (h1, some (.int 0))
  else
    q_c1 (O 107 h1 [.int x1, .int x2]) (fun h3 v4 =>
    if v4 = 0 then
      some (h3, some (.int 0))
    else
      if x1 < x0 then
        some (h3, some (.int 0))
      else
        some (h3, some (.int 1)))) := by rfl
-- WhirlShafts.isRow(I)Z with (None,)
set_option maxRecDepth 20000 in
theorem b109_0 (X : q_X) (O : q_O) (n : Nat) (h : q_S) (x0 : Int32) : q_go e_109 X O (n + 1) 0 [(0, .int x0)] [] h =
  if x0 < 0 then
    some (h, some (.int 0))
  else
    if x0 < 3 then
      some (h, some (.int 1))
    else
      some (h, some (.int 0)) := by rfl
-- WhirlShafts.isUnder(II)Z with (None, None)
set_option maxRecDepth 20000 in
theorem b110_0 (X : q_X) (O : q_O) (n : Nat) (h : q_S) (x0 : Int32) (x1 : Int32) : q_go e_110 X O (n + 1) 0 [(0, .int x0), (1, .int x1)] [] h =
  q_go e_110 X O n 4 [(1, .int x1), (2, .int x0), (3, .int 0)] [] h := by rfl
set_option maxRecDepth 20000 in
theorem b110_4 (X : q_X) (O : q_O) (n : Nat) (h : q_S) (x1 : Int32) (x2 : Int32) (x3 : Int32) : q_go e_110 X O (n + 1) 4 [(1, .int x1), (2, .int x2), (3, .int x3)] [] h =
  q_len X 102 (fun w1 =>
  if x3 < w1 then
    if x2 < 0 then
      some (h, some (.int 0))
    else
      if x2 = x1 then
        some (h, some (.int 1))
      else
        q_ald X h 102 x2 (fun w3 =>
        q_go e_110 X O n 4 [(1, .int x1), (2, .int w3), (3, .int (x3 + 1))] [] h)
  else
    some (h, some (.int 0))) := by rfl
-- WhirlShafts.rowsThere()I with (0,)
set_option maxRecDepth 20000 in
theorem b111_0 (X : q_X) (O : q_O) (n : Nat) (h : q_S)  : q_go e_111 X O (n + 1) 0 [(0, .ref 0)] [] h =
  q_go e_111 X O n 4 [(0, .ref 0), (1, .int 0), (2, .int 0)] [] h := by rfl
set_option maxRecDepth 20000 in
theorem b111_4 (X : q_X) (O : q_O) (n : Nat) (h : q_S) (x1 : Int32) (x2 : Int32) : q_go e_111 X O (n + 1) 4 [(0, .ref 0), (1, .int x1), (2, .int x2)] [] h =
  if x2 < 3 then
    q_ix x2 3 (fun j1 =>
    q_go e_111 X O n 15 [(0, .ref 0), (1, .int x1), (2, .int x2)] [.ref (q_rf 60 j1)] h)
  else
    some (h, some (.int x1)) := by rfl
set_option maxRecDepth 20000 in
theorem b111_15 (X : q_X) (O : q_O) (n : Nat) (h : q_S) (x1 : Int32) (x2 : Int32) : q_go e_111 X O (n + 1) 15 [(0, .ref 0), (1, .int x1), (2, .int x2)] [.ref 61] h =
  q_c1 (O 48 h [.ref 61]) (fun h1 v2 =>
  if v2 = 0 then
    q_go e_111 X O n 4 [(0, .ref 0), (1, .int (x1 + 1)), (2, .int (x2 + 1))] [] h1
  else
    q_go e_111 X O n 4 [(0, .ref 0), (1, .int x1), (2, .int (x2 + 1))] [] h1) := by rfl
set_option maxRecDepth 20000 in
theorem b111_15_1 (X : q_X) (O : q_O) (n : Nat) (h : q_S) (x1 : Int32) (x2 : Int32) : q_go e_111 X O (n + 1) 15 [(0, .ref 0), (1, .int x1), (2, .int x2)] [.ref 62] h =
  q_c1 (O 48 h [.ref 62]) (fun h1 v2 =>
  if v2 = 0 then
    q_go e_111 X O n 4 [(0, .ref 0), (1, .int (x1 + 1)), (2, .int (x2 + 1))] [] h1
  else
    q_go e_111 X O n 4 [(0, .ref 0), (1, .int x1), (2, .int (x2 + 1))] [] h1) := by rfl
set_option maxRecDepth 20000 in
theorem b111_15_2 (X : q_X) (O : q_O) (n : Nat) (h : q_S) (x1 : Int32) (x2 : Int32) : q_go e_111 X O (n + 1) 15 [(0, .ref 0), (1, .int x1), (2, .int x2)] [.ref 63] h =
  q_c1 (O 48 h [.ref 63]) (fun h1 v2 =>
  if v2 = 0 then
    q_go e_111 X O n 4 [(0, .ref 0), (1, .int (x1 + 1)), (2, .int (x2 + 1))] [] h1
  else
    q_go e_111 X O n 4 [(0, .ref 0), (1, .int x1), (2, .int (x2 + 1))] [] h1) := by rfl
-- WhirlShafts.fenceBy(LWhirlShafts$Line;II)I with (0, 12, None, None)
set_option maxRecDepth 20000 in
theorem b112_0 (X : q_X) (O : q_O) (n : Nat) (h : q_S) (x2 : Int32) (x3 : Int32) : q_go e_112 X O (n + 1) 0 [(0, .ref 0), (1, .ref 12), (2, .int x2), (3, .int x3)] [] h =
  q_c0 (O 36 h [.ref 43, .ref 12]) (fun h1 =>
  q_c1 (O 43 h1 [.ref 43, .int x2, .int x3]) (fun h2 v3 =>
  some (h2, some (.int v3)))) := by rfl
-- WhirlShafts.fenceBy(LWhirlShafts$Line;II)I with (0, 18, None, None)
set_option maxRecDepth 20000 in
theorem b112_0_1 (X : q_X) (O : q_O) (n : Nat) (h : q_S) (x2 : Int32) (x3 : Int32) : q_go e_112 X O (n + 1) 0 [(0, .ref 0), (1, .ref 18), (2, .int x2), (3, .int x3)] [] h =
  q_c0 (O 36 h [.ref 43, .ref 18]) (fun h1 =>
  q_c1 (O 43 h1 [.ref 43, .int x2, .int x3]) (fun h2 v3 =>
  some (h2, some (.int v3)))) := by rfl
-- WhirlShafts.fenceByMass(IIII)I with (0, None, None, None, None)
set_option maxRecDepth 20000 in
theorem b113_0 (X : q_X) (O : q_O) (n : Nat) (h : q_S) (x1 : Int32) (x2 : Int32) (x3 : Int32) (x4 : Int32) : q_go e_113 X O (n + 1) 0 [(0, .ref 0), (1, .int x1), (2, .int x2), (3, .int x3), (4, .int x4)] [] h =
  q_ix x1 8 (fun j1 =>
  q_c1 (O 112 (q_si h 20 j1 x2) [.ref 0, .ref 18, .int x3, .int x4]) (fun h2 v3 =>
  some (h2, some (.int v3)))) := by rfl
-- WhirlShafts.leastMassWithin(IIII)I with (0, None, None, None, None)
set_option maxRecDepth 20000 in
theorem b114_0 (X : q_X) (O : q_O) (n : Nat) (h : q_S) (x1 : Int32) (x2 : Int32) (x3 : Int32) (x4 : Int32) : q_go e_114 X O (n + 1) 0 [(0, .ref 0), (1, .int x1), (2, .int x2), (3, .int x3), (4, .int x4)] [] h =
  q_go e_114 X O n 7 [(0, .ref 0), (1, .int x1), (2, .int x2), (3, .int x3), (4, .int x4), (5, .int 0), (6, .int 64)] [] h := by rfl
set_option maxRecDepth 20000 in
theorem b114_7 (X : q_X) (O : q_O) (n : Nat) (h : q_S) (x1 : Int32) (x2 : Int32) (x3 : Int32) (x4 : Int32) (x5 : Int32) (x6 : Int32) : q_go e_114 X O (n + 1) 7 [(0, .ref 0), (1, .int x1), (2, .int x2), (3, .int x3), (4, .int x4), (5, .int x5), (6, .int x6)] [] h =
  if 0 < x6 then
    if 99 < (x5 + x6) then
      q_go e_114 X O n 7 [(0, .ref 0), (1, .int x1), (2, .int x2), (3, .int x3), (4, .int x4), (5, .int x5), (6, .int (x6 >>> (1 &&& 31)))] [] h
    else
      q_ix x1 8 (fun j1 =>
      q_c0 (O 36 (q_si h 20 j1 (x5 + x6)) [.ref 43, .ref 18]) (fun h2 =>
      q_c1 (O 37 h2 [.ref 43, .int (x3 + 1), .int x4]) (fun h3 v4 =>
      if x2 < v4 then
        q_go e_114 X O n 7 [(0, .ref 0), (1, .int x1), (2, .int x2), (3, .int x3), (4, .int x4), (5, .int x5), (6, .int (x6 >>> (1 &&& 31)))] [] h3
      else
        q_go e_114 X O n 7 [(0, .ref 0), (1, .int x1), (2, .int x2), (3, .int x3), (4, .int x4), (5, .int (x5 + x6)), (6, .int (x6 >>> (1 &&& 31)))] [] h3)))
  else
    some (h, some (.int (x5 + 1))) := by rfl
-- WhirlShafts.trialFits(LWhirlShafts$Row;II)Z with (0, 61, None, None)
set_option maxRecDepth 20000 in
theorem b115_0 (X : q_X) (O : q_O) (n : Nat) (h : q_S) (x2 : Int32) (x3 : Int32) : q_go e_115 X O (n + 1) 0 [(0, .ref 0), (1, .ref 61), (2, .int x2), (3, .int x3)] [] h =
  q_c0 (O 36 h [.ref 43, .ref 18]) (fun h1 =>
  q_go e_115 X O n 14 [(0, .ref 0), (1, .ref 61), (2, .int x2), (3, .int x3), (4, .int 0)] [] h1) := by rfl
set_option maxRecDepth 20000 in
theorem b115_14 (X : q_X) (O : q_O) (n : Nat) (h : q_S) (x2 : Int32) (x3 : Int32) (x4 : Int32) : q_go e_115 X O (n + 1) 14 [(0, .ref 0), (1, .ref 61), (2, .int x2), (3, .int x3), (4, .int x4)] [] h =
  if x4 < x2 then
    q_ix x4 40 (fun j1 =>
    q_c1 (O 44 h [.ref 43, .int x4, .int x3, .long (h.2.1 64 j1)]) (fun h2 v3 =>
    if v3 = 0 then
      some (h2, some (.int 0))
    else
      q_go e_115 X O n 14 [(0, .ref 0), (1, .ref 61), (2, .int x2), (3, .int x3), (4, .int (x4 + 1))] [] h2))
  else
    some (h, some (.int 1)) := by rfl
-- WhirlShafts.trialFits(LWhirlShafts$Row;II)Z with (0, 62, None, None)
set_option maxRecDepth 20000 in
theorem b115_0_1 (X : q_X) (O : q_O) (n : Nat) (h : q_S) (x2 : Int32) (x3 : Int32) : q_go e_115 X O (n + 1) 0 [(0, .ref 0), (1, .ref 62), (2, .int x2), (3, .int x3)] [] h =
  q_c0 (O 36 h [.ref 43, .ref 18]) (fun h1 =>
  q_go e_115 X O n 14 [(0, .ref 0), (1, .ref 62), (2, .int x2), (3, .int x3), (4, .int 0)] [] h1) := by rfl
set_option maxRecDepth 20000 in
theorem b115_14_1 (X : q_X) (O : q_O) (n : Nat) (h : q_S) (x2 : Int32) (x3 : Int32) (x4 : Int32) : q_go e_115 X O (n + 1) 14 [(0, .ref 0), (1, .ref 62), (2, .int x2), (3, .int x3), (4, .int x4)] [] h =
  if x4 < x2 then
    q_ix x4 40 (fun j1 =>
    q_c1 (O 44 h [.ref 43, .int x4, .int x3, .long (h.2.1 65 j1)]) (fun h2 v3 =>
    if v3 = 0 then
      some (h2, some (.int 0))
    else
      q_go e_115 X O n 14 [(0, .ref 0), (1, .ref 62), (2, .int x2), (3, .int x3), (4, .int (x4 + 1))] [] h2))
  else
    some (h, some (.int 1)) := by rfl
-- WhirlShafts.trialFits(LWhirlShafts$Row;II)Z with (0, 63, None, None)
set_option maxRecDepth 20000 in
theorem b115_0_2 (X : q_X) (O : q_O) (n : Nat) (h : q_S) (x2 : Int32) (x3 : Int32) : q_go e_115 X O (n + 1) 0 [(0, .ref 0), (1, .ref 63), (2, .int x2), (3, .int x3)] [] h =
  q_c0 (O 36 h [.ref 43, .ref 18]) (fun h1 =>
  q_go e_115 X O n 14 [(0, .ref 0), (1, .ref 63), (2, .int x2), (3, .int x3), (4, .int 0)] [] h1) := by rfl
set_option maxRecDepth 20000 in
theorem b115_14_2 (X : q_X) (O : q_O) (n : Nat) (h : q_S) (x2 : Int32) (x3 : Int32) (x4 : Int32) : q_go e_115 X O (n + 1) 14 [(0, .ref 0), (1, .ref 63), (2, .int x2), (3, .int x3), (4, .int x4)] [] h =
  if x4 < x2 then
    q_ix x4 40 (fun j1 =>
    q_c1 (O 44 h [.ref 43, .int x4, .int x3, .long (h.2.1 66 j1)]) (fun h2 v3 =>
    if v3 = 0 then
      some (h2, some (.int 0))
    else
      q_go e_115 X O n 14 [(0, .ref 0), (1, .ref 63), (2, .int x2), (3, .int x3), (4, .int (x4 + 1))] [] h2))
  else
    some (h, some (.int 1)) := by rfl
-- WhirlShafts.massesThatFit(LWhirlShafts$Row;IIIZ)I with (0, 61, None, None, None, None)
set_option maxRecDepth 20000 in
theorem b116_0 (X : q_X) (O : q_O) (n : Nat) (h : q_S) (x2 : Int32) (x3 : Int32) (x4 : Int32) (x5 : Int32) : q_go e_116 X O (n + 1) 0 [(0, .ref 0), (1, .ref 61), (2, .int x2), (3, .int x3), (4, .int x4), (5, .int x5)] [] h =
  q_go e_116 X O n 6 [(0, .ref 0), (1, .ref 61), (2, .int x2), (3, .int x3), (4, .int x4), (5, .int x5), (6, .int 0), (7, .int 1)] [] h := by rfl
set_option maxRecDepth 20000 in
theorem b116_6 (X : q_X) (O : q_O) (n : Nat) (h : q_S) (x2 : Int32) (x3 : Int32) (x4 : Int32) (x5 : Int32) (x6 : Int32) (x7 : Int32) : q_go e_116 X O (n + 1) 6 [(0, .ref 0), (1, .ref 61), (2, .int x2), (3, .int x3), (4, .int x4), (5, .int x5), (6, .int x6), (7, .int x7)] [] h =
  if 99 < x7 then
    if x5 = 0 then
      some (h, some (.int x6))
    else
      some (h, some (.int (-2)))
  else
    q_ix x4 8 (fun j1 =>
    q_c1 (O 115 (q_si h 20 j1 x7) [.ref 0, .ref 61, .int x2, .int x3]) (fun h2 v3 =>
    if v3 = 0 then
      q_go e_116 X O n 6 [(0, .ref 0), (1, .ref 61), (2, .int x2), (3, .int x3), (4, .int x4), (5, .int x5), (6, .int x6), (7, .int (x7 + 1))] [] h2
    else
      if x5 = 0 then
        q_go e_116 X O n 6 [(0, .ref 0), (1, .ref 61), (2, .int x2), (3, .int x3), (4, .int x4), (5, .int x5), (6, .int (x6 + 1)), (7, .int (x7 + 1))] [] h2
      else
        some (h2, some (.int x7)))) := by rfl
-- WhirlShafts.massesThatFit(LWhirlShafts$Row;IIIZ)I with (0, 62, None, None, None, None)
set_option maxRecDepth 20000 in
theorem b116_0_1 (X : q_X) (O : q_O) (n : Nat) (h : q_S) (x2 : Int32) (x3 : Int32) (x4 : Int32) (x5 : Int32) : q_go e_116 X O (n + 1) 0 [(0, .ref 0), (1, .ref 62), (2, .int x2), (3, .int x3), (4, .int x4), (5, .int x5)] [] h =
  q_go e_116 X O n 6 [(0, .ref 0), (1, .ref 62), (2, .int x2), (3, .int x3), (4, .int x4), (5, .int x5), (6, .int 0), (7, .int 1)] [] h := by rfl
set_option maxRecDepth 20000 in
theorem b116_6_1 (X : q_X) (O : q_O) (n : Nat) (h : q_S) (x2 : Int32) (x3 : Int32) (x4 : Int32) (x5 : Int32) (x6 : Int32) (x7 : Int32) : q_go e_116 X O (n + 1) 6 [(0, .ref 0), (1, .ref 62), (2, .int x2), (3, .int x3), (4, .int x4), (5, .int x5), (6, .int x6), (7, .int x7)] [] h =
  if 99 < x7 then
    if x5 = 0 then
      some (h, some (.int x6))
    else
      some (h, some (.int (-2)))
  else
    q_ix x4 8 (fun j1 =>
    q_c1 (O 115 (q_si h 20 j1 x7) [.ref 0, .ref 62, .int x2, .int x3]) (fun h2 v3 =>
    if v3 = 0 then
      q_go e_116 X O n 6 [(0, .ref 0), (1, .ref 62), (2, .int x2), (3, .int x3), (4, .int x4), (5, .int x5), (6, .int x6), (7, .int (x7 + 1))] [] h2
    else
      if x5 = 0 then
        q_go e_116 X O n 6 [(0, .ref 0), (1, .ref 62), (2, .int x2), (3, .int x3), (4, .int x4), (5, .int x5), (6, .int (x6 + 1)), (7, .int (x7 + 1))] [] h2
      else
        some (h2, some (.int x7)))) := by rfl
-- WhirlShafts.massesThatFit(LWhirlShafts$Row;IIIZ)I with (0, 63, None, None, None, None)
set_option maxRecDepth 20000 in
theorem b116_0_2 (X : q_X) (O : q_O) (n : Nat) (h : q_S) (x2 : Int32) (x3 : Int32) (x4 : Int32) (x5 : Int32) : q_go e_116 X O (n + 1) 0 [(0, .ref 0), (1, .ref 63), (2, .int x2), (3, .int x3), (4, .int x4), (5, .int x5)] [] h =
  q_go e_116 X O n 6 [(0, .ref 0), (1, .ref 63), (2, .int x2), (3, .int x3), (4, .int x4), (5, .int x5), (6, .int 0), (7, .int 1)] [] h := by rfl
set_option maxRecDepth 20000 in
theorem b116_6_2 (X : q_X) (O : q_O) (n : Nat) (h : q_S) (x2 : Int32) (x3 : Int32) (x4 : Int32) (x5 : Int32) (x6 : Int32) (x7 : Int32) : q_go e_116 X O (n + 1) 6 [(0, .ref 0), (1, .ref 63), (2, .int x2), (3, .int x3), (4, .int x4), (5, .int x5), (6, .int x6), (7, .int x7)] [] h =
  if 99 < x7 then
    if x5 = 0 then
      some (h, some (.int x6))
    else
      some (h, some (.int (-2)))
  else
    q_ix x4 8 (fun j1 =>
    q_c1 (O 115 (q_si h 20 j1 x7) [.ref 0, .ref 63, .int x2, .int x3]) (fun h2 v3 =>
    if v3 = 0 then
      q_go e_116 X O n 6 [(0, .ref 0), (1, .ref 63), (2, .int x2), (3, .int x3), (4, .int x4), (5, .int x5), (6, .int x6), (7, .int (x7 + 1))] [] h2
    else
      if x5 = 0 then
        q_go e_116 X O n 6 [(0, .ref 0), (1, .ref 63), (2, .int x2), (3, .int x3), (4, .int x4), (5, .int x5), (6, .int (x6 + 1)), (7, .int (x7 + 1))] [] h2
      else
        some (h2, some (.int x7)))) := by rfl
-- WhirlShafts.kindsThatFit(LWhirlShafts$Row;III)I with (0, 61, None, None, None)
set_option maxRecDepth 20000 in
theorem b117_0 (X : q_X) (O : q_O) (n : Nat) (h : q_S) (x2 : Int32) (x3 : Int32) (x4 : Int32) : q_go e_117 X O (n + 1) 0 [(0, .ref 0), (1, .ref 61), (2, .int x2), (3, .int x3), (4, .int x4)] [] h =
  q_go e_117 X O n 6 [(0, .ref 0), (1, .ref 61), (2, .int x2), (3, .int x3), (4, .int x4), (5, .int 0), (6, .int 0)] [] h := by rfl
set_option maxRecDepth 20000 in
theorem b117_6 (X : q_X) (O : q_O) (n : Nat) (h : q_S) (x2 : Int32) (x3 : Int32) (x4 : Int32) (x5 : Int32) (x6 : Int32) : q_go e_117 X O (n + 1) 6 [(0, .ref 0), (1, .ref 61), (2, .int x2), (3, .int x3), (4, .int x4), (5, .int x5), (6, .int x6)] [] h =
  q_len X 102 (fun w1 =>
  if x6 < w1 then
    q_ix x4 8 (fun j2 =>
    q_c1 (O 115 (q_si h 19 j2 x6) [.ref 0, .ref 61, .int x2, .int x3]) (fun h3 v4 =>
    if v4 = 0 then
      q_go e_117 X O n 6 [(0, .ref 0), (1, .ref 61), (2, .int x2), (3, .int x3), (4, .int x4), (5, .int x5), (6, .int (x6 + 1))] [] h3
    else
      q_go e_117 X O n 6 [(0, .ref 0), (1, .ref 61), (2, .int x2), (3, .int x3), (4, .int x4), (5, .int (x5 ||| (1 <<< (x6 &&& 31)))), (6, .int (x6 + 1))] [] h3))
  else
    some (h, some (.int x5))) := by rfl
-- WhirlShafts.kindsThatFit(LWhirlShafts$Row;III)I with (0, 62, None, None, None)
set_option maxRecDepth 20000 in
theorem b117_0_1 (X : q_X) (O : q_O) (n : Nat) (h : q_S) (x2 : Int32) (x3 : Int32) (x4 : Int32) : q_go e_117 X O (n + 1) 0 [(0, .ref 0), (1, .ref 62), (2, .int x2), (3, .int x3), (4, .int x4)] [] h =
  q_go e_117 X O n 6 [(0, .ref 0), (1, .ref 62), (2, .int x2), (3, .int x3), (4, .int x4), (5, .int 0), (6, .int 0)] [] h := by rfl
set_option maxRecDepth 20000 in
theorem b117_6_1 (X : q_X) (O : q_O) (n : Nat) (h : q_S) (x2 : Int32) (x3 : Int32) (x4 : Int32) (x5 : Int32) (x6 : Int32) : q_go e_117 X O (n + 1) 6 [(0, .ref 0), (1, .ref 62), (2, .int x2), (3, .int x3), (4, .int x4), (5, .int x5), (6, .int x6)] [] h =
  q_len X 102 (fun w1 =>
  if x6 < w1 then
    q_ix x4 8 (fun j2 =>
    q_c1 (O 115 (q_si h 19 j2 x6) [.ref 0, .ref 62, .int x2, .int x3]) (fun h3 v4 =>
    if v4 = 0 then
      q_go e_117 X O n 6 [(0, .ref 0), (1, .ref 62), (2, .int x2), (3, .int x3), (4, .int x4), (5, .int x5), (6, .int (x6 + 1))] [] h3
    else
      q_go e_117 X O n 6 [(0, .ref 0), (1, .ref 62), (2, .int x2), (3, .int x3), (4, .int x4), (5, .int (x5 ||| (1 <<< (x6 &&& 31)))), (6, .int (x6 + 1))] [] h3))
  else
    some (h, some (.int x5))) := by rfl
-- WhirlShafts.kindsThatFit(LWhirlShafts$Row;III)I with (0, 63, None, None, None)
set_option maxRecDepth 20000 in
theorem b117_0_2 (X : q_X) (O : q_O) (n : Nat) (h : q_S) (x2 : Int32) (x3 : Int32) (x4 : Int32) : q_go e_117 X O (n + 1) 0 [(0, .ref 0), (1, .ref 63), (2, .int x2), (3, .int x3), (4, .int x4)] [] h =
  q_go e_117 X O n 6 [(0, .ref 0), (1, .ref 63), (2, .int x2), (3, .int x3), (4, .int x4), (5, .int 0), (6, .int 0)] [] h := by rfl
set_option maxRecDepth 20000 in
theorem b117_6_2 (X : q_X) (O : q_O) (n : Nat) (h : q_S) (x2 : Int32) (x3 : Int32) (x4 : Int32) (x5 : Int32) (x6 : Int32) : q_go e_117 X O (n + 1) 6 [(0, .ref 0), (1, .ref 63), (2, .int x2), (3, .int x3), (4, .int x4), (5, .int x5), (6, .int x6)] [] h =
  q_len X 102 (fun w1 =>
  if x6 < w1 then
    q_ix x4 8 (fun j2 =>
    q_c1 (O 115 (q_si h 19 j2 x6) [.ref 0, .ref 63, .int x2, .int x3]) (fun h3 v4 =>
    if v4 = 0 then
      q_go e_117 X O n 6 [(0, .ref 0), (1, .ref 63), (2, .int x2), (3, .int x3), (4, .int x4), (5, .int x5), (6, .int (x6 + 1))] [] h3
    else
      q_go e_117 X O n 6 [(0, .ref 0), (1, .ref 63), (2, .int x2), (3, .int x3), (4, .int x4), (5, .int (x5 ||| (1 <<< (x6 &&& 31)))), (6, .int (x6 + 1))] [] h3))
  else
    some (h, some (.int x5))) := by rfl
-- WhirlShafts.doActs()I with (0,)
set_option maxRecDepth 20000 in
theorem b118_0 (X : q_X) (O : q_O) (n : Nat) (h : q_S)  : q_go e_118 X O (n + 1) 0 [(0, .ref 0)] [] h =
  q_go e_118 X O n 12 [(0, .ref 0), (1, .int 0), (2, .int 0)] [] (q_si h 57 2 0) := by rfl
set_option maxRecDepth 20000 in
theorem b118_12 (X : q_X) (O : q_O) (n : Nat) (h : q_S) (x1 : Int32) (x2 : Int32) : q_go e_118 X O (n + 1) 12 [(0, .ref 0), (1, .int x1), (2, .int x2)] [] h =
  if x2 < 80 then
    if (h.1 57 2) < (h.1 57 1) then
      q_c1 (O 59 h [.ref 57]) (fun h1 v2 =>
      q_c1 (O 119 h1 [.ref 0, .int v2]) (fun h3 v4 =>
      if v4 < 0 then
        some (h3, some (.int ((-200) - x1)))
      else
        q_go e_118 X O n 12 [(0, .ref 0), (1, .int (x1 + 1)), (2, .int (x2 + 1))] [] h3))
    else
      some (h, some (.int x1))
  else
    some (h, some (.int x1)) := by rfl
-- WhirlShafts.doAct(I)I with (0, None)
set_option maxRecDepth 20000 in
theorem b119_0 (X : q_X) (O : q_O) (n : Nat) (h : q_S) (x1 : Int32) : q_go e_119 X O (n + 1) 0 [(0, .ref 0), (1, .int x1)] [] h =
  if x1 = 98 then
    q_ix 0 3 (fun j1 =>
    q_ix 1 3 (fun j2 =>
    q_c1 (O 64 h [.ref 0, .int 2, .int (h.1 59 j1), .int (h.1 59 j2)]) (fun h3 v4 =>
    some (h3, some (.int v4)))))
  else if x1 = 99 then
    q_c1 (O 62 h [.ref 0]) (fun h5 v6 =>
    some (h5, some (.int v6)))
  else if x1 = 100 then
    q_ix 0 3 (fun j7 =>
    q_ix 1 3 (fun j8 =>
    q_ix 2 3 (fun j9 =>
    q_c1 (O 61 h [.ref 0, .int (h.1 59 j7), .int (h.1 59 j8), .int (h.1 59 j9)]) (fun h10 v11 =>
    some (h10, some (.int v11))))))
  else if x1 = 101 then
    q_c1 (O 62 h [.ref 0]) (fun h12 v13 =>
    some (h12, some (.int v13)))
  else if x1 = 102 then
    q_c1 (O 62 h [.ref 0]) (fun h14 v15 =>
    some (h14, some (.int v15)))
  else if x1 = 103 then
    q_ix 0 3 (fun j16 =>
    q_ix 1 3 (fun j17 =>
    q_c1 (O 64 h [.ref 0, .int 3, .int (h.1 59 j16), .int (h.1 59 j17)]) (fun h18 v19 =>
    some (h18, some (.int v19)))))
  else if x1 = 104 then
    q_c1 (O 62 h [.ref 0]) (fun h20 v21 =>
    some (h20, some (.int v21)))
  else if x1 = 105 then
    q_ix 0 3 (fun j22 =>
    q_ix 1 3 (fun j23 =>
    q_c1 (O 64 h [.ref 0, .int 0, .int (h.1 59 j22), .int (h.1 59 j23)]) (fun h24 v25 =>
    some (h24, some (.int v25)))))
  else if x1 = 106 then
    q_c1 (O 62 h [.ref 0]) (fun h26 v27 =>
    some (h26, some (.int v27)))
  else if x1 = 107 then
    q_ix 0 3 (fun j28 =>
    q_ix 1 3 (fun j29 =>
    q_c1 (O 64 h [.ref 0, .int 1, .int (h.1 59 j28), .int (h.1 59 j29)]) (fun h30 v31 =>
    some (h30, some (.int v31)))))
  else if x1 = 108 then
    q_c1 (O 62 h [.ref 0]) (fun h32 v33 =>
    some (h32, some (.int v33)))
  else if x1 = 109 then
    q_c1 (O 62 h [.ref 0]) (fun h34 v35 =>
    some (h34, some (.int v35)))
  else if x1 = 110 then
    q_ix 0 3 (fun j36 =>
    q_c1 (O 64 h [.ref 0, .int 4, .int 0, .int (h.1 59 j36)]) (fun h37 v38 =>
    some (h37, some (.int v38))))
  else if x1 = 111 then
    q_c1 (O 62 h [.ref 0]) (fun h39 v40 =>
    some (h39, some (.int v40)))
  else if x1 = 112 then
    q_c1 (O 62 h [.ref 0]) (fun h41 v42 =>
    some (h41, some (.int v42)))
  else if x1 = 113 then
    q_c1 (O 62 h [.ref 0]) (fun h43 v44 =>
    some (h43, some (.int v44)))
  else if x1 = 114 then
    q_c1 (O 62 h [.ref 0]) (fun h45 v46 =>
    some (h45, some (.int v46)))
  else if x1 = 115 then
    q_c1 (O 62 h [.ref 0]) (fun h47 v48 =>
    some (h47, some (.int v48)))
  else if x1 = 116 then
    q_c1 (O 62 h [.ref 0]) (fun h49 v50 =>
    some (h49, some (.int v50)))
  else if x1 = 117 then
    q_c1 (O 62 h [.ref 0]) (fun h51 v52 =>
    some (h51, some (.int v52)))
  else if x1 = 118 then
    q_c1 (O 62 h [.ref 0]) (fun h53 v54 =>
    some (h53, some (.int v54)))
  else if x1 = 119 then
    q_ix 0 3 (fun j55 =>
    q_c1 (O 64 h [.ref 0, .int 5, .int 0, .int (h.1 59 j55)]) (fun h56 v57 =>
    some (h56, some (.int v57))))
  else 
    q_c1 (O 62 h [.ref 0]) (fun h58 v59 =>
    some (h58, some (.int v59))) := by rfl
-- WhirlShaftsModel.isIn(III)Z with (None, None, None)
set_option maxRecDepth 20000 in
theorem b120_0 (X : q_X) (O : q_O) (n : Nat) (h : q_S) (x0 : Int32) (x1 : Int32) (x2 : Int32) : q_go e_120 X O (n + 1) 0 [(0, .int x0), (1, .int x1), (2, .int x2)] [] h =
  if x0 < x1 then
    some (h, some (.int 0))
  else
    if x2 < x0 then
      some (h, some (.int 0))
    else
      some (h, some (.int 1)) := by rfl
-- WhirlShaftsModel.isDisc(I)Z with (67, None)
set_option maxRecDepth 20000 in
theorem b121_0 (X : q_X) (O : q_O) (n : Nat) (h : q_S) (x1 : Int32) : q_go e_121 X O (n + 1) 0 [(0, .ref 67), (1, .int x1)] [] h =
  q_c1 (O 120 h [.int x1, .int 0, .int ((h.1 67 0) - 1)]) (fun h1 v2 =>
  if v2 = 0 ∨ v2 = 1 then some (h1, some (.int v2)) else none) := by rfl
-- WhirlShaftsModel.isShaft(I)Z with (67, None)
set_option maxRecDepth 20000 in
theorem b122_0 (X : q_X) (O : q_O) (n : Nat) (h : q_S) (x1 : Int32) : q_go e_122 X O (n + 1) 0 [(0, .ref 67), (1, .int x1)] [] h =
  q_c1 (O 120 h [.int x1, .int 0, .int ((h.1 67 0) - 2)]) (fun h1 v2 =>
  if v2 = 0 ∨ v2 = 1 then some (h1, some (.int v2)) else none) := by rfl
-- WhirlShaftsModel.isBy(I)Z with (None,)
set_option maxRecDepth 20000 in
theorem b123_0 (X : q_X) (O : q_O) (n : Nat) (h : q_S) (x0 : Int32) : q_go e_123 X O (n + 1) 0 [(0, .int x0)] [] h =
  q_c1 (O 120 h [.int x0, .int 1, .int 16]) (fun h1 v2 =>
  if v2 = 0 ∨ v2 = 1 then some (h1, some (.int v2)) else none) := by rfl
-- WhirlShaftsModel.isRateOf(II)Z with (None, None)
set_option maxRecDepth 20000 in
theorem b124_0 (X : q_X) (O : q_O) (n : Nat) (h : q_S) (x0 : Int32) (x1 : Int32) : q_go e_124 X O (n + 1) 0 [(0, .int x0), (1, .int x1)] [] h =
  q_c1 (O 120 h [.int x0, .int 0, .int 9999]) (fun h1 v2 =>
  if v2 = 0 then
    some (h1, some (.int 0))
  else
    q_c1 (O 123 h1 [.int x1]) (fun h3 v4 =>
    if v4 = 0 then
      some (h3, some (.int 0))
    else
      some (h3, some (.int 1)))) := by rfl
-- WhirlShaftsModel.weighs(I)I with (67, None)
set_option maxRecDepth 20000 in
theorem b125_0 (X : q_X) (O : q_O) (n : Nat) (h : q_S) (x1 : Int32) : q_go e_125 X O (n + 1) 0 [(0, .ref 67), (1, .int x1)] [] h =
  q_ix x1 8 (fun j1 =>
  if 2 = 0 then none else
  q_ix x1 8 (fun j2 =>
  if (h.1 68 j2) = 1 then
    q_ix x1 8 (fun j3 =>
    some (h, some (.int (2 * (h.1 69 j3)))))
  else if (h.1 68 j2) = 2 then
    some (h, some (.int (((h.1 69 j1) + 1) / 2)))
  else if (h.1 68 j2) = 3 then
    q_ix x1 8 (fun j4 =>
    some (h, some (.int ((2 * (h.1 69 j4)) + 3))))
  else if (h.1 68 j2) = 4 then
    if 2 = 0 then none else
    if ((((h.1 69 j1) + 1) / 2) - ((h.1 67 1) / 2)) < 1 then
      some (h, some (.int 1))
    else
      if 2 = 0 then none else
      some (h, some (.int ((((h.1 69 j1) + 1) / 2) - ((h.1 67 1) / 2))))
  else 
    q_ix x1 8 (fun j5 =>
    some (h, some (.int (h.1 69 j5)))))) := by rfl
-- WhirlShaftsModel.reduces()V with (67,)
set_option maxRecDepth 20000 in
theorem b126_0 (X : q_X) (O : q_O) (n : Nat) (h : q_S)  : q_go e_126 X O (n + 1) 0 [(0, .ref 67)] [] h =
  q_go e_126 X O n 4 [(0, .ref 67), (1, .int 1), (2, .int 0)] [] h := by rfl
set_option maxRecDepth 20000 in
theorem b126_4 (X : q_X) (O : q_O) (n : Nat) (h : q_S) (x1 : Int32) (x2 : Int32) : q_go e_126 X O (n + 1) 4 [(0, .ref 67), (1, .int x1), (2, .int x2)] [] h =
  if x2 < (h.1 67 0) then
    q_c1 (O 125 h [.ref 67, .int x2]) (fun h1 v2 =>
    q_ix x2 8 (fun j3 =>
    q_ix x2 8 (fun j4 =>
    if (h1.1 67 2) = 1 then
      if 20 = 0 then none else
      q_go e_126 X O n 83 [(0, .ref 67), (1, .int x1), (2, .int x2)] [.int (v2 - ((v2 * (h1.1 67 1)) / 20)), .int ((q_si h1 73 j3 (x1 * x1)).1 73 j4), .int x2, .ref 74] (q_si h1 73 j3 (x1 * x1))
    else
      if (h1.1 67 2) = 2 then
        if 10 = 0 then none else
        q_go e_126 X O n 83 [(0, .ref 67), (1, .int x1), (2, .int x2)] [.int (v2 + ((v2 * (h1.1 67 1)) / 10)), .int ((q_si h1 73 j3 (x1 * x1)).1 73 j4), .int x2, .ref 74] (q_si h1 73 j3 (x1 * x1))
      else
        q_go e_126 X O n 83 [(0, .ref 67), (1, .int x1), (2, .int x2)] [.int v2, .int ((q_si h1 73 j3 (x1 * x1)).1 73 j4), .int x2, .ref 74] (q_si h1 73 j3 (x1 * x1)))))
  else
    some (h, none) := by rfl
set_option maxRecDepth 20000 in
theorem b126_83 (X : q_X) (O : q_O) (n : Nat) (h : q_S) (x1 : Int32) (x2 : Int32) (s0 : Int32) (s1 : Int32) (s2 : Int32) : q_go e_126 X O (n + 1) 83 [(0, .ref 67), (1, .int x1), (2, .int x2)] [.int s0, .int s1, .int s2, .ref 74] h =
  q_ix s2 8 (fun j1 =>
  q_ix x2 8 (fun j2 =>
  q_ix x2 8 (fun j3 =>
  q_ix x2 8 (fun j4 =>
  if x2 < ((h.1 67 0) - 1) then
    q_ix x2 8 (fun j5 =>
    q_ix x2 8 (fun j6 =>
    q_go e_126 X O n 136 [(0, .ref 67), (1, .int x1), (2, .int x2)] [.int ((h.1 73 j5) * (h.1 71 j6)), .int x2, .ref 76] (q_si (q_si h 74 j1 (s1 * s0)) 75 j4 ((h.1 73 j2) * (h.1 70 j3)))))
  else
    q_go e_126 X O n 136 [(0, .ref 67), (1, .int x1), (2, .int x2)] [.int 0, .int x2, .ref 76] (q_si (q_si h 74 j1 (s1 * s0)) 75 j4 ((h.1 73 j2) * (h.1 70 j3))))))) := by rfl
set_option maxRecDepth 20000 in
theorem b126_136 (X : q_X) (O : q_O) (n : Nat) (h : q_S) (x1 : Int32) (x2 : Int32) (s0 : Int32) (s1 : Int32) : q_go e_126 X O (n + 1) 136 [(0, .ref 67), (1, .int x1), (2, .int x2)] [.int s0, .int s1, .ref 76] h =
  q_ix s1 8 (fun j1 =>
  q_ix x2 8 (fun j2 =>
  q_ix x2 8 (fun j3 =>
  if 0 < x2 then
    q_ix (x2 - 1) 8 (fun j4 =>
    q_go e_126 X O n 171 [(0, .ref 67), (1, .int x1), (2, .int x2)] [.int ((q_si h 76 j1 s0).1 76 j4), .int ((h.1 75 j2) + ((q_si h 76 j1 s0).1 76 j3)), .int x2, .ref 77] (q_si h 76 j1 s0))
  else
    q_go e_126 X O n 171 [(0, .ref 67), (1, .int x1), (2, .int x2)] [.int 0, .int ((h.1 75 j2) + ((q_si h 76 j1 s0).1 76 j3)), .int x2, .ref 77] (q_si h 76 j1 s0)))) := by rfl
set_option maxRecDepth 20000 in
theorem b126_171 (X : q_X) (O : q_O) (n : Nat) (h : q_S) (x1 : Int32) (x2 : Int32) (s0 : Int32) (s1 : Int32) (s2 : Int32) : q_go e_126 X O (n + 1) 171 [(0, .ref 67), (1, .int x1), (2, .int x2)] [.int s0, .int s1, .int s2, .ref 77] h =
  q_ix s2 8 (fun j1 =>
  if x2 < ((h.1 67 0) - 1) then
    q_ix x2 8 (fun j2 =>
    q_go e_126 X O n 4 [(0, .ref 67), (1, .int (x1 * (h.1 72 j2))), (2, .int (x2 + 1))] [] (q_si h 77 j1 (s1 + s0)))
  else
    q_go e_126 X O n 4 [(0, .ref 67), (1, .int (x1 * 1)), (2, .int (x2 + 1))] [] (q_si h 77 j1 (s1 + s0))) := by rfl
-- WhirlShaftsModel.turnsInAll()I with (67,)
set_option maxRecDepth 20000 in
theorem b127_0 (X : q_X) (O : q_O) (n : Nat) (h : q_S)  : q_go e_127 X O (n + 1) 0 [(0, .ref 67)] [] h =
  q_go e_127 X O n 4 [(0, .ref 67), (1, .int 1), (2, .int 0)] [] h := by rfl
set_option maxRecDepth 20000 in
theorem b127_4 (X : q_X) (O : q_O) (n : Nat) (h : q_S) (x1 : Int32) (x2 : Int32) : q_go e_127 X O (n + 1) 4 [(0, .ref 67), (1, .int x1), (2, .int x2)] [] h =
  if x2 < ((h.1 67 0) - 1) then
    q_ix x2 8 (fun j1 =>
    q_go e_127 X O n 4 [(0, .ref 67), (1, .int (x1 * (h.1 72 j1))), (2, .int (x2 + 1))] [] h)
  else
    some (h, some (.int x1)) := by rfl
-- WhirlShaftsModel.signAt(I)I with (67, None)
set_option maxRecDepth 20000 in
theorem b128_0 (X : q_X) (O : q_O) (n : Nat) (h : q_S) (x1 : Int32) : q_go e_128 X O (n + 1) 0 [(0, .ref 67), (1, .int x1)] [] h =
  q_ix ((x1 + 10) - 1) 30 (fun j1 =>
  if (lg_cmp (h.2.1 78 j1) (Int64.ofNat 0)) < 0 then
    some (h, some (.int (-1)))
  else
    q_go e_128 X O n 22 [(0, .ref 67), (1, .int x1), (2, .int 0), (3, .int 0)] [] h) := by rfl
set_option maxRecDepth 20000 in
theorem b128_22 (X : q_X) (O : q_O) (n : Nat) (h : q_S) (x1 : Int32) (x2 : Int32) (x3 : Int32) : q_go e_128 X O (n + 1) 22 [(0, .ref 67), (1, .int x1), (2, .int x2), (3, .int x3)] [] h =
  if x3 < 10 then
    q_ix (x1 + x3) 30 (fun j1 =>
    if (lg_cmp (h.2.1 78 j1) (Int64.ofNat 0)) = 0 then
      q_go e_128 X O n 22 [(0, .ref 67), (1, .int x1), (2, .int (x2 ||| 0)), (3, .int (x3 + 1))] [] h
    else
      q_go e_128 X O n 22 [(0, .ref 67), (1, .int x1), (2, .int (x2 ||| 1)), (3, .int (x3 + 1))] [] h)
  else
    if x2 = 0 then
      some (h, some (.int 0))
    else
      some (h, some (.int 1)) := by rfl
-- WhirlShaftsModel.restOf(J)I with (None,)
set_option maxRecDepth 20000 in
theorem b129_0 (X : q_X) (O : q_O) (n : Nat) (h : q_S) (x0 : Int64) : q_go e_129 X O (n + 1) 0 [(0, .long x0)] [] h =
  if (Int64.ofNat 10007) = 0 then none else
  if (Int64.ofNat 10007) = 0 then none else
  some (h, some (.int ((((((x0 - x0 / (Int64.ofNat 10007) * (Int64.ofNat 10007)) + (Int64.ofNat 10007)) - ((x0 - x0 / (Int64.ofNat 10007) * (Int64.ofNat 10007)) + (Int64.ofNat 10007)) / (Int64.ofNat 10007) * (Int64.ofNat 10007)) : Int64)).toInt32))) := by rfl
-- WhirlShaftsModel.transfer(IIII)I with (67, None, None, None, None)
set_option maxRecDepth 20000 in
theorem b130_0 (X : q_X) (O : q_O) (n : Nat) (h : q_S) (x1 : Int32) (x2 : Int32) (x3 : Int32) (x4 : Int32) : q_go e_130 X O (n + 1) 0 [(0, .ref 67), (1, .int x1), (2, .int x2), (3, .int x3), (4, .int x4)] [] h =
  q_go e_130 X O n 3 [(0, .ref 67), (1, .int x1), (2, .int x2), (3, .int x3), (4, .int x4), (5, .int 0)] [] h := by rfl
set_option maxRecDepth 20000 in
theorem b130_3 (X : q_X) (O : q_O) (n : Nat) (h : q_S) (x1 : Int32) (x2 : Int32) (x3 : Int32) (x4 : Int32) (x5 : Int32) : q_go e_130 X O (n + 1) 3 [(0, .ref 67), (1, .int x1), (2, .int x2), (3, .int x3), (4, .int x4), (5, .int x5)] [] h =
  if x5 < 30 then
    q_ix x5 30 (fun j1 =>
    q_go e_130 X O n 3 [(0, .ref 67), (1, .int x1), (2, .int x2), (3, .int x3), (4, .int x4), (5, .int (x5 + 1))] [] (q_sl h 78 j1 (Int64.ofNat 0)))
  else
    q_ix 0 30 (fun j2 =>
    q_ix 0 9 (fun j3 =>
    q_ix 0 9 (fun j4 =>
    q_go e_130 X O n 54 [(0, .ref 67), (1, .int x1), (2, .int x2), (3, .int x3), (4, .int x4), (5, .int 0), (6, .int 1), (7, .int x1)] [] (q_si (q_si (q_sl h 78 j2 (Int64.ofNat 1)) 79 j3 1) 80 j4 1)))) := by rfl
set_option maxRecDepth 20000 in
theorem b130_54 (X : q_X) (O : q_O) (n : Nat) (h : q_S) (x1 : Int32) (x2 : Int32) (x3 : Int32) (x4 : Int32) (x5 : Int32) (x6 : Int32) (x7 : Int32) : q_go e_130 X O (n + 1) 54 [(0, .ref 67), (1, .int x1), (2, .int x2), (3, .int x3), (4, .int x4), (5, .int x5), (6, .int x6), (7, .int x7)] [] h =
  if x2 < x7 then
    some (h, some (.int x5))
  else
    q_ix x7 8 (fun j1 =>
    q_ix x7 8 (fun j2 =>
    if x7 = x1 then
      q_go e_130 X O n 133 [(0, .ref 67), (1, .int x1), (2, .int x2), (3, .int x3), (4, .int x4), (5, .int x5), (6, .int x6), (7, .int x7), (8, .int ((x7 - x1) + 1)), (9, .long ((((x4 : Int32)).toInt64 * (((h.1 77 j1) : Int32)).toInt64) - (((x3 : Int32)).toInt64 * (((h.1 74 j2) : Int32)).toInt64)))] [.long (Int64.ofNat 0)] h
    else
      q_ix (x7 - 1) 8 (fun j3 =>
      q_ix (x7 - 1) 8 (fun j4 =>
      q_go e_130 X O n 133 [(0, .ref 67), (1, .int x1), (2, .int x2), (3, .int x3), (4, .int x4), (5, .int x5), (6, .int x6), (7, .int x7), (8, .int ((x7 - x1) + 1)), (9, .long ((((x4 : Int32)).toInt64 * (((h.1 77 j1) : Int32)).toInt64) - (((x3 : Int32)).toInt64 * (((h.1 74 j2) : Int32)).toInt64)))] [.long (((((x4 : Int32)).toInt64 * ((x4 : Int32)).toInt64) * (((h.1 76 j3) : Int32)).toInt64) * (((h.1 76 j4) : Int32)).toInt64)] h)))) := by rfl
set_option maxRecDepth 20000 in
theorem b130_133 (X : q_X) (O : q_O) (n : Nat) (h : q_S) (x1 : Int32) (x2 : Int32) (x3 : Int32) (x4 : Int32) (x5 : Int32) (x6 : Int32) (x7 : Int32) (x8 : Int32) (x9 : Int64) (s0 : Int64) : q_go e_130 X O (n + 1) 133 [(0, .ref 67), (1, .int x1), (2, .int x2), (3, .int x3), (4, .int x4), (5, .int x5), (6, .int x6), (7, .int x7), (8, .int x8), (9, .long x9)] [.long s0] h =
  if 3 = 0 then none else
  if 3 = 0 then none else
  if 3 = 0 then none else
  q_go e_130 X O n 172 [(0, .ref 67), (1, .int x1), (2, .int x2), (3, .int x3), (4, .int x4), (5, .int x5), (6, .int x6), (7, .int x7), (8, .int x8), (9, .long x9), (11, .long s0), (13, .int (10 * (x8 - x8 / 3 * 3))), (14, .int (10 * ((x8 + 2) - (x8 + 2) / 3 * 3))), (15, .int (10 * ((x8 + 1) - (x8 + 1) / 3 * 3))), (16, .long (Int64.ofNat 0)), (18, .int 0)] [] h := by rfl
set_option maxRecDepth 20000 in
theorem b130_172 (X : q_X) (O : q_O) (n : Nat) (h : q_S) (x1 : Int32) (x2 : Int32) (x3 : Int32) (x4 : Int32) (x5 : Int32) (x6 : Int32) (x7 : Int32) (x8 : Int32) (x9 : Int64) (x11 : Int64) (x13 : Int32) (x14 : Int32) (x15 : Int32) (x16 : Int64) (x18 : Int32) : q_go e_130 X O (n + 1) 172 [(0, .ref 67), (1, .int x1), (2, .int x2), (3, .int x3), (4, .int x4), (5, .int x5), (6, .int x6), (7, .int x7), (8, .int x8), (9, .long x9), (11, .long x11), (13, .int x13), (14, .int x14), (15, .int x15), (16, .long x16), (18, .int x18)] [] h =
  if x18 < 10 then
    q_ix (x14 + x18) 30 (fun j1 =>
    q_ix (x15 + x18) 30 (fun j2 =>
    if x18 = 9 then
      q_ix (x13 + x18) 30 (fun j3 =>
      q_go e_130 X O n 172 [(0, .ref 67), (1, .int x1), (2, .int x2), (3, .int x3), (4, .int x4), (5, .int x5), (6, .int x6), (7, .int x7), (8, .int x8), (9, .long x9), (11, .long x11), (13, .int x13), (14, .int x14), (15, .int x15), (16, .long ((((x9 * (h.2.1 78 j1)) - (x11 * (h.2.1 78 j2))) + x16) >>> (((28 : Int32)).toInt64 &&& 63))), (18, .int (x18 + 1))] [] (q_sl h 78 j3 (((x9 * (h.2.1 78 j1)) - (x11 * (h.2.1 78 j2))) + x16)))
    else
      q_ix (x13 + x18) 30 (fun j4 =>
      q_go e_130 X O n 172 [(0, .ref 67), (1, .int x1), (2, .int x2), (3, .int x3), (4, .int x4), (5, .int x5), (6, .int x6), (7, .int x7), (8, .int x8), (9, .long x9), (11, .long x11), (13, .int x13), (14, .int x14), (15, .int x15), (16, .long ((((x9 * (h.2.1 78 j1)) - (x11 * (h.2.1 78 j2))) + x16) >>> (((28 : Int32)).toInt64 &&& 63))), (18, .int (x18 + 1))] [] (q_sl h 78 j4 ((((x9 * (h.2.1 78 j1)) - (x11 * (h.2.1 78 j2))) + x16) &&& (Int64.ofNat 268435455))))))
  else
    q_c1 (O 128 h [.ref 67, .int x13]) (fun h5 v6 =>
    q_ix x8 9 (fun j7 =>
    q_c1 (O 129 (q_si h5 79 j7 v6) [.long x9]) (fun h8 v9 =>
    q_ix (x8 - 1) 9 (fun j10 =>
    if 1 < x8 then
      q_c1 (O 129 h8 [.long x11]) (fun h11 v12 =>
      q_ix (x8 - 2) 9 (fun j13 =>
      q_go e_130 X O n 312 [(0, .ref 67), (1, .int x1), (2, .int x2), (3, .int x3), (4, .int x4), (5, .int x5), (6, .int x6), (7, .int x7), (8, .int x8), (18, .long ((((v9 : Int32)).toInt64 * (((h8.1 80 j10) : Int32)).toInt64) - (((v12 : Int32)).toInt64 * (((h11.1 80 j13) : Int32)).toInt64)))] [] h11))
    else
      q_go e_130 X O n 312 [(0, .ref 67), (1, .int x1), (2, .int x2), (3, .int x3), (4, .int x4), (5, .int x5), (6, .int x6), (7, .int x7), (8, .int x8), (18, .long (((v9 : Int32)).toInt64 * (((h8.1 80 j10) : Int32)).toInt64))] [] h8)))) := by rfl
set_option maxRecDepth 20000 in
theorem b130_312 (X : q_X) (O : q_O) (n : Nat) (h : q_S) (x1 : Int32) (x2 : Int32) (x3 : Int32) (x4 : Int32) (x5 : Int32) (x6 : Int32) (x7 : Int32) (x8 : Int32) (x18 : Int64) : q_go e_130 X O (n + 1) 312 [(0, .ref 67), (1, .int x1), (2, .int x2), (3, .int x3), (4, .int x4), (5, .int x5), (6, .int x6), (7, .int x7), (8, .int x8), (18, .long x18)] [] h =
  q_c1 (O 129 h [.long x18]) (fun h1 v2 =>
  q_ix x8 9 (fun j3 =>
  q_ix x8 9 (fun j4 =>
  if (h1.1 79 j4) = 0 then
    q_go e_130 X O n 346 [(0, .ref 67), (1, .int x1), (2, .int x2), (3, .int x3), (4, .int x4), (5, .int x5), (6, .int x6), (7, .int x7)] [.int x6] (q_si h1 80 j3 v2)
  else
    q_ix x8 9 (fun j5 =>
    q_go e_130 X O n 346 [(0, .ref 67), (1, .int x1), (2, .int x2), (3, .int x3), (4, .int x4), (5, .int x5), (6, .int x6), (7, .int x7)] [.int (h1.1 79 j5)] (q_si h1 80 j3 v2))))) := by rfl
set_option maxRecDepth 20000 in
theorem b130_346 (X : q_X) (O : q_O) (n : Nat) (h : q_S) (x1 : Int32) (x2 : Int32) (x3 : Int32) (x4 : Int32) (x5 : Int32) (x6 : Int32) (x7 : Int32) (s0 : Int32) : q_go e_130 X O (n + 1) 346 [(0, .ref 67), (1, .int x1), (2, .int x2), (3, .int x3), (4, .int x4), (5, .int x5), (6, .int x6), (7, .int x7)] [.int s0] h =
  if s0 = x6 then
    q_go e_130 X O n 54 [(0, .ref 67), (1, .int x1), (2, .int x2), (3, .int x3), (4, .int x4), (5, .int (x5 + 0)), (6, .int s0), (7, .int (x7 + 1))] [] h
  else
    q_go e_130 X O n 54 [(0, .ref 67), (1, .int x1), (2, .int x2), (3, .int x3), (4, .int x4), (5, .int (x5 + 1)), (6, .int s0), (7, .int (x7 + 1))] [] h := by rfl
-- WhirlShaftsModel.belowAll(II)I with (67, None, None)
set_option maxRecDepth 20000 in
theorem b131_0 (X : q_X) (O : q_O) (n : Nat) (h : q_S) (x1 : Int32) (x2 : Int32) : q_go e_131 X O (n + 1) 0 [(0, .ref 67), (1, .int x1), (2, .int x2)] [] h =
  q_c1 (O 130 h [.ref 67, .int 0, .int ((h.1 67 0) - 1), .int x1, .int x2]) (fun h1 v2 =>
  some (h1, some (.int v2))) := by rfl
-- WhirlShaftsModel.topNow()I with (67,)
set_option maxRecDepth 20000 in
theorem b132_0 (X : q_X) (O : q_O) (n : Nat) (h : q_S)  : q_go e_132 X O (n + 1) 0 [(0, .ref 67)] [] h =
  q_go e_132 X O n 4 [(0, .ref 67), (1, .int (-1)), (2, .int 0)] [] h := by rfl
set_option maxRecDepth 20000 in
theorem b132_4 (X : q_X) (O : q_O) (n : Nat) (h : q_S) (x1 : Int32) (x2 : Int32) : q_go e_132 X O (n + 1) 4 [(0, .ref 67), (1, .int x1), (2, .int x2)] [] h =
  if x2 < (h.1 67 0) then
    q_ix x2 8 (fun j1 =>
    q_ix x2 8 (fun j2 =>
    if (h.1 74 j2) = 0 then none else
    if x1 < ((2 * (h.1 77 j1)) / (h.1 74 j2)) then
      q_go e_132 X O n 4 [(0, .ref 67), (1, .int ((2 * (h.1 77 j1)) / (h.1 74 j2))), (2, .int (x2 + 1))] [] h
    else
      q_go e_132 X O n 4 [(0, .ref 67), (1, .int x1), (2, .int (x2 + 1))] [] h))
  else
    some (h, some (.int (x1 + 1))) := by rfl
-- WhirlShaftsModel.fenceOf(II)I with (67, None, None)
set_option maxRecDepth 20000 in
theorem b133_0 (X : q_X) (O : q_O) (n : Nat) (h : q_S) (x1 : Int32) (x2 : Int32) : q_go e_133 X O (n + 1) 0 [(0, .ref 67), (1, .int x1), (2, .int x2)] [] h =
  q_c0 (O 126 h [.ref 67]) (fun h1 =>
  q_c1 (O 132 h1 [.ref 67]) (fun h2 v3 =>
  q_go e_133 X O n 14 [(0, .ref 67), (1, .int x1), (2, .int x2), (3, .int 0), (4, .int (v3 * x2))] [] h2)) := by rfl
set_option maxRecDepth 20000 in
theorem b133_14 (X : q_X) (O : q_O) (n : Nat) (h : q_S) (x1 : Int32) (x2 : Int32) (x3 : Int32) (x4 : Int32) : q_go e_133 X O (n + 1) 14 [(0, .ref 67), (1, .int x1), (2, .int x2), (3, .int x3), (4, .int x4)] [] h =
  if x3 < x4 then
    if 2 = 0 then none else
    q_c1 (O 131 h [.ref 67, .int (x3 + (((x4 - x3) + 1) / 2)), .int x2]) (fun h1 v2 =>
    if x1 < v2 then
      q_go e_133 X O n 14 [(0, .ref 67), (1, .int x1), (2, .int x2), (3, .int x3), (4, .int ((x3 + (((x4 - x3) + 1) / 2)) - 1))] [] h1
    else
      q_go e_133 X O n 14 [(0, .ref 67), (1, .int x1), (2, .int x2), (3, .int (x3 + (((x4 - x3) + 1) / 2))), (4, .int x4)] [] h1)
  else
    some (h, some (.int x3)) := by rfl
-- WhirlShaftsModel.forgetsChanges()V with (67,)
set_option maxRecDepth 20000 in
theorem b134_0 (X : q_X) (O : q_O) (n : Nat) (h : q_S)  : q_go e_134 X O (n + 1) 0 [(0, .ref 67)] [] h =
  some ((q_si (q_si h 67 20 0) 67 21 0), none) := by rfl
-- WhirlShaftsModel.disc(III)I with (67, None, None, None)
set_option maxRecDepth 20000 in
theorem b135_0 (X : q_X) (O : q_O) (n : Nat) (h : q_S) (x1 : Int32) (x2 : Int32) (x3 : Int32) : q_go e_135 X O (n + 1) 0 [(0, .ref 67), (1, .int x1), (2, .int x2), (3, .int x3)] [] h =
  q_c1 (O 120 h [.int x1, .int 0, .int 4]) (fun h1 v2 =>
  if v2 = 0 then
    some (h1, some (.int (-1)))
  else
    q_c1 (O 120 h1 [.int x2, .int 1, .int 99]) (fun h3 v4 =>
    if v4 = 0 then
      some (h3, some (.int (-1)))
    else
      if 0 < (h3.1 67 0) then
        q_c1 (O 120 h3 [.int x3, .int 1, .int 99]) (fun h5 v6 =>
        if v6 = 0 then
          some (h5, some (.int (-1)))
        else
          q_go e_135 X O n 38 [(0, .ref 67), (1, .int x1), (2, .int x2), (3, .int x3)] [] h5)
      else
        q_go e_135 X O n 38 [(0, .ref 67), (1, .int x1), (2, .int x2), (3, .int x3)] [] h3)) := by rfl
set_option maxRecDepth 20000 in
theorem b135_38 (X : q_X) (O : q_O) (n : Nat) (h : q_S) (x1 : Int32) (x2 : Int32) (x3 : Int32) : q_go e_135 X O (n + 1) 38 [(0, .ref 67), (1, .int x1), (2, .int x2), (3, .int x3)] [] h =
  if (h.1 67 0) = 8 then
    some (h, some (.int (-3)))
  else
    q_ix (h.1 67 0) 8 (fun j1 =>
    q_ix (h.1 67 0) 8 (fun j2 =>
    q_ix (h.1 67 0) 8 (fun j3 =>
    if 0 < (h.1 67 0) then
      q_ix ((h.1 67 0) - 1) 8 (fun j4 =>
      q_ix ((h.1 67 0) - 1) 8 (fun j5 =>
      q_go e_135 X O n 111 [(0, .ref 67)] [] (q_si (q_si (q_si (q_si (q_si h 68 j1 x1) 69 j2 x2) 70 j3 0) 71 j4 x3) 72 j5 1)))
    else
      q_go e_135 X O n 111 [(0, .ref 67)] [] (q_si (q_si (q_si h 68 j1 x1) 69 j2 x2) 70 j3 0)))) := by rfl
set_option maxRecDepth 20000 in
theorem b135_111 (X : q_X) (O : q_O) (n : Nat) (h : q_S)  : q_go e_135 X O (n + 1) 111 [(0, .ref 67)] [] h =
  q_c0 (O 134 h [.ref 67]) (fun h1 =>
  some ((q_si h1 67 0 ((h1.1 67 0) + 1)), some (.int (h1.1 67 0)))) := by rfl
-- WhirlShaftsModel.cut()I with (67,)
set_option maxRecDepth 20000 in
theorem b136_0 (X : q_X) (O : q_O) (n : Nat) (h : q_S)  : q_go e_136 X O (n + 1) 0 [(0, .ref 67)] [] h =
  if (h.1 67 0) = 0 then
    some (h, some (.int (-5)))
  else
    q_c0 (O 134 h [.ref 67]) (fun h1 =>
    some ((q_si h1 67 0 ((h1.1 67 0) - 1)), some (.int ((h1.1 67 0) - 1)))) := by rfl
-- WhirlShaftsModel.clear()I with (67,)
set_option maxRecDepth 20000 in
theorem b137_0 (X : q_X) (O : q_O) (n : Nat) (h : q_S)  : q_go e_137 X O (n + 1) 0 [(0, .ref 67)] [] h =
  q_c0 (O 134 (q_si (q_si (q_si h 67 0 0) 67 1 0) 67 2 0) [.ref 67]) (fun h1 =>
  some (h1, some (.int (h.1 67 0)))) := by rfl
-- WhirlShaftsModel.is(II)I with (67, None, None)
set_option maxRecDepth 20000 in
theorem b138_0 (X : q_X) (O : q_O) (n : Nat) (h : q_S) (x1 : Int32) (x2 : Int32) : q_go e_138 X O (n + 1) 0 [(0, .ref 67), (1, .int x1), (2, .int x2)] [] h =
  if x1 = 0 then
    q_ix x2 8 (fun j1 =>
    some (h, some (.int (h.1 69 j1))))
  else if x1 = 1 then
    q_ix x2 8 (fun j2 =>
    some (h, some (.int (h.1 71 j2))))
  else if x1 = 2 then
    q_ix x2 8 (fun j3 =>
    some (h, some (.int (h.1 70 j3))))
  else if x1 = 3 then
    q_ix x2 8 (fun j4 =>
    some (h, some (.int (h.1 72 j4))))
  else if x1 = 4 then
    some (h, some (.int (h.1 67 1)))
  else 
    some (h, some (.int (h.1 67 2))) := by rfl
-- WhirlShaftsModel.becomes(III)V with (67, None, None, None)
set_option maxRecDepth 20000 in
theorem b139_0 (X : q_X) (O : q_O) (n : Nat) (h : q_S) (x1 : Int32) (x2 : Int32) (x3 : Int32) : q_go e_139 X O (n + 1) 0 [(0, .ref 67), (1, .int x1), (2, .int x2), (3, .int x3)] [] h =
  if x1 = 0 then
    q_ix x2 8 (fun j1 =>
    some ((q_si h 69 j1 x3), none))
  else if x1 = 1 then
    q_ix x2 8 (fun j2 =>
    some ((q_si h 71 j2 x3), none))
  else if x1 = 2 then
    q_ix x2 8 (fun j3 =>
    some ((q_si h 70 j3 x3), none))
  else if x1 = 3 then
    q_ix x2 8 (fun j4 =>
    some ((q_si h 72 j4 x3), none))
  else if x1 = 4 then
    some ((q_si h 67 1 x3), none)
  else 
    some ((q_si h 67 2 x3), none) := by rfl
-- WhirlShaftsModel.isOne(II)Z with (67, None, None)
set_option maxRecDepth 20000 in
theorem b140_0 (X : q_X) (O : q_O) (n : Nat) (h : q_S) (x1 : Int32) (x2 : Int32) : q_go e_140 X O (n + 1) 0 [(0, .ref 67), (1, .int x1), (2, .int x2)] [] h =
  if x1 = 0 then
    q_c1 (O 121 h [.ref 67, .int x2]) (fun h1 v2 =>
    if v2 = 0 ∨ v2 = 1 then some (h1, some (.int v2)) else none)
  else if x1 = 1 then
    q_c1 (O 122 h [.ref 67, .int x2]) (fun h3 v4 =>
    if v4 = 0 ∨ v4 = 1 then some (h3, some (.int v4)) else none)
  else if x1 = 2 then
    q_c1 (O 121 h [.ref 67, .int x2]) (fun h5 v6 =>
    if v6 = 0 ∨ v6 = 1 then some (h5, some (.int v6)) else none)
  else if x1 = 3 then
    q_c1 (O 122 h [.ref 67, .int x2]) (fun h7 v8 =>
    if v8 = 0 ∨ v8 = 1 then some (h7, some (.int v8)) else none)
  else 
    q_c1 (O 120 h [.int x1, .int 4, .int 5]) (fun h9 v10 =>
    if v10 = 0 ∨ v10 = 1 then some (h9, some (.int v10)) else none) := by rfl
-- WhirlShaftsModel.leastOf(I)I with (None,)
set_option maxRecDepth 20000 in
theorem b141_0 (X : q_X) (O : q_O) (n : Nat) (h : q_S) (x0 : Int32) : q_go e_141 X O (n + 1) 0 [(0, .int x0)] [] h =
  if x0 = 0 then
    some (h, some (.int 1))
  else
    if x0 = 1 then
      some (h, some (.int 1))
    else
      if x0 = 3 then
        some (h, some (.int 1))
      else
        some (h, some (.int 0)) := by rfl
-- WhirlShaftsModel.mostOf(I)I with (None,)
set_option maxRecDepth 20000 in
theorem b142_0 (X : q_X) (O : q_O) (n : Nat) (h : q_S) (x0 : Int32) : q_go e_142 X O (n + 1) 0 [(0, .int x0)] [] h =
  if x0 < 3 then
    some (h, some (.int 99))
  else
    if x0 = 3 then
      some (h, some (.int 6))
    else
      if x0 = 4 then
        some (h, some (.int 9))
      else
        some (h, some (.int 2)) := by rfl
-- WhirlShaftsModel.refuses(III)I with (67, None, None, None)
set_option maxRecDepth 20000 in
theorem b143_0 (X : q_X) (O : q_O) (n : Nat) (h : q_S) (x1 : Int32) (x2 : Int32) (x3 : Int32) : q_go e_143 X O (n + 1) 0 [(0, .ref 67), (1, .int x1), (2, .int x2), (3, .int x3)] [] h =
  q_c1 (O 120 h [.int x1, .int 0, .int 5]) (fun h1 v2 =>
  if v2 = 0 then
    some (h1, some (.int (-1)))
  else
    q_c1 (O 140 h1 [.ref 67, .int x1, .int x2]) (fun h3 v4 =>
    if v4 = 0 then
      some (h3, some (.int (-1)))
    else
      q_c1 (O 141 h3 [.int x1]) (fun h5 v6 =>
      q_c1 (O 142 h5 [.int x1]) (fun h7 v8 =>
      q_c1 (O 120 h7 [.int x3, .int v6, .int v8]) (fun h9 v10 =>
      if v10 = 0 then
        some (h9, some (.int (-1)))
      else
        if x1 = 3 then
          q_c1 (O 127 h9 [.ref 67]) (fun h11 v12 =>
          q_ix x2 8 (fun j13 =>
          if (h11.1 72 j13) = 0 then none else
          if 6 < ((v12 / (h11.1 72 j13)) * x3) then
            some (h11, some (.int (-5)))
          else
            some (h11, some (.int 0))))
        else
          some (h9, some (.int 0))))))) := by rfl
-- WhirlShaftsModel.notes(IIII)V with (67, None, None, None, None)
set_option maxRecDepth 20000 in
theorem b144_0 (X : q_X) (O : q_O) (n : Nat) (h : q_S) (x1 : Int32) (x2 : Int32) (x3 : Int32) (x4 : Int32) : q_go e_144 X O (n + 1) 0 [(0, .ref 67), (1, .int x1), (2, .int x2), (3, .int x3), (4, .int x4)] [] h =
  if (h.1 67 20) = 12 then
    q_go e_144 X O n 12 [(0, .ref 67), (1, .int x1), (2, .int x2), (3, .int x3), (4, .int x4), (5, .int 1)] [] h
  else
    q_go e_144 X O n 99 [(0, .ref 67), (1, .int x1), (2, .int x2), (3, .int x3), (4, .int x4)] [] h := by rfl
set_option maxRecDepth 20000 in
theorem b144_12 (X : q_X) (O : q_O) (n : Nat) (h : q_S) (x1 : Int32) (x2 : Int32) (x3 : Int32) (x4 : Int32) (x5 : Int32) : q_go e_144 X O (n + 1) 12 [(0, .ref 67), (1, .int x1), (2, .int x2), (3, .int x3), (4, .int x4), (5, .int x5)] [] h =
  if x5 < 12 then
    q_ix x5 12 (fun j1 =>
    q_ix (x5 - 1) 12 (fun j2 =>
    q_ix x5 12 (fun j3 =>
    q_ix (x5 - 1) 12 (fun j4 =>
    q_ix x5 12 (fun j5 =>
    q_ix (x5 - 1) 12 (fun j6 =>
    q_ix x5 12 (fun j7 =>
    q_ix (x5 - 1) 12 (fun j8 =>
    q_go e_144 X O n 12 [(0, .ref 67), (1, .int x1), (2, .int x2), (3, .int x3), (4, .int x4), (5, .int (x5 + 1))] [] (q_si (q_si (q_si (q_si h 81 j2 (h.1 81 j1)) 82 j4 (h.1 82 j3)) 83 j6 (h.1 83 j5)) 84 j8 (h.1 84 j7))))))))))
  else
    q_go e_144 X O n 99 [(0, .ref 67), (1, .int x1), (2, .int x2), (3, .int x3), (4, .int x4)] [] (q_si h 67 20 ((h.1 67 20) - 1)) := by rfl
set_option maxRecDepth 20000 in
theorem b144_99 (X : q_X) (O : q_O) (n : Nat) (h : q_S) (x1 : Int32) (x2 : Int32) (x3 : Int32) (x4 : Int32) : q_go e_144 X O (n + 1) 99 [(0, .ref 67), (1, .int x1), (2, .int x2), (3, .int x3), (4, .int x4)] [] h =
  q_ix (h.1 67 20) 12 (fun j1 =>
  q_ix (h.1 67 20) 12 (fun j2 =>
  q_ix (h.1 67 20) 12 (fun j3 =>
  q_ix (h.1 67 20) 12 (fun j4 =>
  some ((q_si (q_si (q_si (q_si (q_si (q_si h 81 j1 x1) 82 j2 x2) 83 j3 x3) 84 j4 x4) 67 20 ((h.1 67 20) + 1)) 67 21 0), none))))) := by rfl
-- WhirlShaftsModel.set(III)I with (67, None, None, None)
set_option maxRecDepth 20000 in
theorem b145_0 (X : q_X) (O : q_O) (n : Nat) (h : q_S) (x1 : Int32) (x2 : Int32) (x3 : Int32) : q_go e_145 X O (n + 1) 0 [(0, .ref 67), (1, .int x1), (2, .int x2), (3, .int x3)] [] h =
  q_c1 (O 143 h [.ref 67, .int x1, .int x2, .int x3]) (fun h1 v2 =>
  if v2 = 0 then
    q_c1 (O 138 h1 [.ref 67, .int x1, .int x2]) (fun h3 v4 =>
    if v4 = x3 then
      some (h3, some (.int v4))
    else
      q_c0 (O 144 h3 [.ref 67, .int x1, .int x2, .int v4, .int x3]) (fun h5 =>
      q_c0 (O 139 h5 [.ref 67, .int x1, .int x2, .int x3]) (fun h6 =>
      some (h6, some (.int v4)))))
  else
    some (h1, some (.int v2))) := by rfl
-- WhirlShaftsModel.undo()I with (67,)
set_option maxRecDepth 20000 in
theorem b146_0 (X : q_X) (O : q_O) (n : Nat) (h : q_S)  : q_go e_146 X O (n + 1) 0 [(0, .ref 67)] [] h =
  if (h.1 67 20) = 0 then
    some (h, some (.int (-5)))
  else
    q_ix ((h.1 67 20) - 1) 12 (fun j1 =>
    q_ix ((h.1 67 20) - 1) 12 (fun j2 =>
    q_ix ((h.1 67 20) - 1) 12 (fun j3 =>
    q_c0 (O 139 (q_si (q_si h 67 20 ((h.1 67 20) - 1)) 67 21 ((h.1 67 21) + 1)) [.ref 67, .int (h.1 81 j1), .int (h.1 82 j2), .int (h.1 83 j3)]) (fun h4 =>
    some (h4, some (.int (h4.1 67 20))))))) := by rfl
-- WhirlShaftsModel.redo()I with (67,)
set_option maxRecDepth 20000 in
theorem b147_0 (X : q_X) (O : q_O) (n : Nat) (h : q_S)  : q_go e_147 X O (n + 1) 0 [(0, .ref 67)] [] h =
  if (h.1 67 21) = 0 then
    some (h, some (.int (-5)))
  else
    q_ix (h.1 67 20) 12 (fun j1 =>
    q_ix (h.1 67 20) 12 (fun j2 =>
    q_ix (h.1 67 20) 12 (fun j3 =>
    q_c0 (O 139 h [.ref 67, .int (h.1 81 j1), .int (h.1 82 j2), .int (h.1 84 j3)]) (fun h4 =>
    some ((q_si (q_si h4 67 20 ((h4.1 67 20) + 1)) 67 21 ((h4.1 67 21) - 1)), some (.int ((h4.1 67 21) - 1))))))) := by rfl
-- WhirlShaftsModel.of(II)I with (67, None, None)
set_option maxRecDepth 20000 in
theorem b148_0 (X : q_X) (O : q_O) (n : Nat) (h : q_S) (x1 : Int32) (x2 : Int32) : q_go e_148 X O (n + 1) 0 [(0, .ref 67), (1, .int x1), (2, .int x2)] [] h =
  q_c1 (O 120 h [.int x1, .int 0, .int 5]) (fun h1 v2 =>
  if v2 = 0 then
    if x1 = 12 then
      q_c1 (O 122 h1 [.ref 67, .int x2]) (fun h3 v4 =>
      if v4 = 0 then
        some (h3, some (.int (-1)))
      else
        q_c0 (O 126 h3 [.ref 67]) (fun h5 =>
        if x1 = 6 then
          q_ix x2 8 (fun j6 =>
          some (h5, some (.int (h5.1 68 j6))))
        else if x1 = 7 then
          q_c1 (O 125 h5 [.ref 67, .int x2]) (fun h7 v8 =>
          some (h7, some (.int v8)))
        else if x1 = 8 then
          q_ix x2 8 (fun j9 =>
          some (h5, some (.int (h5.1 74 j9))))
        else if x1 = 9 then
          q_ix x2 8 (fun j10 =>
          some (h5, some (.int (h5.1 75 j10))))
        else if x1 = 10 then
          q_ix x2 8 (fun j11 =>
          some (h5, some (.int (h5.1 73 j11))))
        else if x1 = 11 then
          q_ix x2 8 (fun j12 =>
          some (h5, some (.int (h5.1 77 j12))))
        else 
          q_ix x2 8 (fun j13 =>
          some (h5, some (.int (h5.1 76 j13))))))
    else
      q_c1 (O 120 h1 [.int x1, .int 6, .int 11]) (fun h14 v15 =>
      if v15 = 0 then
        some (h14, some (.int (-1)))
      else
        q_c1 (O 121 h14 [.ref 67, .int x2]) (fun h16 v17 =>
        if v17 = 0 then
          some (h16, some (.int (-1)))
        else
          q_c0 (O 126 h16 [.ref 67]) (fun h18 =>
          if x1 = 6 then
            q_ix x2 8 (fun j19 =>
            some (h18, some (.int (h18.1 68 j19))))
          else if x1 = 7 then
            q_c1 (O 125 h18 [.ref 67, .int x2]) (fun h20 v21 =>
            some (h20, some (.int v21)))
          else if x1 = 8 then
            q_ix x2 8 (fun j22 =>
            some (h18, some (.int (h18.1 74 j22))))
          else if x1 = 9 then
            q_ix x2 8 (fun j23 =>
            some (h18, some (.int (h18.1 75 j23))))
          else if x1 = 10 then
            q_ix x2 8 (fun j24 =>
            some (h18, some (.int (h18.1 73 j24))))
          else if x1 = 11 then
            q_ix x2 8 (fun j25 =>
            some (h18, some (.int (h18.1 77 j25))))
          else 
            q_ix x2 8 (fun j26 =>
            some (h18, some (.int (h18.1 76 j26)))))))
  else
    q_c1 (O 140 h1 [.ref 67, .int x1, .int x2]) (fun h27 v28 =>
    if v28 = 0 then
      some (h27, some (.int (-1)))
    else
      q_c1 (O 138 h27 [.ref 67, .int x1, .int x2]) (fun h29 v30 =>
      some (h29, some (.int v30))))) := by rfl
-- WhirlShaftsModel.below(II)I with (67, None, None)
set_option maxRecDepth 20000 in
theorem b149_0 (X : q_X) (O : q_O) (n : Nat) (h : q_S) (x1 : Int32) (x2 : Int32) : q_go e_149 X O (n + 1) 0 [(0, .ref 67), (1, .int x1), (2, .int x2)] [] h =
  q_c1 (O 124 h [.int x1, .int x2]) (fun h1 v2 =>
  if v2 = 0 then
    some (h1, some (.int (-1)))
  else
    q_c0 (O 126 h1 [.ref 67]) (fun h3 =>
    q_c1 (O 131 h3 [.ref 67, .int x1, .int x2]) (fun h4 v5 =>
    some (h4, some (.int v5))))) := by rfl
-- WhirlShaftsModel.isRate(II)I with (67, None, None)
set_option maxRecDepth 20000 in
theorem b150_0 (X : q_X) (O : q_O) (n : Nat) (h : q_S) (x1 : Int32) (x2 : Int32) : q_go e_150 X O (n + 1) 0 [(0, .ref 67), (1, .int x1), (2, .int x2)] [] h =
  q_c1 (O 124 h [.int x1, .int x2]) (fun h1 v2 =>
  if v2 = 0 then
    some (h1, some (.int (-1)))
  else
    q_c0 (O 126 h1 [.ref 67]) (fun h3 =>
    q_c1 (O 131 h3 [.ref 67, .int x1, .int x2]) (fun h4 v5 =>
    q_ix (h4.1 67 0) 9 (fun j6 =>
    if (h4.1 79 j6) = 0 then
      some (h4, some (.int 1))
    else
      some (h4, some (.int 0)))))) := by rfl
-- WhirlShaftsModel.sign(III)I with (67, None, None, None)
set_option maxRecDepth 20000 in
theorem b151_0 (X : q_X) (O : q_O) (n : Nat) (h : q_S) (x1 : Int32) (x2 : Int32) (x3 : Int32) : q_go e_151 X O (n + 1) 0 [(0, .ref 67), (1, .int x1), (2, .int x2), (3, .int x3)] [] h =
  q_c1 (O 121 h [.ref 67, .int x1]) (fun h1 v2 =>
  if v2 = 0 then
    some (h1, some (.int (-1000)))
  else
    q_c1 (O 124 h1 [.int x2, .int x3]) (fun h3 v4 =>
    if v4 = 0 then
      some (h3, some (.int (-1000)))
    else
      q_c0 (O 126 h3 [.ref 67]) (fun h5 =>
      q_c1 (O 131 h5 [.ref 67, .int x2, .int x3]) (fun h6 v7 =>
      q_ix x1 9 (fun j8 =>
      some (h6, some (.int (h6.1 79 j8)))))))) := by rfl
-- WhirlShaftsModel.nodes(II)I with (67, None, None)
set_option maxRecDepth 20000 in
theorem b152_0 (X : q_X) (O : q_O) (n : Nat) (h : q_S) (x1 : Int32) (x2 : Int32) : q_go e_152 X O (n + 1) 0 [(0, .ref 67), (1, .int x1), (2, .int x2)] [] h =
  q_c1 (O 124 h [.int x1, .int x2]) (fun h1 v2 =>
  if v2 = 0 then
    some (h1, some (.int (-1)))
  else
    q_c0 (O 126 h1 [.ref 67]) (fun h3 =>
    q_c1 (O 131 h3 [.ref 67, .int x1, .int x2]) (fun h4 v5 =>
    q_go e_152 X O n 29 [(0, .ref 67), (3, .int 0), (4, .int 1), (5, .int 0)] [] h4))) := by rfl
set_option maxRecDepth 20000 in
theorem b152_29 (X : q_X) (O : q_O) (n : Nat) (h : q_S) (x3 : Int32) (x4 : Int32) (x5 : Int32) : q_go e_152 X O (n + 1) 29 [(0, .ref 67), (3, .int x3), (4, .int x4), (5, .int x5)] [] h =
  if x5 < (h.1 67 0) then
    q_ix x5 9 (fun j1 =>
    if (h.1 79 j1) = 0 then
      q_go e_152 X O n 29 [(0, .ref 67), (3, .int x3), (4, .int x4), (5, .int (x5 + 1))] [] h
    else
      q_ix x5 9 (fun j2 =>
      if (h.1 79 j2) = x4 then
        q_go e_152 X O n 29 [(0, .ref 67), (3, .int x3), (4, .int x4), (5, .int (x5 + 1))] [] h
      else
        q_ix x5 9 (fun j3 =>
        q_go e_152 X O n 29 [(0, .ref 67), (3, .int (x3 + 1)), (4, .int (h.1 79 j3)), (5, .int (x5 + 1))] [] h)))
  else
    some (h, some (.int x3)) := by rfl
-- WhirlShaftsModel.rest(III)I with (67, None, None, None)
set_option maxRecDepth 20000 in
theorem b153_0 (X : q_X) (O : q_O) (n : Nat) (h : q_S) (x1 : Int32) (x2 : Int32) (x3 : Int32) : q_go e_153 X O (n + 1) 0 [(0, .ref 67), (1, .int x1), (2, .int x2), (3, .int x3)] [] h =
  q_c1 (O 120 h [.int x1, .int 0, .int (h.1 67 0)]) (fun h1 v2 =>
  if v2 = 0 then
    some (h1, some (.int (-1)))
  else
    q_c1 (O 124 h1 [.int x2, .int x3]) (fun h3 v4 =>
    if v4 = 0 then
      some (h3, some (.int (-1)))
    else
      q_c0 (O 126 h3 [.ref 67]) (fun h5 =>
      q_c1 (O 131 h5 [.ref 67, .int x2, .int x3]) (fun h6 v7 =>
      q_ix x1 9 (fun j8 =>
      some (h6, some (.int (h6.1 80 j8)))))))) := by rfl
-- WhirlShaftsModel.top()I with (67,)
set_option maxRecDepth 20000 in
theorem b154_0 (X : q_X) (O : q_O) (n : Nat) (h : q_S)  : q_go e_154 X O (n + 1) 0 [(0, .ref 67)] [] h =
  q_c0 (O 126 h [.ref 67]) (fun h1 =>
  q_c1 (O 132 h1 [.ref 67]) (fun h2 v3 =>
  some (h2, some (.int v3)))) := by rfl
-- WhirlShaftsModel.isFenced(II)Z with (67, None, None)
set_option maxRecDepth 20000 in
theorem b155_0 (X : q_X) (O : q_O) (n : Nat) (h : q_S) (x1 : Int32) (x2 : Int32) : q_go e_155 X O (n + 1) 0 [(0, .ref 67), (1, .int x1), (2, .int x2)] [] h =
  q_c1 (O 121 h [.ref 67, .int x1]) (fun h1 v2 =>
  if v2 = 0 then
    some (h1, some (.int 0))
  else
    q_c1 (O 123 h1 [.int x2]) (fun h3 v4 =>
    if v4 = 0 then
      some (h3, some (.int 0))
    else
      some (h3, some (.int 1)))) := by rfl
-- WhirlShaftsModel.fence(II)I with (67, None, None)
set_option maxRecDepth 20000 in
theorem b156_0 (X : q_X) (O : q_O) (n : Nat) (h : q_S) (x1 : Int32) (x2 : Int32) : q_go e_156 X O (n + 1) 0 [(0, .ref 67), (1, .int x1), (2, .int x2)] [] h =
  q_c1 (O 155 h [.ref 67, .int x1, .int x2]) (fun h1 v2 =>
  if v2 = 0 then
    some (h1, some (.int (-1)))
  else
    q_c1 (O 133 h1 [.ref 67, .int x1, .int x2]) (fun h3 v4 =>
    some (h3, some (.int v4)))) := by rfl
-- WhirlShaftsModel.held(III)I with (67, None, None, None)
set_option maxRecDepth 20000 in
theorem b157_0 (X : q_X) (O : q_O) (n : Nat) (h : q_S) (x1 : Int32) (x2 : Int32) (x3 : Int32) : q_go e_157 X O (n + 1) 0 [(0, .ref 67), (1, .int x1), (2, .int x2), (3, .int x3)] [] h =
  q_c1 (O 121 h [.ref 67, .int x1]) (fun h1 v2 =>
  if v2 = 0 then
    some (h1, some (.int (-1)))
  else
    q_c1 (O 124 h1 [.int x2, .int x3]) (fun h3 v4 =>
    if v4 = 0 then
      some (h3, some (.int (-1)))
    else
      q_c0 (O 126 h3 [.ref 67]) (fun h5 =>
      q_c1 (O 130 h5 [.ref 67, .int 0, .int (x1 - 1), .int x2, .int x3]) (fun h6 v7 =>
      q_c1 (O 130 h6 [.ref 67, .int (x1 + 1), .int ((h6.1 67 0) - 1), .int x2, .int x3]) (fun h8 v9 =>
      some (h8, some (.int (v7 + v9)))))))) := by rfl
-- WhirlShaftsModel.isBand(III)Z with (None, None, None)
set_option maxRecDepth 20000 in
theorem b158_0 (X : q_X) (O : q_O) (n : Nat) (h : q_S) (x0 : Int32) (x1 : Int32) (x2 : Int32) : q_go e_158 X O (n + 1) 0 [(0, .int x0), (1, .int x1), (2, .int x2)] [] h =
  q_c1 (O 124 h [.int x0, .int x2]) (fun h1 v2 =>
  if v2 = 0 then
    some (h1, some (.int 0))
  else
    q_c1 (O 124 h1 [.int x1, .int x2]) (fun h3 v4 =>
    if v4 = 0 then
      some (h3, some (.int 0))
    else
      if x1 < x0 then
        some (h3, some (.int 0))
      else
        some (h3, some (.int 1)))) := by rfl
-- WhirlShaftsModel.bandOf(III)I with (67, None, None, None)
set_option maxRecDepth 20000 in
theorem b159_0 (X : q_X) (O : q_O) (n : Nat) (h : q_S) (x1 : Int32) (x2 : Int32) (x3 : Int32) : q_go e_159 X O (n + 1) 0 [(0, .ref 67), (1, .int x1), (2, .int x2), (3, .int x3)] [] h =
  q_c0 (O 126 h [.ref 67]) (fun h1 =>
  q_c1 (O 131 h1 [.ref 67, .int x2, .int x3]) (fun h2 v3 =>
  q_c1 (O 131 h2 [.ref 67, .int x1, .int x3]) (fun h4 v5 =>
  some (h4, some (.int (v3 - v5)))))) := by rfl
-- WhirlShaftsModel.band(III)I with (67, None, None, None)
set_option maxRecDepth 20000 in
theorem b160_0 (X : q_X) (O : q_O) (n : Nat) (h : q_S) (x1 : Int32) (x2 : Int32) (x3 : Int32) : q_go e_160 X O (n + 1) 0 [(0, .ref 67), (1, .int x1), (2, .int x2), (3, .int x3)] [] h =
  q_c1 (O 158 h [.int x1, .int x2, .int x3]) (fun h1 v2 =>
  if v2 = 0 then
    some (h1, some (.int (-1)))
  else
    q_c1 (O 159 h1 [.ref 67, .int x1, .int x2, .int x3]) (fun h3 v4 =>
    some (h3, some (.int v4)))) := by rfl
-- WhirlShaftsModel.gap(II)I with (67, None, None)
set_option maxRecDepth 20000 in
theorem b161_0 (X : q_X) (O : q_O) (n : Nat) (h : q_S) (x1 : Int32) (x2 : Int32) : q_go e_161 X O (n + 1) 0 [(0, .ref 67), (1, .int x1), (2, .int x2)] [] h =
  q_c1 (O 123 h [.int x1]) (fun h1 v2 =>
  if v2 = 0 then
    some (h1, some (.int (-1)))
  else
    q_c1 (O 120 h1 [.int x2, .int 0, .int 1]) (fun h3 v4 =>
    if v4 = 0 then
      some (h3, some (.int (-1)))
    else
      q_go e_161 X O n 28 [(0, .ref 67), (1, .int x1), (2, .int x2), (3, .int (-2)), (4, .int (-2)), (5, .int 0)] [] h3)) := by rfl
set_option maxRecDepth 20000 in
theorem b161_28 (X : q_X) (O : q_O) (n : Nat) (h : q_S) (x1 : Int32) (x2 : Int32) (x3 : Int32) (x4 : Int32) (x5 : Int32) : q_go e_161 X O (n + 1) 28 [(0, .ref 67), (1, .int x1), (2, .int x2), (3, .int x3), (4, .int x4), (5, .int x5)] [] h =
  if x5 < ((h.1 67 0) - 1) then
    q_c1 (O 133 h [.ref 67, .int (x5 + 1), .int x1]) (fun h1 v2 =>
    q_c1 (O 133 h1 [.ref 67, .int x5, .int x1]) (fun h3 v4 =>
    if x3 < 0 then
      q_go e_161 X O n 28 [(0, .ref 67), (1, .int x1), (2, .int x2), (3, .int x5), (4, .int (v2 - v4)), (5, .int (x5 + 1))] [] h3
    else
      if x4 < (v2 - v4) then
        q_go e_161 X O n 28 [(0, .ref 67), (1, .int x1), (2, .int x2), (3, .int x5), (4, .int (v2 - v4)), (5, .int (x5 + 1))] [] h3
      else
        q_go e_161 X O n 28 [(0, .ref 67), (1, .int x1), (2, .int x2), (3, .int x3), (4, .int x4), (5, .int (x5 + 1))] [] h3))
  else
    if x2 = 0 then
      some (h, some (.int x3))
    else
      some (h, some (.int x4)) := by rfl
-- WhirlShaftsModel.trim(IIIII)I with (67, None, None, None, None, None)
set_option maxRecDepth 20000 in
theorem b162_0 (X : q_X) (O : q_O) (n : Nat) (h : q_S) (x1 : Int32) (x2 : Int32) (x3 : Int32) (x4 : Int32) (x5 : Int32) : q_go e_162 X O (n + 1) 0 [(0, .ref 67), (1, .int x1), (2, .int x2), (3, .int x3), (4, .int x4), (5, .int x5)] [] h =
  q_c1 (O 121 h [.ref 67, .int x1]) (fun h1 v2 =>
  if v2 = 0 then
    some (h1, some (.int (-1)))
  else
    q_c1 (O 121 h1 [.ref 67, .int x2]) (fun h3 v4 =>
    if v4 = 0 then
      some (h3, some (.int (-1)))
    else
      q_c1 (O 124 h3 [.int x3, .int x4]) (fun h5 v6 =>
      if v6 = 0 then
        some (h5, some (.int (-1)))
      else
        q_c1 (O 120 h5 [.int x5, .int 0, .int 1]) (fun h7 v8 =>
        if v8 = 0 then
          some (h7, some (.int (-1)))
        else
          q_ix x1 8 (fun j9 =>
          q_go e_162 X O n 54 [(0, .ref 67), (1, .int x1), (2, .int x2), (3, .int x3), (4, .int x4), (5, .int x5), (6, .int (h7.1 69 j9)), (7, .int 0), (8, .int 0), (9, .int 1)] [] h7))))) := by rfl
set_option maxRecDepth 20000 in
theorem b162_54 (X : q_X) (O : q_O) (n : Nat) (h : q_S) (x1 : Int32) (x2 : Int32) (x3 : Int32) (x4 : Int32) (x5 : Int32) (x6 : Int32) (x7 : Int32) (x8 : Int32) (x9 : Int32) : q_go e_162 X O (n + 1) 54 [(0, .ref 67), (1, .int x1), (2, .int x2), (3, .int x3), (4, .int x4), (5, .int x5), (6, .int x6), (7, .int x7), (8, .int x8), (9, .int x9)] [] h =
  if 99 < x9 then
    q_ix x1 8 (fun j1 =>
    if x5 = 0 then
      some ((q_si h 69 j1 x6), some (.int x7))
    else
      some ((q_si h 69 j1 x6), some (.int x8)))
  else
    q_ix x1 8 (fun j2 =>
    q_c1 (O 133 (q_si h 69 j2 x9) [.ref 67, .int x2, .int x4]) (fun h3 v4 =>
    if (v4 - x3) < 0 then
      q_go e_162 X O n 93 [(0, .ref 67), (1, .int x1), (2, .int x2), (3, .int x3), (4, .int x4), (5, .int x5), (6, .int x6), (7, .int x7), (8, .int x8), (9, .int x9)] [.int (-(v4 - x3))] h3
    else
      q_go e_162 X O n 93 [(0, .ref 67), (1, .int x1), (2, .int x2), (3, .int x3), (4, .int x4), (5, .int x5), (6, .int x6), (7, .int x7), (8, .int x8), (9, .int x9)] [.int (v4 - x3)] h3)) := by rfl
set_option maxRecDepth 20000 in
theorem b162_93 (X : q_X) (O : q_O) (n : Nat) (h : q_S) (x1 : Int32) (x2 : Int32) (x3 : Int32) (x4 : Int32) (x5 : Int32) (x6 : Int32) (x7 : Int32) (x8 : Int32) (x9 : Int32) (s0 : Int32) : q_go e_162 X O (n + 1) 93 [(0, .ref 67), (1, .int x1), (2, .int x2), (3, .int x3), (4, .int x4), (5, .int x5), (6, .int x6), (7, .int x7), (8, .int x8), (9, .int x9)] [.int s0] h =
  if 0 < x7 then
    if s0 < x8 then
      q_go e_162 X O n 54 [(0, .ref 67), (1, .int x1), (2, .int x2), (3, .int x3), (4, .int x4), (5, .int x5), (6, .int x6), (7, .int x9), (8, .int s0), (9, .int (x9 + 1))] [] h
    else
      q_go e_162 X O n 54 [(0, .ref 67), (1, .int x1), (2, .int x2), (3, .int x3), (4, .int x4), (5, .int x5), (6, .int x6), (7, .int x7), (8, .int x8), (9, .int (x9 + 1))] [] h
  else
    q_go e_162 X O n 54 [(0, .ref 67), (1, .int x1), (2, .int x2), (3, .int x3), (4, .int x4), (5, .int x5), (6, .int x6), (7, .int x9), (8, .int s0), (9, .int (x9 + 1))] [] h := by rfl
-- WhirlShaftsModel.tune(IIII)I with (67, None, None, None, None)
set_option maxRecDepth 20000 in
theorem b163_0 (X : q_X) (O : q_O) (n : Nat) (h : q_S) (x1 : Int32) (x2 : Int32) (x3 : Int32) (x4 : Int32) : q_go e_163 X O (n + 1) 0 [(0, .ref 67), (1, .int x1), (2, .int x2), (3, .int x3), (4, .int x4)] [] h =
  q_c1 (O 122 h [.ref 67, .int x1]) (fun h1 v2 =>
  if v2 = 0 then
    some (h1, some (.int (-1)))
  else
    q_c1 (O 158 h1 [.int x2, .int x3, .int x4]) (fun h3 v4 =>
    if v4 = 0 then
      some (h3, some (.int (-1)))
    else
      q_ix x1 8 (fun j5 =>
      q_go e_163 X O n 34 [(0, .ref 67), (1, .int x1), (2, .int x2), (3, .int x3), (4, .int x4), (5, .int (h3.1 71 j5)), (6, .int 1), (7, .int 0)] [] h3))) := by rfl
set_option maxRecDepth 20000 in
theorem b163_34 (X : q_X) (O : q_O) (n : Nat) (h : q_S) (x1 : Int32) (x2 : Int32) (x3 : Int32) (x4 : Int32) (x5 : Int32) (x6 : Int32) (x7 : Int32) : q_go e_163 X O (n + 1) 34 [(0, .ref 67), (1, .int x1), (2, .int x2), (3, .int x3), (4, .int x4), (5, .int x5), (6, .int x6), (7, .int x7)] [] h =
  if x7 = 0 then
    if 99 < x6 then
      q_go e_163 X O n 78 [(0, .ref 67), (1, .int x1), (5, .int x5), (6, .int x6), (7, .int x7)] [] h
    else
      q_ix x1 8 (fun j1 =>
      q_c1 (O 159 (q_si h 71 j1 x6) [.ref 67, .int x2, .int x3, .int x4]) (fun h2 v3 =>
      if v3 = 0 then
        q_go e_163 X O n 34 [(0, .ref 67), (1, .int x1), (2, .int x2), (3, .int x3), (4, .int x4), (5, .int x5), (6, .int (x6 + 1)), (7, .int 1)] [] h2
      else
        q_go e_163 X O n 34 [(0, .ref 67), (1, .int x1), (2, .int x2), (3, .int x3), (4, .int x4), (5, .int x5), (6, .int (x6 + 1)), (7, .int 0)] [] h2))
  else
    q_go e_163 X O n 78 [(0, .ref 67), (1, .int x1), (5, .int x5), (6, .int x6), (7, .int x7)] [] h := by rfl
set_option maxRecDepth 20000 in
theorem b163_78 (X : q_X) (O : q_O) (n : Nat) (h : q_S) (x1 : Int32) (x5 : Int32) (x6 : Int32) (x7 : Int32) : q_go e_163 X O (n + 1) 78 [(0, .ref 67), (1, .int x1), (5, .int x5), (6, .int x6), (7, .int x7)] [] h =
  q_ix x1 8 (fun j1 =>
  if x7 = 0 then
    some ((q_si h 71 j1 x5), some (.int (-2)))
  else
    some ((q_si h 71 j1 x5), some (.int (x6 - 1)))) := by rfl
-- WhirlShaftsModel.heavier(III)I with (67, None, None, None)
set_option maxRecDepth 20000 in
theorem b164_0 (X : q_X) (O : q_O) (n : Nat) (h : q_S) (x1 : Int32) (x2 : Int32) (x3 : Int32) : q_go e_164 X O (n + 1) 0 [(0, .ref 67), (1, .int x1), (2, .int x2), (3, .int x3)] [] h =
  q_c1 (O 155 h [.ref 67, .int x1, .int x2]) (fun h1 v2 =>
  if v2 = 0 then
    some (h1, some (.int (-1)))
  else
    q_c1 (O 120 h1 [.int x3, .int 0, .int 1]) (fun h3 v4 =>
    if v4 = 0 then
      some (h3, some (.int (-1)))
    else
      q_go e_164 X O n 31 [(0, .ref 67), (1, .int x1), (2, .int x2), (3, .int x3), (4, .int (-2)), (5, .int (-2)), (6, .int 0)] [] h3)) := by rfl
set_option maxRecDepth 20000 in
theorem b164_31 (X : q_X) (O : q_O) (n : Nat) (h : q_S) (x1 : Int32) (x2 : Int32) (x3 : Int32) (x4 : Int32) (x5 : Int32) (x6 : Int32) : q_go e_164 X O (n + 1) 31 [(0, .ref 67), (1, .int x1), (2, .int x2), (3, .int x3), (4, .int x4), (5, .int x5), (6, .int x6)] [] h =
  if x6 < (h.1 67 0) then
    q_ix x6 8 (fun j1 =>
    if (h.1 69 j1) = 99 then
      q_go e_164 X O n 31 [(0, .ref 67), (1, .int x1), (2, .int x2), (3, .int x3), (4, .int x4), (5, .int x5), (6, .int (x6 + 1))] [] h
    else
      q_ix x6 8 (fun j2 =>
      q_ix x6 8 (fun j3 =>
      q_c1 (O 133 (q_si h 69 j3 ((h.1 69 j2) + 1)) [.ref 67, .int x1, .int x2]) (fun h4 v5 =>
      q_ix x6 8 (fun j6 =>
      q_ix x6 8 (fun j7 =>
      if x4 < 0 then
        q_go e_164 X O n 31 [(0, .ref 67), (1, .int x1), (2, .int x2), (3, .int x3), (4, .int x6), (5, .int v5), (6, .int (x6 + 1))] [] (q_si h4 69 j7 ((h4.1 69 j6) - 1))
      else
        if v5 < x5 then
          q_go e_164 X O n 31 [(0, .ref 67), (1, .int x1), (2, .int x2), (3, .int x3), (4, .int x6), (5, .int v5), (6, .int (x6 + 1))] [] (q_si h4 69 j7 ((h4.1 69 j6) - 1))
        else
          q_go e_164 X O n 31 [(0, .ref 67), (1, .int x1), (2, .int x2), (3, .int x3), (4, .int x4), (5, .int x5), (6, .int (x6 + 1))] [] (q_si h4 69 j7 ((h4.1 69 j6) - 1))))))))
  else
    if x3 = 0 then
      some (h, some (.int x4))
    else
      some (h, some (.int x5)) := by rfl
-- WhirlShaftsModel.swaps(I)V with (67, None)
set_option maxRecDepth 20000 in
theorem b165_0 (X : q_X) (O : q_O) (n : Nat) (h : q_S) (x1 : Int32) : q_go e_165 X O (n + 1) 0 [(0, .ref 67), (1, .int x1)] [] h =
  q_ix x1 8 (fun j1 =>
  q_ix x1 8 (fun j2 =>
  q_ix (x1 + 1) 8 (fun j3 =>
  q_ix x1 8 (fun j4 =>
  q_ix (x1 + 1) 8 (fun j5 =>
  q_ix x1 8 (fun j6 =>
  q_ix (x1 + 1) 8 (fun j7 =>
  q_ix (x1 + 1) 8 (fun j8 =>
  some ((q_si (q_si (q_si (q_si h 68 j4 (h.1 68 j3)) 69 j6 (h.1 69 j5)) 68 j7 (h.1 68 j1)) 69 j8 (h.1 69 j2)), none))))))))) := by rfl
-- WhirlShaftsModel.change(II)I with (67, None, None)
set_option maxRecDepth 20000 in
theorem b166_0 (X : q_X) (O : q_O) (n : Nat) (h : q_S) (x1 : Int32) (x2 : Int32) : q_go e_166 X O (n + 1) 0 [(0, .ref 67), (1, .int x1), (2, .int x2)] [] h =
  q_c1 (O 155 h [.ref 67, .int x1, .int x2]) (fun h1 v2 =>
  if v2 = 0 then
    some (h1, some (.int (-1)))
  else
    q_c1 (O 133 h1 [.ref 67, .int x1, .int x2]) (fun h3 v4 =>
    q_go e_166 X O n 25 [(0, .ref 67), (1, .int x1), (2, .int x2), (3, .int (-2)), (4, .int v4), (5, .int 0)] [] h3)) := by rfl
set_option maxRecDepth 20000 in
theorem b166_25 (X : q_X) (O : q_O) (n : Nat) (h : q_S) (x1 : Int32) (x2 : Int32) (x3 : Int32) (x4 : Int32) (x5 : Int32) : q_go e_166 X O (n + 1) 25 [(0, .ref 67), (1, .int x1), (2, .int x2), (3, .int x3), (4, .int x4), (5, .int x5)] [] h =
  if x5 < ((h.1 67 0) - 1) then
    q_c0 (O 165 h [.ref 67, .int x5]) (fun h1 =>
    q_c1 (O 133 h1 [.ref 67, .int x1, .int x2]) (fun h2 v3 =>
    q_c0 (O 165 h2 [.ref 67, .int x5]) (fun h4 =>
    if x4 < v3 then
      q_go e_166 X O n 25 [(0, .ref 67), (1, .int x1), (2, .int x2), (3, .int x5), (4, .int v3), (5, .int (x5 + 1))] [] h4
    else
      q_go e_166 X O n 25 [(0, .ref 67), (1, .int x1), (2, .int x2), (3, .int x3), (4, .int x4), (5, .int (x5 + 1))] [] h4)))
  else
    some (h, some (.int x3)) := by rfl
-- WhirlShaftsModel.critical(I)I with (67, None)
set_option maxRecDepth 20000 in
theorem b167_0 (X : q_X) (O : q_O) (n : Nat) (h : q_S) (x1 : Int32) : q_go e_167 X O (n + 1) 0 [(0, .ref 67), (1, .int x1)] [] h =
  q_c1 (O 121 h [.ref 67, .int x1]) (fun h1 v2 =>
  if v2 = 0 then
    some (h1, some (.int (-1)))
  else
    q_go e_167 X O n 21 [(0, .ref 67), (1, .int x1), (2, .int (h1.1 67 1)), (3, .int (-2)), (4, .int 1)] [] h1) := by rfl
set_option maxRecDepth 20000 in
theorem b167_21 (X : q_X) (O : q_O) (n : Nat) (h : q_S) (x1 : Int32) (x2 : Int32) (x3 : Int32) (x4 : Int32) : q_go e_167 X O (n + 1) 21 [(0, .ref 67), (1, .int x1), (2, .int x2), (3, .int x3), (4, .int x4)] [] h =
  if 9 < x4 then
    some ((q_si h 67 1 x2), some (.int x3))
  else
    if x3 < 0 then
      q_c1 (O 133 (q_si h 67 1 x4) [.ref 67, .int x1, .int 1]) (fun h1 v2 =>
      if (x4 * x4) < v2 then
        q_go e_167 X O n 21 [(0, .ref 67), (1, .int x1), (2, .int x2), (3, .int x3), (4, .int (x4 + 1))] [] h1
      else
        q_go e_167 X O n 21 [(0, .ref 67), (1, .int x1), (2, .int x2), (3, .int x4), (4, .int (x4 + 1))] [] h1)
    else
      some ((q_si h 67 1 x2), some (.int x3)) := by rfl
-- WhirlShaftsModel.isRow(I)Z with (None,)
set_option maxRecDepth 20000 in
theorem b168_0 (X : q_X) (O : q_O) (n : Nat) (h : q_S) (x0 : Int32) : q_go e_168 X O (n + 1) 0 [(0, .int x0)] [] h =
  q_c1 (O 120 h [.int x0, .int 0, .int 2]) (fun h1 v2 =>
  if v2 = 0 ∨ v2 = 1 then some (h1, some (.int v2)) else none) := by rfl
-- WhirlShaftsModel.narrow(IJ)J with (None, None)
set_option maxRecDepth 20000 in
theorem b169_0 (X : q_X) (O : q_O) (n : Nat) (h : q_S) (x0 : Int32) (x1 : Int64) : q_go e_169 X O (n + 1) 0 [(0, .int x0), (1, .long x1)] [] h =
  if x0 = 0 then
    some (h, some (.long (((((((x1 : Int64)).toInt32 : Int32)).toInt8.toInt32 : Int32)).toInt64)))
  else
    if x0 = 1 then
      some (h, some (.long (((((x1 : Int64)).toInt32 : Int32)).toInt64)))
    else
      some (h, some (.long x1)) := by rfl
-- WhirlShaftsModel.row(III)I with (67, None, None, None)
set_option maxRecDepth 20000 in
theorem b170_0 (X : q_X) (O : q_O) (n : Nat) (h : q_S) (x1 : Int32) (x2 : Int32) (x3 : Int32) : q_go e_170 X O (n + 1) 0 [(0, .ref 67), (1, .int x1), (2, .int x2), (3, .int x3)] [] h =
  q_c1 (O 168 h [.int x1]) (fun h1 v2 =>
  if v2 = 0 then
    some (h1, some (.int (-1)))
  else
    q_c1 (O 120 h1 [.int x2, .int (-1), .int 2]) (fun h3 v4 =>
    if v4 = 0 then
      some (h3, some (.int (-1)))
    else
      if x2 < 0 then
        if x2 < 0 then
          q_go e_170 X O n 39 [(0, .ref 67), (1, .int x1), (2, .int x2), (3, .int x3)] [] h3
        else
          if x3 < 0 then
            some (h3, some (.int (-14)))
          else
            q_go e_170 X O n 39 [(0, .ref 67), (1, .int x1), (2, .int x2), (3, .int x3)] [] h3
      else
        if 40 < x3 then
          some (h3, some (.int (-1)))
        else
          if x2 < 0 then
            q_go e_170 X O n 39 [(0, .ref 67), (1, .int x1), (2, .int x2), (3, .int x3)] [] h3
          else
            if x3 < 0 then
              some (h3, some (.int (-14)))
            else
              q_go e_170 X O n 39 [(0, .ref 67), (1, .int x1), (2, .int x2), (3, .int x3)] [] h3)) := by rfl
set_option maxRecDepth 20000 in
theorem b170_39 (X : q_X) (O : q_O) (n : Nat) (h : q_S) (x1 : Int32) (x2 : Int32) (x3 : Int32) : q_go e_170 X O (n + 1) 39 [(0, .ref 67), (1, .int x1), (2, .int x2), (3, .int x3)] [] h =
  q_ix x1 3 (fun j1 =>
  if x2 < 0 then
    q_ix x1 3 (fun j2 =>
    q_go e_170 X O n 64 [(0, .ref 67), (1, .int x1), (4, .int 0)] [] (q_si (q_si h 85 j1 x2) 86 j2 0))
  else
    q_ix x1 3 (fun j3 =>
    q_go e_170 X O n 64 [(0, .ref 67), (1, .int x1), (4, .int 0)] [] (q_si (q_si h 85 j1 x2) 86 j3 x3))) := by rfl
set_option maxRecDepth 20000 in
theorem b170_64 (X : q_X) (O : q_O) (n : Nat) (h : q_S) (x1 : Int32) (x4 : Int32) : q_go e_170 X O (n + 1) 64 [(0, .ref 67), (1, .int x1), (4, .int x4)] [] h =
  if x4 < 40 then
    q_ix ((40 * x1) + x4) 120 (fun j1 =>
    q_go e_170 X O n 64 [(0, .ref 67), (1, .int x1), (4, .int (x4 + 1))] [] (q_sl h 87 j1 (Int64.ofNat 0)))
  else
    some (h, some (.int 1)) := by rfl
-- WhirlShaftsModel.put(IIJ)I with (67, None, None, None)
set_option maxRecDepth 20000 in
theorem b171_0 (X : q_X) (O : q_O) (n : Nat) (h : q_S) (x1 : Int32) (x2 : Int32) (x3 : Int64) : q_go e_171 X O (n + 1) 0 [(0, .ref 67), (1, .int x1), (2, .int x2), (3, .long x3)] [] h =
  q_c1 (O 168 h [.int x1]) (fun h1 v2 =>
  if v2 = 0 then
    some (h1, some (.int (-1)))
  else
    q_ix x1 3 (fun j3 =>
    if (h1.1 85 j3) < 0 then
      some (h1, some (.int (-11)))
    else
      q_ix x1 3 (fun j4 =>
      q_c1 (O 120 h1 [.int x2, .int 0, .int ((h1.1 86 j4) - 1)]) (fun h5 v6 =>
      if v6 = 0 then
        some (h5, some (.int (-13)))
      else
        q_ix x1 3 (fun j7 =>
        q_c3 (O 169 h5 [.int (h5.1 85 j7), .long x3]) (fun h8 v9 =>
        q_ix ((40 * x1) + x2) 120 (fun j10 =>
        some ((q_sl h8 87 j10 v9), some (.int 1))))))))) := by rfl
-- WhirlShaftsModel.get(II)J with (67, None, None)
set_option maxRecDepth 20000 in
theorem b172_0 (X : q_X) (O : q_O) (n : Nat) (h : q_S) (x1 : Int32) (x2 : Int32) : q_go e_172 X O (n + 1) 0 [(0, .ref 67), (1, .int x1), (2, .int x2)] [] h =
  q_c1 (O 168 h [.int x1]) (fun h1 v2 =>
  if v2 = 0 then
    some (h1, some (.long (Int64.ofNat 9223372036854775808)))
  else
    q_ix x1 3 (fun j3 =>
    if (h1.1 85 j3) < 0 then
      some (h1, some (.long (Int64.ofNat 9223372036854775808)))
    else
      q_ix x1 3 (fun j4 =>
      q_c1 (O 120 h1 [.int x2, .int 0, .int ((h1.1 86 j4) - 1)]) (fun h5 v6 =>
      if v6 = 0 then
        some (h5, some (.long (Int64.ofNat 9223372036854775808)))
      else
        q_ix ((40 * x1) + x2) 120 (fun j7 =>
        some (h5, some (.long (h5.2.1 87 j7)))))))) := by rfl
-- WhirlShaftsModel.film(III)I with (67, None, None, None)
set_option maxRecDepth 20000 in
theorem b173_0 (X : q_X) (O : q_O) (n : Nat) (h : q_S) (x1 : Int32) (x2 : Int32) (x3 : Int32) : q_go e_173 X O (n + 1) 0 [(0, .ref 67), (1, .int x1), (2, .int x2), (3, .int x3)] [] h =
  q_c1 (O 168 h [.int x1]) (fun h1 v2 =>
  if v2 = 0 then
    some (h1, some (.int (-1)))
  else
    q_c1 (O 120 h1 [.int x2, .int 0, .int 2]) (fun h3 v4 =>
    if v4 = 0 then
      some (h3, some (.int (-1)))
    else
      q_c1 (O 123 h3 [.int x3]) (fun h5 v6 =>
      if v6 = 0 then
        some (h5, some (.int (-1)))
      else
        q_ix x1 3 (fun j7 =>
        q_ix x1 3 (fun j8 =>
        q_go e_173 X O n 45 [(0, .ref 67), (1, .int x1), (2, .int x2), (3, .int x3), (4, .int 0)] [] (q_si (q_si h5 85 j7 x2) 86 j8 (h5.1 67 0))))))) := by rfl
set_option maxRecDepth 20000 in
theorem b173_45 (X : q_X) (O : q_O) (n : Nat) (h : q_S) (x1 : Int32) (x2 : Int32) (x3 : Int32) (x4 : Int32) : q_go e_173 X O (n + 1) 45 [(0, .ref 67), (1, .int x1), (2, .int x2), (3, .int x3), (4, .int x4)] [] h =
  if x4 < 40 then
    if x4 < (h.1 67 0) then
      q_c1 (O 133 h [.ref 67, .int x4, .int x3]) (fun h1 v2 =>
      q_c3 (O 169 h1 [.int x2, .long (((v2 : Int32)).toInt64)]) (fun h3 v4 =>
      q_ix ((40 * x1) + x4) 120 (fun j5 =>
      q_go e_173 X O n 45 [(0, .ref 67), (1, .int x1), (2, .int x2), (3, .int x3), (4, .int (x4 + 1))] [] (q_sl h3 87 j5 v4))))
    else
      q_ix ((40 * x1) + x4) 120 (fun j6 =>
      q_go e_173 X O n 45 [(0, .ref 67), (1, .int x1), (2, .int x2), (3, .int x3), (4, .int (x4 + 1))] [] (q_sl h 87 j6 (Int64.ofNat 0)))
  else
    some (h, some (.int (h.1 67 0))) := by rfl
-- WhirlShaftsModel.copy(IIIII)I with (67, None, None, None, None, None)
set_option maxRecDepth 20000 in
theorem b174_0 (X : q_X) (O : q_O) (n : Nat) (h : q_S) (x1 : Int32) (x2 : Int32) (x3 : Int32) (x4 : Int32) (x5 : Int32) : q_go e_174 X O (n + 1) 0 [(0, .ref 67), (1, .int x1), (2, .int x2), (3, .int x3), (4, .int x4), (5, .int x5)] [] h =
  q_c1 (O 168 h [.int x1]) (fun h1 v2 =>
  if v2 = 0 then
    some (h1, some (.int (-1)))
  else
    q_c1 (O 168 h1 [.int x3]) (fun h3 v4 =>
    if v4 = 0 then
      some (h3, some (.int (-1)))
    else
      q_ix x1 3 (fun j5 =>
      if (h3.1 85 j5) < 0 then
        some (h3, some (.int (-11)))
      else
        q_ix x3 3 (fun j6 =>
        if (h3.1 85 j6) < 0 then
          some (h3, some (.int (-11)))
        else
          q_ix x1 3 (fun j7 =>
          q_ix x3 3 (fun j8 =>
          if (h3.1 85 j7) = (h3.1 85 j8) then
            if x5 < 0 then
              some (h3, some (.int (-13)))
            else
              if x2 < 0 then
                some (h3, some (.int (-13)))
              else
                if x4 < 0 then
                  some (h3, some (.int (-13)))
                else
                  q_ix x1 3 (fun j9 =>
                  if 0 < (lg_cmp (((x2 : Int32)).toInt64 + ((x5 : Int32)).toInt64) ((((h3.1 86 j9) : Int32)).toInt64)) then
                    some (h3, some (.int (-13)))
                  else
                    q_ix x3 3 (fun j10 =>
                    if 0 < (lg_cmp (((x4 : Int32)).toInt64 + ((x5 : Int32)).toInt64) ((((h3.1 86 j10) : Int32)).toInt64)) then
                      some (h3, some (.int (-13)))
                    else
                      q_go e_174 X O n 110 [(0, .ref 67), (1, .int x1), (2, .int x2), (3, .int x3), (4, .int x4), (5, .int x5), (6, .int 0)] [] h3))
          else
            some (h3, some (.int (-12))))))))) := by rfl
set_option maxRecDepth 20000 in
theorem b174_110 (X : q_X) (O : q_O) (n : Nat) (h : q_S) (x1 : Int32) (x2 : Int32) (x3 : Int32) (x4 : Int32) (x5 : Int32) (x6 : Int32) : q_go e_174 X O (n + 1) 110 [(0, .ref 67), (1, .int x1), (2, .int x2), (3, .int x3), (4, .int x4), (5, .int x5), (6, .int x6)] [] h =
  if x6 < x5 then
    q_ix (((40 * x1) + x2) + x6) 120 (fun j1 =>
    q_ix x6 40 (fun j2 =>
    q_go e_174 X O n 110 [(0, .ref 67), (1, .int x1), (2, .int x2), (3, .int x3), (4, .int x4), (5, .int x5), (6, .int (x6 + 1))] [] (q_sl h 88 j2 (h.2.1 87 j1))))
  else
    q_go e_174 X O n 147 [(0, .ref 67), (3, .int x3), (4, .int x4), (5, .int x5), (6, .int 0)] [] h := by rfl
set_option maxRecDepth 20000 in
theorem b174_147 (X : q_X) (O : q_O) (n : Nat) (h : q_S) (x3 : Int32) (x4 : Int32) (x5 : Int32) (x6 : Int32) : q_go e_174 X O (n + 1) 147 [(0, .ref 67), (3, .int x3), (4, .int x4), (5, .int x5), (6, .int x6)] [] h =
  if x6 < x5 then
    q_ix x6 40 (fun j1 =>
    q_ix (((40 * x3) + x4) + x6) 120 (fun j2 =>
    q_go e_174 X O n 147 [(0, .ref 67), (3, .int x3), (4, .int x4), (5, .int x5), (6, .int (x6 + 1))] [] (q_sl h 87 j2 (h.2.1 88 j1))))
  else
    some (h, some (.int x5)) := by rfl
-- WhirlShaftsModel.isSo(III)Z with (67, None, None, None)
set_option maxRecDepth 20000 in
theorem b175_0 (X : q_X) (O : q_O) (n : Nat) (h : q_S) (x1 : Int32) (x2 : Int32) (x3 : Int32) : q_go e_175 X O (n + 1) 0 [(0, .ref 67), (1, .int x1), (2, .int x2), (3, .int x3)] [] h =
  q_go e_175 X O n 3 [(0, .ref 67), (1, .int x1), (2, .int x2), (3, .int x3), (4, .int 0)] [] h := by rfl
set_option maxRecDepth 20000 in
theorem b175_3 (X : q_X) (O : q_O) (n : Nat) (h : q_S) (x1 : Int32) (x2 : Int32) (x3 : Int32) (x4 : Int32) : q_go e_175 X O (n + 1) 3 [(0, .ref 67), (1, .int x1), (2, .int x2), (3, .int x3), (4, .int x4)] [] h =
  if x4 < x2 then
    q_c1 (O 133 h [.ref 67, .int x4, .int x3]) (fun h1 v2 =>
    q_ix ((40 * x1) + x4) 120 (fun j3 =>
    if (lg_cmp (((v2 : Int32)).toInt64) (h1.2.1 87 j3)) = 0 then
      q_go e_175 X O n 3 [(0, .ref 67), (1, .int x1), (2, .int x2), (3, .int x3), (4, .int (x4 + 1))] [] h1
    else
      if x4 = x2 then
        some (h1, some (.int 1))
      else
        some (h1, some (.int 0))))
  else
    if x4 = x2 then
      some (h, some (.int 1))
    else
      some (h, some (.int 0)) := by rfl
-- WhirlShaftsModel.fits(IIIII)I with (67, None, None, None, None, None)
set_option maxRecDepth 20000 in
theorem b176_0 (X : q_X) (O : q_O) (n : Nat) (h : q_S) (x1 : Int32) (x2 : Int32) (x3 : Int32) (x4 : Int32) (x5 : Int32) : q_go e_176 X O (n + 1) 0 [(0, .ref 67), (1, .int x1), (2, .int x2), (3, .int x3), (4, .int x4), (5, .int x5)] [] h =
  q_c1 (O 168 h [.int x1]) (fun h1 v2 =>
  if v2 = 0 then
    some (h1, some (.int (-1)))
  else
    q_c1 (O 120 h1 [.int x2, .int 0, .int (h1.1 67 0)]) (fun h3 v4 =>
    if v4 = 0 then
      some (h3, some (.int (-1)))
    else
      q_c1 (O 123 h3 [.int x3]) (fun h5 v6 =>
      if v6 = 0 then
        some (h5, some (.int (-1)))
      else
        q_c1 (O 121 h5 [.ref 67, .int x4]) (fun h7 v8 =>
        if v8 = 0 then
          some (h7, some (.int (-1)))
        else
          q_c1 (O 120 h7 [.int x5, .int 0, .int 2]) (fun h9 v10 =>
          if v10 = 0 then
            some (h9, some (.int (-1)))
          else
            q_ix x1 3 (fun j11 =>
            if (h9.1 85 j11) < 0 then
              some (h9, some (.int (-11)))
            else
              q_ix x1 3 (fun j12 =>
              if (h9.1 86 j12) < x2 then
                some (h9, some (.int (-13)))
              else
                if x5 = 2 then
                  q_c1 (O 177 h9 [.ref 67, .int x1, .int x2, .int x3, .int x4]) (fun h13 v14 =>
                  some (h13, some (.int v14)))
                else
                  q_c1 (O 178 h9 [.ref 67, .int x1, .int x2, .int x3, .int x4, .int x5]) (fun h15 v16 =>
                  some (h15, some (.int v16)))))))))) := by rfl
-- WhirlShaftsModel.fittingKinds(IIII)I with (67, None, None, None, None)
set_option maxRecDepth 20000 in
theorem b177_0 (X : q_X) (O : q_O) (n : Nat) (h : q_S) (x1 : Int32) (x2 : Int32) (x3 : Int32) (x4 : Int32) : q_go e_177 X O (n + 1) 0 [(0, .ref 67), (1, .int x1), (2, .int x2), (3, .int x3), (4, .int x4)] [] h =
  q_ix x4 8 (fun j1 =>
  q_go e_177 X O n 15 [(0, .ref 67), (1, .int x1), (2, .int x2), (3, .int x3), (4, .int x4), (5, .int (h.1 68 j1)), (6, .int 0), (7, .int 0)] [] h) := by rfl
set_option maxRecDepth 20000 in
theorem b177_15 (X : q_X) (O : q_O) (n : Nat) (h : q_S) (x1 : Int32) (x2 : Int32) (x3 : Int32) (x4 : Int32) (x5 : Int32) (x6 : Int32) (x7 : Int32) : q_go e_177 X O (n + 1) 15 [(0, .ref 67), (1, .int x1), (2, .int x2), (3, .int x3), (4, .int x4), (5, .int x5), (6, .int x6), (7, .int x7)] [] h =
  if x7 < 5 then
    q_ix x4 8 (fun j1 =>
    q_c1 (O 175 (q_si h 68 j1 x7) [.ref 67, .int x1, .int x2, .int x3]) (fun h2 v3 =>
    if v3 = 0 then
      q_go e_177 X O n 15 [(0, .ref 67), (1, .int x1), (2, .int x2), (3, .int x3), (4, .int x4), (5, .int x5), (6, .int (x6 ||| 0)), (7, .int (x7 + 1))] [] h2
    else
      q_go e_177 X O n 15 [(0, .ref 67), (1, .int x1), (2, .int x2), (3, .int x3), (4, .int x4), (5, .int x5), (6, .int (x6 ||| (1 <<< (x7 &&& 31)))), (7, .int (x7 + 1))] [] h2))
  else
    q_ix x4 8 (fun j4 =>
    some ((q_si h 68 j4 x5), some (.int x6))) := by rfl
-- WhirlShaftsModel.fittingMasses(IIIII)I with (67, None, None, None, None, None)
set_option maxRecDepth 20000 in
theorem b178_0 (X : q_X) (O : q_O) (n : Nat) (h : q_S) (x1 : Int32) (x2 : Int32) (x3 : Int32) (x4 : Int32) (x5 : Int32) : q_go e_178 X O (n + 1) 0 [(0, .ref 67), (1, .int x1), (2, .int x2), (3, .int x3), (4, .int x4), (5, .int x5)] [] h =
  q_ix x4 8 (fun j1 =>
  q_go e_178 X O n 20 [(0, .ref 67), (1, .int x1), (2, .int x2), (3, .int x3), (4, .int x4), (5, .int x5), (6, .int (h.1 69 j1)), (7, .int 0), (8, .int (-2)), (9, .int 99)] [] h) := by rfl
set_option maxRecDepth 20000 in
theorem b178_20 (X : q_X) (O : q_O) (n : Nat) (h : q_S) (x1 : Int32) (x2 : Int32) (x3 : Int32) (x4 : Int32) (x5 : Int32) (x6 : Int32) (x7 : Int32) (x8 : Int32) (x9 : Int32) : q_go e_178 X O (n + 1) 20 [(0, .ref 67), (1, .int x1), (2, .int x2), (3, .int x3), (4, .int x4), (5, .int x5), (6, .int x6), (7, .int x7), (8, .int x8), (9, .int x9)] [] h =
  if 0 < x9 then
    q_ix x4 8 (fun j1 =>
    q_c1 (O 175 (q_si h 69 j1 x9) [.ref 67, .int x1, .int x2, .int x3]) (fun h2 v3 =>
    if v3 = 0 then
      q_go e_178 X O n 20 [(0, .ref 67), (1, .int x1), (2, .int x2), (3, .int x3), (4, .int x4), (5, .int x5), (6, .int x6), (7, .int x7), (8, .int x8), (9, .int (x9 + (-1)))] [] h2
    else
      q_go e_178 X O n 20 [(0, .ref 67), (1, .int x1), (2, .int x2), (3, .int x3), (4, .int x4), (5, .int x5), (6, .int x6), (7, .int (x7 + 1)), (8, .int x9), (9, .int (x9 + (-1)))] [] h2))
  else
    q_ix x4 8 (fun j4 =>
    if x5 = 0 then
      some ((q_si h 69 j4 x6), some (.int x7))
    else
      some ((q_si h 69 j4 x6), some (.int x8))) := by rfl
-- WhirlShaftsModel.judge(II)I with (67, None, None)
set_option maxRecDepth 20000 in
theorem b179_0 (X : q_X) (O : q_O) (n : Nat) (h : q_S) (x1 : Int32) (x2 : Int32) : q_go e_179 X O (n + 1) 0 [(0, .ref 67), (1, .int x1), (2, .int x2)] [] h =
  q_c1 (O 168 h [.int x1]) (fun h1 v2 =>
  if v2 = 0 then
    some (h1, some (.int (-1)))
  else
    q_c1 (O 123 h1 [.int x2]) (fun h3 v4 =>
    if v4 = 0 then
      some (h3, some (.int (-1)))
    else
      q_ix x1 3 (fun j5 =>
      if (h3.1 85 j5) < 0 then
        some (h3, some (.int (-11)))
      else
        q_go e_179 X O n 30 [(0, .ref 67), (1, .int x1), (2, .int x2), (3, .int 0)] [] h3))) := by rfl
set_option maxRecDepth 20000 in
theorem b179_30 (X : q_X) (O : q_O) (n : Nat) (h : q_S) (x1 : Int32) (x2 : Int32) (x3 : Int32) : q_go e_179 X O (n + 1) 30 [(0, .ref 67), (1, .int x1), (2, .int x2), (3, .int x3)] [] h =
  if x3 < (h.1 67 0) then
    q_ix x1 3 (fun j1 =>
    if x3 < (h.1 86 j1) then
      q_c1 (O 133 h [.ref 67, .int x3, .int x2]) (fun h2 v3 =>
      q_ix ((40 * x1) + x3) 120 (fun j4 =>
      if (lg_cmp (((v3 : Int32)).toInt64) (h2.2.1 87 j4)) = 0 then
        q_go e_179 X O n 30 [(0, .ref 67), (1, .int x1), (2, .int x2), (3, .int (x3 + 1))] [] h2
      else
        some (h2, some (.int x3))))
    else
      some (h, some (.int (100 + x3))))
  else
    some (h, some (.int (-2))) := by rfl
-- WhirlShaftsModel.order(III)I with (67, None, None, None)
set_option maxRecDepth 20000 in
theorem b180_0 (X : q_X) (O : q_O) (n : Nat) (h : q_S) (x1 : Int32) (x2 : Int32) (x3 : Int32) : q_go e_180 X O (n + 1) 0 [(0, .ref 67), (1, .int x1), (2, .int x2), (3, .int x3)] [] h =
  q_c1 (O 120 h [.int x1, .int 0, .int 5]) (fun h1 v2 =>
  if v2 = 0 then
    some (h1, some (.int (-1)))
  else
    if (h1.1 67 26) = 8 then
      some (h1, some (.int (-3)))
    else
      q_ix (h1.1 67 26) 8 (fun j3 =>
      q_ix (h1.1 67 26) 8 (fun j4 =>
      q_ix (h1.1 67 26) 8 (fun j5 =>
      some ((q_si (q_si (q_si (q_si h1 89 j3 x1) 90 j4 x2) 91 j5 x3) 67 26 ((h1.1 67 26) + 1)), some (.int ((h1.1 67 26) + 1))))))) := by rfl
-- WhirlShaftsModel.tried(II)I with (67, None, None)
set_option maxRecDepth 20000 in
theorem b181_0 (X : q_X) (O : q_O) (n : Nat) (h : q_S) (x1 : Int32) (x2 : Int32) : q_go e_181 X O (n + 1) 0 [(0, .ref 67), (1, .int x1), (2, .int x2)] [] h =
  q_c1 (O 155 h [.ref 67, .int x1, .int x2]) (fun h1 v2 =>
  if v2 = 0 then
    some (h1, some (.int (-1)))
  else
    q_c0 (O 202 h1 [.ref 67, .int 0, .int 1]) (fun h3 =>
    q_go e_181 X O n 19 [(0, .ref 67), (1, .int x1), (2, .int x2), (3, .int 0)] [] h3)) := by rfl
set_option maxRecDepth 20000 in
theorem b181_19 (X : q_X) (O : q_O) (n : Nat) (h : q_S) (x1 : Int32) (x2 : Int32) (x3 : Int32) : q_go e_181 X O (n + 1) 19 [(0, .ref 67), (1, .int x1), (2, .int x2), (3, .int x3)] [] h =
  if x3 < (h.1 67 26) then
    q_ix x3 8 (fun j1 =>
    q_ix x3 8 (fun j2 =>
    q_ix x3 8 (fun j3 =>
    q_c1 (O 143 h [.ref 67, .int (h.1 89 j1), .int (h.1 90 j2), .int (h.1 91 j3)]) (fun h4 v5 =>
    if v5 = 0 then
      q_ix x3 8 (fun j6 =>
      q_ix x3 8 (fun j7 =>
      q_ix x3 8 (fun j8 =>
      q_c0 (O 139 h4 [.ref 67, .int (h4.1 89 j6), .int (h4.1 90 j7), .int (h4.1 91 j8)]) (fun h9 =>
      q_go e_181 X O n 19 [(0, .ref 67), (1, .int x1), (2, .int x2), (3, .int (x3 + 1))] [] h9))))
    else
      q_go e_181 X O n 19 [(0, .ref 67), (1, .int x1), (2, .int x2), (3, .int (x3 + 1))] [] h4))))
  else
    q_c1 (O 133 h [.ref 67, .int x1, .int x2]) (fun h10 v11 =>
    q_c0 (O 202 h10 [.ref 67, .int 0, .int 0]) (fun h12 =>
    some (h12, some (.int v11)))) := by rfl
-- WhirlShaftsModel.does()I with (67,)
set_option maxRecDepth 20000 in
theorem b182_0 (X : q_X) (O : q_O) (n : Nat) (h : q_S)  : q_go e_182 X O (n + 1) 0 [(0, .ref 67)] [] h =
  q_go e_182 X O n 4 [(0, .ref 67), (1, .int 0), (2, .int 0)] [] h := by rfl
set_option maxRecDepth 20000 in
theorem b182_4 (X : q_X) (O : q_O) (n : Nat) (h : q_S) (x1 : Int32) (x2 : Int32) : q_go e_182 X O (n + 1) 4 [(0, .ref 67), (1, .int x1), (2, .int x2)] [] h =
  if x2 < (h.1 67 26) then
    q_ix x2 8 (fun j1 =>
    q_ix x2 8 (fun j2 =>
    q_ix x2 8 (fun j3 =>
    q_c1 (O 145 h [.ref 67, .int (h.1 89 j1), .int (h.1 90 j2), .int (h.1 91 j3)]) (fun h4 v5 =>
    if v5 < 0 then
      q_go e_182 X O n 4 [(0, .ref 67), (1, .int (x1 + 0)), (2, .int (x2 + 1))] [] h4
    else
      q_go e_182 X O n 4 [(0, .ref 67), (1, .int (x1 + 1)), (2, .int (x2 + 1))] [] h4))))
  else
    some ((q_si h 67 26 0), some (.int x1)) := by rfl
-- WhirlShaftsModel.drop()I with (67,)
set_option maxRecDepth 20000 in
theorem b183_0 (X : q_X) (O : q_O) (n : Nat) (h : q_S)  : q_go e_183 X O (n + 1) 0 [(0, .ref 67)] [] h =
  some ((q_si h 67 26 0), some (.int (h.1 67 26))) := by rfl
-- WhirlShaftsModel.feed(I)I with (67, None)
set_option maxRecDepth 20000 in
theorem b184_0 (X : q_X) (O : q_O) (n : Nat) (h : q_S) (x1 : Int32) : q_go e_184 X O (n + 1) 0 [(0, .ref 67), (1, .int x1)] [] h =
  q_c1 (O 120 h [.int x1, .int 32, .int 126]) (fun h1 v2 =>
  if v2 = 0 then
    some (h1, some (.int (-1)))
  else
    if (h1.1 67 35) = 80 then
      some (h1, some (.int (-3)))
    else
      q_ix (h1.1 67 35) 80 (fun j3 =>
      some ((q_si (q_si h1 92 j3 x1) 67 35 ((h1.1 67 35) + 1)), some (.int ((h1.1 67 35) + 1))))) := by rfl
-- WhirlShaftsModel.wipe()I with (67,)
set_option maxRecDepth 20000 in
theorem b185_0 (X : q_X) (O : q_O) (n : Nat) (h : q_S)  : q_go e_185 X O (n + 1) 0 [(0, .ref 67)] [] h =
  some ((q_si h 67 35 0), some (.int (h.1 67 35))) := by rfl
-- WhirlShaftsModel.next()I with (67,)
set_option maxRecDepth 20000 in
theorem b186_0 (X : q_X) (O : q_O) (n : Nat) (h : q_S)  : q_go e_186 X O (n + 1) 0 [(0, .ref 67)] [] h =
  if (h.1 67 36) < (h.1 67 35) then
    q_ix (h.1 67 36) 80 (fun j1 =>
    some (h, some (.int (h.1 92 j1))))
  else
    some (h, some (.int (-1))) := by rfl
-- WhirlShaftsModel.numbersOf(I)I with (None,)
set_option maxRecDepth 20000 in
theorem b187_0 (X : q_X) (O : q_O) (n : Nat) (h : q_S) (x0 : Int32) : q_go e_187 X O (n + 1) 0 [(0, .int x0)] [] h =
  if x0 = 98 then
    some (h, some (.int 2))
  else if x0 = 99 then
    some (h, some (.int (-1)))
  else if x0 = 100 then
    some (h, some (.int 3))
  else if x0 = 101 then
    some (h, some (.int (-1)))
  else if x0 = 102 then
    some (h, some (.int (-1)))
  else if x0 = 103 then
    some (h, some (.int 2))
  else if x0 = 104 then
    some (h, some (.int (-1)))
  else if x0 = 105 then
    some (h, some (.int 2))
  else if x0 = 106 then
    some (h, some (.int (-1)))
  else if x0 = 107 then
    some (h, some (.int 2))
  else if x0 = 108 then
    some (h, some (.int (-1)))
  else if x0 = 109 then
    some (h, some (.int (-1)))
  else if x0 = 110 then
    some (h, some (.int 1))
  else if x0 = 111 then
    some (h, some (.int (-1)))
  else if x0 = 112 then
    some (h, some (.int (-1)))
  else if x0 = 113 then
    some (h, some (.int (-1)))
  else if x0 = 114 then
    some (h, some (.int (-1)))
  else if x0 = 115 then
    some (h, some (.int (-1)))
  else if x0 = 116 then
    some (h, some (.int (-1)))
  else if x0 = 117 then
    some (h, some (.int (-1)))
  else if x0 = 118 then
    some (h, some (.int (-1)))
  else if x0 = 119 then
    some (h, some (.int 1))
  else if x0 = 120 then
    some (h, some (.int 0))
  else 
    some (h, some (.int (-1))) := by rfl
-- WhirlShaftsModel.number()I with (67,)
set_option maxRecDepth 20000 in
theorem b188_0 (X : q_X) (O : q_O) (n : Nat) (h : q_S)  : q_go e_188 X O (n + 1) 0 [(0, .ref 67)] [] h =
  q_c1 (O 186 h [.ref 67]) (fun h1 v2 =>
  q_c1 (O 120 h1 [.int v2, .int 48, .int 57]) (fun h3 v4 =>
  if v4 = 0 then
    some (h3, some (.int (-1)))
  else
    q_c1 (O 186 h3 [.ref 67]) (fun h5 v6 =>
    q_c1 (O 186 (q_si h5 67 36 ((h5.1 67 36) + 1)) [.ref 67]) (fun h7 v8 =>
    q_c1 (O 120 h7 [.int v8, .int 48, .int 57]) (fun h9 v10 =>
    if v10 = 0 then
      some (h9, some (.int (v6 - 48)))
    else
      q_c1 (O 186 h9 [.ref 67]) (fun h11 v12 =>
      some ((q_si h11 67 36 ((h11.1 67 36) + 1)), some (.int (((10 * (v6 - 48)) + v12) - 48))))))))) := by rfl
-- WhirlShaftsModel.reads()Z with (67,)
set_option maxRecDepth 20000 in
theorem b189_0 (X : q_X) (O : q_O) (n : Nat) (h : q_S)  : q_go e_189 X O (n + 1) 0 [(0, .ref 67)] [] h =
  q_c1 (O 186 h [.ref 67]) (fun h1 v2 =>
  q_c1 (O 187 h1 [.int v2]) (fun h3 v4 =>
  if v4 < 0 then
    some (h3, some (.int 0))
  else
    q_c1 (O 186 h3 [.ref 67]) (fun h5 v6 =>
    q_ix (h3.1 67 37) 40 (fun j7 =>
    q_go e_189 X O n 39 [(0, .ref 67), (1, .int v4), (2, .int 0)] [] (q_si (q_si h5 93 j7 v6) 67 36 ((h5.1 67 36) + 1)))))) := by rfl
set_option maxRecDepth 20000 in
theorem b189_39 (X : q_X) (O : q_O) (n : Nat) (h : q_S) (x1 : Int32) (x2 : Int32) : q_go e_189 X O (n + 1) 39 [(0, .ref 67), (1, .int x1), (2, .int x2)] [] h =
  if x2 < x1 then
    if 0 < x2 then
      q_c1 (O 186 h [.ref 67]) (fun h1 v2 =>
      if v2 = 44 then
        q_go e_189 X O n 69 [(0, .ref 67), (1, .int x1), (2, .int x2)] [] (q_si h1 67 36 ((h1.1 67 36) + 1))
      else
        some (h1, some (.int 0)))
    else
      q_go e_189 X O n 69 [(0, .ref 67), (1, .int x1), (2, .int x2)] [] h
  else
    some ((q_si h 67 37 ((h.1 67 37) + 1)), some (.int 1)) := by rfl
set_option maxRecDepth 20000 in
theorem b189_69 (X : q_X) (O : q_O) (n : Nat) (h : q_S) (x1 : Int32) (x2 : Int32) : q_go e_189 X O (n + 1) 69 [(0, .ref 67), (1, .int x1), (2, .int x2)] [] h =
  q_c1 (O 188 h [.ref 67]) (fun h1 v2 =>
  if v2 < 0 then
    some (h1, some (.int 0))
  else
    if x2 = 0 then
      q_ix (h1.1 67 37) 40 (fun j3 =>
      if x2 = 1 then
        q_ix (h1.1 67 37) 40 (fun j4 =>
        q_go e_189 X O n 109 [(0, .ref 67), (1, .int x1), (2, .int x2), (3, .int v2)] [] (q_si (q_si h1 94 j3 v2) 95 j4 v2))
      else
        q_go e_189 X O n 109 [(0, .ref 67), (1, .int x1), (2, .int x2), (3, .int v2)] [] (q_si h1 94 j3 v2))
    else
      if x2 = 1 then
        q_ix (h1.1 67 37) 40 (fun j5 =>
        q_go e_189 X O n 109 [(0, .ref 67), (1, .int x1), (2, .int x2), (3, .int v2)] [] (q_si h1 95 j5 v2))
      else
        q_go e_189 X O n 109 [(0, .ref 67), (1, .int x1), (2, .int x2), (3, .int v2)] [] h1) := by rfl
set_option maxRecDepth 20000 in
theorem b189_109 (X : q_X) (O : q_O) (n : Nat) (h : q_S) (x1 : Int32) (x2 : Int32) (x3 : Int32) : q_go e_189 X O (n + 1) 109 [(0, .ref 67), (1, .int x1), (2, .int x2), (3, .int x3)] [] h =
  if x2 = 2 then
    q_ix (h.1 67 37) 40 (fun j1 =>
    q_go e_189 X O n 39 [(0, .ref 67), (1, .int x1), (2, .int (x2 + 1))] [] (q_si h 96 j1 x3))
  else
    q_go e_189 X O n 39 [(0, .ref 67), (1, .int x1), (2, .int (x2 + 1))] [] h := by rfl
-- WhirlShaftsModel.readsAll()Z with (67,)
set_option maxRecDepth 20000 in
theorem b190_0 (X : q_X) (O : q_O) (n : Nat) (h : q_S)  : q_go e_190 X O (n + 1) 0 [(0, .ref 67)] [] h =
  q_c1 (O 189 (q_si (q_si h 67 36 0) 67 37 0) [.ref 67]) (fun h1 v2 =>
  q_go e_190 X O n 15 [(0, .ref 67), (1, .int v2)] [] h1) := by rfl
set_option maxRecDepth 20000 in
theorem b190_15 (X : q_X) (O : q_O) (n : Nat) (h : q_S) (x1 : Int32) : q_go e_190 X O (n + 1) 15 [(0, .ref 67), (1, .int x1)] [] h =
  if x1 = 0 then
    q_go e_190 X O n 46 [(0, .ref 67), (1, .int x1)] [] h
  else
    q_c1 (O 186 h [.ref 67]) (fun h1 v2 =>
    if v2 = 59 then
      q_c1 (O 189 (q_si h1 67 36 ((h1.1 67 36) + 1)) [.ref 67]) (fun h3 v4 =>
      q_go e_190 X O n 15 [(0, .ref 67), (1, .int v4)] [] h3)
    else
      q_go e_190 X O n 46 [(0, .ref 67), (1, .int x1)] [] h1) := by rfl
set_option maxRecDepth 20000 in
theorem b190_46 (X : q_X) (O : q_O) (n : Nat) (h : q_S) (x1 : Int32) : q_go e_190 X O (n + 1) 46 [(0, .ref 67), (1, .int x1)] [] h =
  if x1 = 0 then
    some (h, some (.int 0))
  else
    if (h.1 67 36) = (h.1 67 35) then
      some (h, some (.int 1))
    else
      some (h, some (.int 0)) := by rfl
-- WhirlShaftsModel.done(I)I with (67, None)
set_option maxRecDepth 20000 in
theorem b191_0 (X : q_X) (O : q_O) (n : Nat) (h : q_S) (x1 : Int32) : q_go e_191 X O (n + 1) 0 [(0, .ref 67), (1, .int x1)] [] h =
  q_ix x1 40 (fun j1 =>
  if (h.1 93 j1) = 98 then
    q_ix x1 40 (fun j2 =>
    q_ix x1 40 (fun j3 =>
    q_c1 (O 145 h [.ref 67, .int 2, .int (h.1 94 j2), .int (h.1 95 j3)]) (fun h4 v5 =>
    some (h4, some (.int v5)))))
  else if (h.1 93 j1) = 99 then
    q_c1 (O 136 h [.ref 67]) (fun h6 v7 =>
    some (h6, some (.int v7)))
  else if (h.1 93 j1) = 100 then
    q_ix x1 40 (fun j8 =>
    q_ix x1 40 (fun j9 =>
    q_ix x1 40 (fun j10 =>
    q_c1 (O 135 h [.ref 67, .int (h.1 94 j8), .int (h.1 95 j9), .int (h.1 96 j10)]) (fun h11 v12 =>
    some (h11, some (.int v12))))))
  else if (h.1 93 j1) = 101 then
    q_c1 (O 136 h [.ref 67]) (fun h13 v14 =>
    some (h13, some (.int v14)))
  else if (h.1 93 j1) = 102 then
    q_c1 (O 136 h [.ref 67]) (fun h15 v16 =>
    some (h15, some (.int v16)))
  else if (h.1 93 j1) = 103 then
    q_ix x1 40 (fun j17 =>
    q_ix x1 40 (fun j18 =>
    q_c1 (O 145 h [.ref 67, .int 3, .int (h.1 94 j17), .int (h.1 95 j18)]) (fun h19 v20 =>
    some (h19, some (.int v20)))))
  else if (h.1 93 j1) = 104 then
    q_c1 (O 136 h [.ref 67]) (fun h21 v22 =>
    some (h21, some (.int v22)))
  else if (h.1 93 j1) = 105 then
    q_ix x1 40 (fun j23 =>
    q_ix x1 40 (fun j24 =>
    q_c1 (O 145 h [.ref 67, .int 0, .int (h.1 94 j23), .int (h.1 95 j24)]) (fun h25 v26 =>
    some (h25, some (.int v26)))))
  else if (h.1 93 j1) = 106 then
    q_c1 (O 136 h [.ref 67]) (fun h27 v28 =>
    some (h27, some (.int v28)))
  else if (h.1 93 j1) = 107 then
    q_ix x1 40 (fun j29 =>
    q_ix x1 40 (fun j30 =>
    q_c1 (O 145 h [.ref 67, .int 1, .int (h.1 94 j29), .int (h.1 95 j30)]) (fun h31 v32 =>
    some (h31, some (.int v32)))))
  else if (h.1 93 j1) = 108 then
    q_c1 (O 136 h [.ref 67]) (fun h33 v34 =>
    some (h33, some (.int v34)))
  else if (h.1 93 j1) = 109 then
    q_c1 (O 136 h [.ref 67]) (fun h35 v36 =>
    some (h35, some (.int v36)))
  else if (h.1 93 j1) = 110 then
    q_ix x1 40 (fun j37 =>
    q_c1 (O 145 h [.ref 67, .int 4, .int 0, .int (h.1 94 j37)]) (fun h38 v39 =>
    some (h38, some (.int v39))))
  else if (h.1 93 j1) = 111 then
    q_c1 (O 136 h [.ref 67]) (fun h40 v41 =>
    some (h40, some (.int v41)))
  else if (h.1 93 j1) = 112 then
    q_c1 (O 136 h [.ref 67]) (fun h42 v43 =>
    some (h42, some (.int v43)))
  else if (h.1 93 j1) = 113 then
    q_c1 (O 136 h [.ref 67]) (fun h44 v45 =>
    some (h44, some (.int v45)))
  else if (h.1 93 j1) = 114 then
    q_c1 (O 136 h [.ref 67]) (fun h46 v47 =>
    some (h46, some (.int v47)))
  else if (h.1 93 j1) = 115 then
    q_c1 (O 136 h [.ref 67]) (fun h48 v49 =>
    some (h48, some (.int v49)))
  else if (h.1 93 j1) = 116 then
    q_c1 (O 136 h [.ref 67]) (fun h50 v51 =>
    some (h50, some (.int v51)))
  else if (h.1 93 j1) = 117 then
    q_c1 (O 136 h [.ref 67]) (fun h52 v53 =>
    some (h52, some (.int v53)))
  else if (h.1 93 j1) = 118 then
    q_c1 (O 136 h [.ref 67]) (fun h54 v55 =>
    some (h54, some (.int v55)))
  else if (h.1 93 j1) = 119 then
    q_ix x1 40 (fun j56 =>
    q_c1 (O 145 h [.ref 67, .int 5, .int 0, .int (h.1 94 j56)]) (fun h57 v58 =>
    some (h57, some (.int v58))))
  else 
    q_c1 (O 136 h [.ref 67]) (fun h59 v60 =>
    some (h59, some (.int v60)))) := by rfl
-- WhirlShaftsModel.read()I with (67,)
set_option maxRecDepth 20000 in
theorem b192_0 (X : q_X) (O : q_O) (n : Nat) (h : q_S)  : q_go e_192 X O (n + 1) 0 [(0, .ref 67)] [] h =
  q_c1 (O 190 h [.ref 67]) (fun h1 v2 =>
  if v2 = 0 then
    some ((q_si h1 67 35 0), some (.int ((-100) - (h1.1 67 36))))
  else
    q_go e_192 X O n 24 [(0, .ref 67), (2, .int 0)] [] (q_si h1 67 35 0)) := by rfl
set_option maxRecDepth 20000 in
theorem b192_24 (X : q_X) (O : q_O) (n : Nat) (h : q_S) (x2 : Int32) : q_go e_192 X O (n + 1) 24 [(0, .ref 67), (2, .int x2)] [] h =
  if x2 < (h.1 67 37) then
    q_c1 (O 191 h [.ref 67, .int x2]) (fun h1 v2 =>
    if v2 < 0 then
      some (h1, some (.int ((-200) - x2)))
    else
      q_go e_192 X O n 24 [(0, .ref 67), (2, .int (x2 + 1))] [] h1)
  else
    some (h, some (.int (h.1 67 37))) := by rfl
-- WhirlShaftsModel.note(I)V with (67, None)
set_option maxRecDepth 20000 in
theorem b193_0 (X : q_X) (O : q_O) (n : Nat) (h : q_S) (x1 : Int32) : q_go e_193 X O (n + 1) 0 [(0, .ref 67), (1, .int x1)] [] h =
  if (h.1 67 39) < 24 then
    q_ix (h.1 67 39) 24 (fun j1 =>
    some ((q_si (q_si h 97 j1 x1) 67 39 ((h.1 67 39) + 1)), none))
  else
    some ((q_si h 67 39 ((h.1 67 39) + 1)), none) := by rfl
-- WhirlShaftsModel.spins(II)I with (67, None, None)
set_option maxRecDepth 20000 in
theorem b194_0 (X : q_X) (O : q_O) (n : Nat) (h : q_S) (x1 : Int32) (x2 : Int32) : q_go e_194 X O (n + 1) 0 [(0, .ref 67), (1, .int x1), (2, .int x2)] [] h =
  q_ix x1 8 (fun j1 =>
  if (h.1 68 j1) = 2 then
    q_go e_194 X O n 25 [(0, .ref 67), (1, .int x1), (2, .int x2)] [.int 1] h
  else
    q_ix x1 8 (fun j2 =>
    if (h.1 68 j2) = 4 then
      q_go e_194 X O n 25 [(0, .ref 67), (1, .int x1), (2, .int x2)] [.int 1] h
    else
      q_go e_194 X O n 25 [(0, .ref 67), (1, .int x1), (2, .int x2)] [.int 0] h)) := by rfl
set_option maxRecDepth 20000 in
theorem b194_25 (X : q_X) (O : q_O) (n : Nat) (h : q_S) (x1 : Int32) (x2 : Int32) (s0 : Int32) : q_go e_194 X O (n + 1) 25 [(0, .ref 67), (1, .int x1), (2, .int x2)] [.int s0] h =
  if s0 = 0 then
    q_ix x1 8 (fun j1 =>
    if (h.1 68 j1) = 3 then
      q_c0 (O 193 h [.ref 67, .int 41]) (fun h2 =>
      q_go e_194 X O n 52 [(0, .ref 67), (1, .int x1), (2, .int x2), (3, .int s0)] [] h2)
    else
      q_go e_194 X O n 52 [(0, .ref 67), (1, .int x1), (2, .int x2), (3, .int s0)] [] h)
  else
    q_c0 (O 193 h [.ref 67, .int 30]) (fun h3 =>
    q_ix x1 8 (fun j4 =>
    if (h3.1 68 j4) = 3 then
      q_c0 (O 193 h3 [.ref 67, .int 41]) (fun h5 =>
      q_go e_194 X O n 52 [(0, .ref 67), (1, .int x1), (2, .int x2), (3, .int s0)] [] h5)
    else
      q_go e_194 X O n 52 [(0, .ref 67), (1, .int x1), (2, .int x2), (3, .int s0)] [] h3)) := by rfl
set_option maxRecDepth 20000 in
theorem b194_52 (X : q_X) (O : q_O) (n : Nat) (h : q_S) (x1 : Int32) (x2 : Int32) (x3 : Int32) : q_go e_194 X O (n + 1) 52 [(0, .ref 67), (1, .int x1), (2, .int x2), (3, .int x3)] [] h =
  q_c0 (O 193 h [.ref 67, .int 10]) (fun h1 =>
  if x3 = 0 then
    q_ix x1 8 (fun j2 =>
    if (h1.1 68 j2) = 3 then
      some (h1, some (.int ((x2 + x1) * 3)))
    else
      some (h1, some (.int (x2 + x1))))
  else
    some (h1, some (.int (-(x2 + x1))))) := by rfl
-- WhirlShaftsModel.swings(II)I with (67, None, None)
set_option maxRecDepth 20000 in
theorem b195_0 (X : q_X) (O : q_O) (n : Nat) (h : q_S) (x1 : Int32) (x2 : Int32) : q_go e_195 X O (n + 1) 0 [(0, .ref 67), (1, .int x1), (2, .int x2)] [] h =
  q_ix x1 8 (fun j1 =>
  if (h.1 68 j1) = 1 then
    q_go e_195 X O n 25 [(0, .ref 67), (1, .int x1), (2, .int x2)] [.int 1] h
  else
    q_ix x1 8 (fun j2 =>
    if (h.1 68 j2) = 3 then
      q_go e_195 X O n 25 [(0, .ref 67), (1, .int x1), (2, .int x2)] [.int 1] h
    else
      q_go e_195 X O n 25 [(0, .ref 67), (1, .int x1), (2, .int x2)] [.int 0] h)) := by rfl
set_option maxRecDepth 20000 in
theorem b195_25 (X : q_X) (O : q_O) (n : Nat) (h : q_S) (x1 : Int32) (x2 : Int32) (s0 : Int32) : q_go e_195 X O (n + 1) 25 [(0, .ref 67), (1, .int x1), (2, .int x2)] [.int s0] h =
  if s0 = 0 then
    q_ix x1 8 (fun j1 =>
    if (h.1 68 j1) = 4 then
      q_c0 (O 193 h [.ref 67, .int 50]) (fun h2 =>
      q_go e_195 X O n 52 [(0, .ref 67), (1, .int x1), (2, .int x2), (3, .int s0)] [] h2)
    else
      q_go e_195 X O n 52 [(0, .ref 67), (1, .int x1), (2, .int x2), (3, .int s0)] [] h)
  else
    q_c0 (O 193 h [.ref 67, .int 20]) (fun h3 =>
    q_ix x1 8 (fun j4 =>
    if (h3.1 68 j4) = 4 then
      q_c0 (O 193 h3 [.ref 67, .int 50]) (fun h5 =>
      q_go e_195 X O n 52 [(0, .ref 67), (1, .int x1), (2, .int x2), (3, .int s0)] [] h5)
    else
      q_go e_195 X O n 52 [(0, .ref 67), (1, .int x1), (2, .int x2), (3, .int s0)] [] h3)) := by rfl
set_option maxRecDepth 20000 in
theorem b195_52 (X : q_X) (O : q_O) (n : Nat) (h : q_S) (x1 : Int32) (x2 : Int32) (x3 : Int32) : q_go e_195 X O (n + 1) 52 [(0, .ref 67), (1, .int x1), (2, .int x2), (3, .int x3)] [] h =
  q_c0 (O 193 h [.ref 67, .int 11]) (fun h1 =>
  q_c1 (O 194 h1 [.ref 67, .int x1, .int x2]) (fun h2 v3 =>
  if x3 = 0 then
    q_ix x1 8 (fun j4 =>
    if (h2.1 68 j4) = 4 then
      q_c1 (O 194 h2 [.ref 67, .int x1, .int 2]) (fun h5 v6 =>
      some (h5, some (.int ((v3 * 2) + v6))))
    else
      some (h2, some (.int (v3 * 2))))
  else
    some (h2, some (.int ((v3 * 2) ^^^ 3))))) := by rfl
-- WhirlShaftsModel.tells(II)I with (67, None, None)
set_option maxRecDepth 20000 in
theorem b196_0 (X : q_X) (O : q_O) (n : Nat) (h : q_S) (x1 : Int32) (x2 : Int32) : q_go e_196 X O (n + 1) 0 [(0, .ref 67), (1, .int x1), (2, .int x2)] [] h =
  q_ix x1 8 (fun j1 =>
  if (h.1 68 j1) = 3 then
    q_c0 (O 193 h [.ref 67, .int 40]) (fun h2 =>
    q_go e_196 X O n 16 [(0, .ref 67), (1, .int x1), (2, .int x2)] [] h2)
  else
    q_go e_196 X O n 16 [(0, .ref 67), (1, .int x1), (2, .int x2)] [] h) := by rfl
set_option maxRecDepth 20000 in
theorem b196_16 (X : q_X) (O : q_O) (n : Nat) (h : q_S) (x1 : Int32) (x2 : Int32) : q_go e_196 X O (n + 1) 16 [(0, .ref 67), (1, .int x1), (2, .int x2)] [] h =
  q_c0 (O 193 h [.ref 67, .int 12]) (fun h1 =>
  q_ix x1 8 (fun j2 =>
  if (h1.1 68 j2) = 3 then
    q_c1 (O 195 h1 [.ref 67, .int x1, .int (x2 + 1)]) (fun h3 v4 =>
    q_ix x1 8 (fun j5 =>
    some (h3, some (.int (v4 - (h3.1 69 j5))))))
  else
    q_c1 (O 195 h1 [.ref 67, .int x1, .int x2]) (fun h6 v7 =>
    q_ix x1 8 (fun j8 =>
    some (h6, some (.int (v7 - (h6.1 69 j8)))))))) := by rfl
-- WhirlShaftsModel.act(III)I with (67, None, None, None)
set_option maxRecDepth 20000 in
theorem b197_0 (X : q_X) (O : q_O) (n : Nat) (h : q_S) (x1 : Int32) (x2 : Int32) (x3 : Int32) : q_go e_197 X O (n + 1) 0 [(0, .ref 67), (1, .int x1), (2, .int x2), (3, .int x3)] [] h =
  q_c1 (O 121 h [.ref 67, .int x1]) (fun h1 v2 =>
  if v2 = 0 then
    some (h1, some (.int 0))
  else
    q_c1 (O 120 h1 [.int x2, .int 0, .int 2]) (fun h3 v4 =>
    if v4 = 0 then
      some (h3, some (.int 0))
    else
      if x2 = 0 then
        q_c1 (O 194 (q_si h3 67 39 0) [.ref 67, .int x1, .int x3]) (fun h5 v6 =>
        some (h5, some (.int v6)))
      else
        if x2 = 1 then
          q_c1 (O 195 (q_si h3 67 39 0) [.ref 67, .int x1, .int x3]) (fun h7 v8 =>
          some (h7, some (.int v8)))
        else
          q_c1 (O 196 (q_si h3 67 39 0) [.ref 67, .int x1, .int x3]) (fun h9 v10 =>
          some (h9, some (.int v10))))) := by rfl
-- WhirlShaftsModel.trace(I)I with (67, None)
set_option maxRecDepth 20000 in
theorem b198_0 (X : q_X) (O : q_O) (n : Nat) (h : q_S) (x1 : Int32) : q_go e_198 X O (n + 1) 0 [(0, .ref 67), (1, .int x1)] [] h =
  if x1 < 0 then
    some (h, some (.int (-2)))
  else
    if x1 < 24 then
      if x1 < (h.1 67 39) then
        q_ix x1 24 (fun j1 =>
        some (h, some (.int (h.1 97 j1))))
      else
        some (h, some (.int (-2)))
    else
      some (h, some (.int (-2))) := by rfl
-- WhirlShaftsModel.taken(II)I with (67, None, None)
set_option maxRecDepth 20000 in
theorem b199_0 (X : q_X) (O : q_O) (n : Nat) (h : q_S) (x1 : Int32) (x2 : Int32) : q_go e_199 X O (n + 1) 0 [(0, .ref 67), (1, .int x1), (2, .int x2)] [] h =
  q_c1 (O 121 h [.ref 67, .int x1]) (fun h1 v2 =>
  if v2 = 0 then
    some (h1, some (.int (-1)))
  else
    q_c1 (O 120 h1 [.int x2, .int 0, .int 4]) (fun h3 v4 =>
    if v4 = 0 then
      some (h3, some (.int (-1)))
    else
      if x2 = 0 then
        q_go e_199 X O n 63 [(0, .ref 67), (1, .int x1)] [] h3
      else
        q_ix x1 8 (fun j5 =>
        if (h3.1 68 j5) = x2 then
          q_go e_199 X O n 63 [(0, .ref 67), (1, .int x1)] [] h3
        else
          if x2 = 1 then
            q_ix x1 8 (fun j6 =>
            if (h3.1 68 j6) = 3 then
              q_go e_199 X O n 63 [(0, .ref 67), (1, .int x1)] [] h3
            else
              if x2 = 2 then
                q_ix x1 8 (fun j7 =>
                if (h3.1 68 j7) = 4 then
                  q_go e_199 X O n 63 [(0, .ref 67), (1, .int x1)] [] h3
                else
                  q_go e_199 X O n 67 [(0, .ref 67), (1, .int x1)] [] h3)
              else
                q_go e_199 X O n 67 [(0, .ref 67), (1, .int x1)] [] h3)
          else
            if x2 = 2 then
              q_ix x1 8 (fun j8 =>
              if (h3.1 68 j8) = 4 then
                q_go e_199 X O n 63 [(0, .ref 67), (1, .int x1)] [] h3
              else
                q_go e_199 X O n 67 [(0, .ref 67), (1, .int x1)] [] h3)
            else
              q_go e_199 X O n 67 [(0, .ref 67), (1, .int x1)] [] h3))) := by rfl
set_option maxRecDepth 20000 in
theorem b199_63 (X : q_X) (O : q_O) (n : Nat) (h : q_S) (x1 : Int32) : q_go e_199 X O (n + 1) 63 [(0, .ref 67), (1, .int x1)] [] h =
  if 1 = 0 then
    some (h, some (.int (-5)))
  else
    q_ix x1 8 (fun j1 =>
    some (h, some (.int (h.1 69 j1)))) := by rfl
set_option maxRecDepth 20000 in
theorem b199_67 (X : q_X) (O : q_O) (n : Nat) (h : q_S) (x1 : Int32) : q_go e_199 X O (n + 1) 67 [(0, .ref 67), (1, .int x1)] [] h =
  if 0 = 0 then
    some (h, some (.int (-5)))
  else
    q_ix x1 8 (fun j1 =>
    some (h, some (.int (h.1 69 j1)))) := by rfl
-- WhirlShaftsModel.passOne(I)I with (67, None)
set_option maxRecDepth 20000 in
theorem b200_0 (X : q_X) (O : q_O) (n : Nat) (h : q_S) (x1 : Int32) : q_go e_200 X O (n + 1) 0 [(0, .ref 67), (1, .int x1)] [] h =
  if (h.1 67 46) = 0 then
    q_ix (h.1 67 44) 140 (fun j1 =>
    q_go e_200 X O n 20 [(0, .ref 67)] [.int (h.1 98 j1)] h)
  else
    q_go e_200 X O n 20 [(0, .ref 67)] [.int x1] h := by rfl
set_option maxRecDepth 20000 in
theorem b200_20 (X : q_X) (O : q_O) (n : Nat) (h : q_S) (s0 : Int32) : q_go e_200 X O (n + 1) 20 [(0, .ref 67)] [.int s0] h =
  q_ix (h.1 67 44) 140 (fun j1 =>
  some ((q_si (q_si h 98 j1 s0) 67 44 ((h.1 67 44) + 1)), some (.int s0))) := by rfl
-- WhirlShaftsModel.passes([I)V with (67, 68)
set_option maxRecDepth 20000 in
theorem b201_0 (X : q_X) (O : q_O) (n : Nat) (h : q_S)  : q_go e_201 X O (n + 1) 0 [(0, .ref 67), (1, .ref 68)] [] h =
  q_go e_201 X O n 2 [(0, .ref 67), (1, .ref 68), (2, .int 0)] [] h := by rfl
set_option maxRecDepth 20000 in
theorem b201_2 (X : q_X) (O : q_O) (n : Nat) (h : q_S) (x2 : Int32) : q_go e_201 X O (n + 1) 2 [(0, .ref 67), (1, .ref 68), (2, .int x2)] [] h =
  if x2 < 8 then
    q_ix x2 8 (fun j1 =>
    q_c1 (O 200 h [.ref 67, .int (h.1 68 j1)]) (fun h2 v3 =>
    q_ix x2 8 (fun j4 =>
    q_go e_201 X O n 2 [(0, .ref 67), (1, .ref 68), (2, .int (x2 + 1))] [] (q_si h2 68 j4 v3))))
  else
    some (h, none) := by rfl
-- WhirlShaftsModel.passes([I)V with (67, 69)
set_option maxRecDepth 20000 in
theorem b201_0_1 (X : q_X) (O : q_O) (n : Nat) (h : q_S)  : q_go e_201 X O (n + 1) 0 [(0, .ref 67), (1, .ref 69)] [] h =
  q_go e_201 X O n 2 [(0, .ref 67), (1, .ref 69), (2, .int 0)] [] h := by rfl
set_option maxRecDepth 20000 in
theorem b201_2_1 (X : q_X) (O : q_O) (n : Nat) (h : q_S) (x2 : Int32) : q_go e_201 X O (n + 1) 2 [(0, .ref 67), (1, .ref 69), (2, .int x2)] [] h =
  if x2 < 8 then
    q_ix x2 8 (fun j1 =>
    q_c1 (O 200 h [.ref 67, .int (h.1 69 j1)]) (fun h2 v3 =>
    q_ix x2 8 (fun j4 =>
    q_go e_201 X O n 2 [(0, .ref 67), (1, .ref 69), (2, .int (x2 + 1))] [] (q_si h2 69 j4 v3))))
  else
    some (h, none) := by rfl
-- WhirlShaftsModel.passes([I)V with (67, 70)
set_option maxRecDepth 20000 in
theorem b201_0_2 (X : q_X) (O : q_O) (n : Nat) (h : q_S)  : q_go e_201 X O (n + 1) 0 [(0, .ref 67), (1, .ref 70)] [] h =
  q_go e_201 X O n 2 [(0, .ref 67), (1, .ref 70), (2, .int 0)] [] h := by rfl
set_option maxRecDepth 20000 in
theorem b201_2_2 (X : q_X) (O : q_O) (n : Nat) (h : q_S) (x2 : Int32) : q_go e_201 X O (n + 1) 2 [(0, .ref 67), (1, .ref 70), (2, .int x2)] [] h =
  if x2 < 8 then
    q_ix x2 8 (fun j1 =>
    q_c1 (O 200 h [.ref 67, .int (h.1 70 j1)]) (fun h2 v3 =>
    q_ix x2 8 (fun j4 =>
    q_go e_201 X O n 2 [(0, .ref 67), (1, .ref 70), (2, .int (x2 + 1))] [] (q_si h2 70 j4 v3))))
  else
    some (h, none) := by rfl
-- WhirlShaftsModel.passes([I)V with (67, 71)
set_option maxRecDepth 20000 in
theorem b201_0_3 (X : q_X) (O : q_O) (n : Nat) (h : q_S)  : q_go e_201 X O (n + 1) 0 [(0, .ref 67), (1, .ref 71)] [] h =
  q_go e_201 X O n 2 [(0, .ref 67), (1, .ref 71), (2, .int 0)] [] h := by rfl
set_option maxRecDepth 20000 in
theorem b201_2_3 (X : q_X) (O : q_O) (n : Nat) (h : q_S) (x2 : Int32) : q_go e_201 X O (n + 1) 2 [(0, .ref 67), (1, .ref 71), (2, .int x2)] [] h =
  if x2 < 8 then
    q_ix x2 8 (fun j1 =>
    q_c1 (O 200 h [.ref 67, .int (h.1 71 j1)]) (fun h2 v3 =>
    q_ix x2 8 (fun j4 =>
    q_go e_201 X O n 2 [(0, .ref 67), (1, .ref 71), (2, .int (x2 + 1))] [] (q_si h2 71 j4 v3))))
  else
    some (h, none) := by rfl
-- WhirlShaftsModel.passes([I)V with (67, 72)
set_option maxRecDepth 20000 in
theorem b201_0_4 (X : q_X) (O : q_O) (n : Nat) (h : q_S)  : q_go e_201 X O (n + 1) 0 [(0, .ref 67), (1, .ref 72)] [] h =
  q_go e_201 X O n 2 [(0, .ref 67), (1, .ref 72), (2, .int 0)] [] h := by rfl
set_option maxRecDepth 20000 in
theorem b201_2_4 (X : q_X) (O : q_O) (n : Nat) (h : q_S) (x2 : Int32) : q_go e_201 X O (n + 1) 2 [(0, .ref 67), (1, .ref 72), (2, .int x2)] [] h =
  if x2 < 8 then
    q_ix x2 8 (fun j1 =>
    q_c1 (O 200 h [.ref 67, .int (h.1 72 j1)]) (fun h2 v3 =>
    q_ix x2 8 (fun j4 =>
    q_go e_201 X O n 2 [(0, .ref 67), (1, .ref 72), (2, .int (x2 + 1))] [] (q_si h2 72 j4 v3))))
  else
    some (h, none) := by rfl
-- WhirlShaftsModel.passes([I)V with (67, 89)
set_option maxRecDepth 20000 in
theorem b201_0_5 (X : q_X) (O : q_O) (n : Nat) (h : q_S)  : q_go e_201 X O (n + 1) 0 [(0, .ref 67), (1, .ref 89)] [] h =
  q_go e_201 X O n 2 [(0, .ref 67), (1, .ref 89), (2, .int 0)] [] h := by rfl
set_option maxRecDepth 20000 in
theorem b201_2_5 (X : q_X) (O : q_O) (n : Nat) (h : q_S) (x2 : Int32) : q_go e_201 X O (n + 1) 2 [(0, .ref 67), (1, .ref 89), (2, .int x2)] [] h =
  if x2 < 8 then
    q_ix x2 8 (fun j1 =>
    q_c1 (O 200 h [.ref 67, .int (h.1 89 j1)]) (fun h2 v3 =>
    q_ix x2 8 (fun j4 =>
    q_go e_201 X O n 2 [(0, .ref 67), (1, .ref 89), (2, .int (x2 + 1))] [] (q_si h2 89 j4 v3))))
  else
    some (h, none) := by rfl
-- WhirlShaftsModel.passes([I)V with (67, 90)
set_option maxRecDepth 20000 in
theorem b201_0_6 (X : q_X) (O : q_O) (n : Nat) (h : q_S)  : q_go e_201 X O (n + 1) 0 [(0, .ref 67), (1, .ref 90)] [] h =
  q_go e_201 X O n 2 [(0, .ref 67), (1, .ref 90), (2, .int 0)] [] h := by rfl
set_option maxRecDepth 20000 in
theorem b201_2_6 (X : q_X) (O : q_O) (n : Nat) (h : q_S) (x2 : Int32) : q_go e_201 X O (n + 1) 2 [(0, .ref 67), (1, .ref 90), (2, .int x2)] [] h =
  if x2 < 8 then
    q_ix x2 8 (fun j1 =>
    q_c1 (O 200 h [.ref 67, .int (h.1 90 j1)]) (fun h2 v3 =>
    q_ix x2 8 (fun j4 =>
    q_go e_201 X O n 2 [(0, .ref 67), (1, .ref 90), (2, .int (x2 + 1))] [] (q_si h2 90 j4 v3))))
  else
    some (h, none) := by rfl
-- WhirlShaftsModel.passes([I)V with (67, 91)
set_option maxRecDepth 20000 in
theorem b201_0_7 (X : q_X) (O : q_O) (n : Nat) (h : q_S)  : q_go e_201 X O (n + 1) 0 [(0, .ref 67), (1, .ref 91)] [] h =
  q_go e_201 X O n 2 [(0, .ref 67), (1, .ref 91), (2, .int 0)] [] h := by rfl
set_option maxRecDepth 20000 in
theorem b201_2_7 (X : q_X) (O : q_O) (n : Nat) (h : q_S) (x2 : Int32) : q_go e_201 X O (n + 1) 2 [(0, .ref 67), (1, .ref 91), (2, .int x2)] [] h =
  if x2 < 8 then
    q_ix x2 8 (fun j1 =>
    q_c1 (O 200 h [.ref 67, .int (h.1 91 j1)]) (fun h2 v3 =>
    q_ix x2 8 (fun j4 =>
    q_go e_201 X O n 2 [(0, .ref 67), (1, .ref 91), (2, .int (x2 + 1))] [] (q_si h2 91 j4 v3))))
  else
    some (h, none) := by rfl
-- WhirlShaftsModel.passesAll(IZ)V with (67, None, None)
set_option maxRecDepth 20000 in
theorem b202_0 (X : q_X) (O : q_O) (n : Nat) (h : q_S) (x1 : Int32) (x2 : Int32) : q_go e_202 X O (n + 1) 0 [(0, .ref 67), (1, .int x1), (2, .int x2)] [] h =
  if x2 = 0 ∨ x2 = 1 then
  q_c1 (O 200 (q_si (q_si h 67 44 (70 * x1)) 67 46 x2) [.ref 67, .int (h.1 67 0)]) (fun h1 v2 =>
  q_c1 (O 200 (q_si h1 67 0 v2) [.ref 67, .int (h1.1 67 1)]) (fun h3 v4 =>
  q_c1 (O 200 (q_si h3 67 1 v4) [.ref 67, .int (h3.1 67 2)]) (fun h5 v6 =>
  q_c1 (O 200 (q_si h5 67 2 v6) [.ref 67, .int (h5.1 67 26)]) (fun h7 v8 =>
  q_c0 (O 201 (q_si h7 67 26 v8) [.ref 67, .ref 68]) (fun h9 =>
  q_c0 (O 201 h9 [.ref 67, .ref 69]) (fun h10 =>
  q_c0 (O 201 h10 [.ref 67, .ref 70]) (fun h11 =>
  q_c0 (O 201 h11 [.ref 67, .ref 71]) (fun h12 =>
  q_c0 (O 201 h12 [.ref 67, .ref 72]) (fun h13 =>
  q_c0 (O 201 h13 [.ref 67, .ref 89]) (fun h14 =>
  q_c0 (O 201 h14 [.ref 67, .ref 90]) (fun h15 =>
  q_c0 (O 201 h15 [.ref 67, .ref 91]) (fun h16 =>
  some (h16, none)))))))))))))
  else none := by rfl
-- WhirlShaftsModel.image()I with (67,)
set_option maxRecDepth 20000 in
theorem b203_0 (X : q_X) (O : q_O) (n : Nat) (h : q_S)  : q_go e_203 X O (n + 1) 0 [(0, .ref 67)] [] h =
  q_c0 (O 202 h [.ref 67, .int 1, .int 1]) (fun h1 =>
  q_c0 (O 126 h1 [.ref 67]) (fun h2 =>
  q_go e_203 X O n 20 [(0, .ref 67), (1, .int 0)] [] (q_si h2 67 45 (h2.1 67 0)))) := by rfl
set_option maxRecDepth 20000 in
theorem b203_20 (X : q_X) (O : q_O) (n : Nat) (h : q_S) (x1 : Int32) : q_go e_203 X O (n + 1) 20 [(0, .ref 67), (1, .int x1)] [] h =
  if x1 < (h.1 67 0) then
    q_ix x1 8 (fun j1 =>
    q_ix x1 8 (fun j2 =>
    q_ix x1 8 (fun j3 =>
    q_ix x1 8 (fun j4 =>
    q_ix x1 8 (fun j5 =>
    q_ix x1 8 (fun j6 =>
    q_go e_203 X O n 20 [(0, .ref 67), (1, .int (x1 + 1))] [] (q_si (q_si (q_si h 99 j2 (h.1 74 j1)) 100 j4 (h.1 75 j3)) 101 j6 (h.1 76 j5))))))))
  else
    some (h, some (.int (h.1 67 0))) := by rfl
-- WhirlShaftsModel.alike()I with (67,)
set_option maxRecDepth 20000 in
theorem b204_0 (X : q_X) (O : q_O) (n : Nat) (h : q_S)  : q_go e_204 X O (n + 1) 0 [(0, .ref 67)] [] h =
  if (h.1 67 45) < 0 then
    some (h, some (.int (-5)))
  else
    q_c0 (O 126 h [.ref 67]) (fun h1 =>
    if (h1.1 67 45) = (h1.1 67 0) then
      q_go e_204 X O n 33 [(0, .ref 67), (1, .int 1), (2, .int 0)] [] h1
    else
      q_go e_204 X O n 33 [(0, .ref 67), (1, .int 0), (2, .int 0)] [] h1) := by rfl
set_option maxRecDepth 20000 in
theorem b204_33 (X : q_X) (O : q_O) (n : Nat) (h : q_S) (x1 : Int32) (x2 : Int32) : q_go e_204 X O (n + 1) 33 [(0, .ref 67), (1, .int x1), (2, .int x2)] [] h =
  if x2 < (h.1 67 0) then
    if x1 = 0 then
      if x1 = 0 then
        some (h, some (.int 0))
      else
        some (h, some (.int 1))
    else
      q_ix x2 8 (fun j1 =>
      q_ix x2 8 (fun j2 =>
      if (h.1 99 j1) = (h.1 74 j2) then
        q_ix x2 8 (fun j3 =>
        q_ix x2 8 (fun j4 =>
        if (h.1 100 j3) = (h.1 75 j4) then
          q_ix x2 8 (fun j5 =>
          q_ix x2 8 (fun j6 =>
          if (h.1 101 j5) = (h.1 76 j6) then
            q_go e_204 X O n 33 [(0, .ref 67), (1, .int 1), (2, .int (x2 + 1))] [] h
          else
            q_go e_204 X O n 33 [(0, .ref 67), (1, .int 0), (2, .int (x2 + 1))] [] h))
        else
          q_go e_204 X O n 33 [(0, .ref 67), (1, .int 0), (2, .int (x2 + 1))] [] h))
      else
        q_go e_204 X O n 33 [(0, .ref 67), (1, .int 0), (2, .int (x2 + 1))] [] h))
  else
    if x1 = 0 then
      some (h, some (.int 0))
    else
      some (h, some (.int 1)) := by rfl
-- WhirlShaftsModel.back()I with (67,)
set_option maxRecDepth 20000 in
theorem b205_0 (X : q_X) (O : q_O) (n : Nat) (h : q_S)  : q_go e_205 X O (n + 1) 0 [(0, .ref 67)] [] h =
  if (h.1 67 45) < 0 then
    some (h, some (.int (-5)))
  else
    q_c0 (O 202 h [.ref 67, .int 1, .int 0]) (fun h1 =>
    q_c0 (O 134 h1 [.ref 67]) (fun h2 =>
    some (h2, some (.int (h2.1 67 0))))) := by rfl
-- WhirlShaftsModel.rowsThere()I with (67,)
set_option maxRecDepth 20000 in
theorem b206_0 (X : q_X) (O : q_O) (n : Nat) (h : q_S)  : q_go e_206 X O (n + 1) 0 [(0, .ref 67)] [] h =
  q_go e_206 X O n 4 [(0, .ref 67), (1, .int 0), (2, .int 0)] [] h := by rfl
set_option maxRecDepth 20000 in
theorem b206_4 (X : q_X) (O : q_O) (n : Nat) (h : q_S) (x1 : Int32) (x2 : Int32) : q_go e_206 X O (n + 1) 4 [(0, .ref 67), (1, .int x1), (2, .int x2)] [] h =
  if x2 < 3 then
    q_ix x2 3 (fun j1 =>
    if (h.1 85 j1) < 0 then
      q_go e_206 X O n 4 [(0, .ref 67), (1, .int (x1 + 0)), (2, .int (x2 + 1))] [] h
    else
      q_go e_206 X O n 4 [(0, .ref 67), (1, .int (x1 + 1)), (2, .int (x2 + 1))] [] h)
  else
    some (h, some (.int x1)) := by rfl
-- WhirlShaftsModel.count(I)I with (67, None)
set_option maxRecDepth 20000 in
theorem b207_0 (X : q_X) (O : q_O) (n : Nat) (h : q_S) (x1 : Int32) : q_go e_207 X O (n + 1) 0 [(0, .ref 67), (1, .int x1)] [] h =
  if x1 = 0 then
    some (h, some (.int (h.1 67 0)))
  else if x1 = 1 then
    some (h, some (.int (h.1 67 1)))
  else if x1 = 2 then
    some (h, some (.int (h.1 67 2)))
  else if x1 = 3 then
    q_c1 (O 127 h [.ref 67]) (fun h1 v2 =>
    some (h1, some (.int v2)))
  else if x1 = 4 then
    some (h, some (.int (h.1 67 26)))
  else if x1 = 5 then
    some (h, some (.int (h.1 67 20)))
  else if x1 = 6 then
    some (h, some (.int (h.1 67 21)))
  else if x1 = 7 then
    some (h, some (.int (h.1 67 35)))
  else if x1 = 8 then
    q_c1 (O 206 h [.ref 67]) (fun h3 v4 =>
    some (h3, some (.int v4)))
  else 
    some (h, some (.int (-1))) := by rfl
-- java/lang/Math.max(II)I with (None, None)
set_option maxRecDepth 20000 in
theorem b208_0 (X : q_X) (O : q_O) (n : Nat) (h : q_S) (x0 : Int32) (x1 : Int32) : q_go e_208 X O (n + 1) 0 [(0, .int x0), (1, .int x1)] [] h =
  if x0 < x1 then
    some (h, some (.int x1))
  else
    some (h, some (.int x0)) := by rfl
-- java/lang/Math.floorMod(JJ)J with (None, None)
set_option maxRecDepth 20000 in
theorem b209_0 (X : q_X) (O : q_O) (n : Nat) (h : q_S) (x0 : Int64) (x1 : Int64) : q_go e_209 X O (n + 1) 0 [(0, .long x0), (2, .long x1)] [] h =
  if x1 = 0 then none else
  if (lg_cmp (x0 ^^^ x1) (Int64.ofNat 0)) < 0 then
    if (lg_cmp (x0 - x0 / x1 * x1) (Int64.ofNat 0)) = 0 then
      some (h, some (.long (x0 - x0 / x1 * x1)))
    else
      some (h, some (.long ((x0 - x0 / x1 * x1) + x1)))
  else
    some (h, some (.long (x0 - x0 / x1 * x1))) := by rfl
-- java/lang/Math.max(JJ)J with (None, None)
set_option maxRecDepth 20000 in
theorem b210_0 (X : q_X) (O : q_O) (n : Nat) (h : q_S) (x0 : Int64) (x1 : Int64) : q_go e_210 X O (n + 1) 0 [(0, .long x0), (2, .long x1)] [] h =
  if (lg_cmp x0 x1) < 0 then
    some (h, some (.long x1))
  else
    some (h, some (.long x0)) := by rfl
