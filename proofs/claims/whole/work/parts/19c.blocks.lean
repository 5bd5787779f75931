set_option maxRecDepth 100000
set_option maxHeartbeats 4000000
theorem bk_43_0 {L : Nat} {xs : Nat → Int32} {d : Nat} {P : Option Value → am_I → am_J → Prop} (x1 : Int32) (x2 : Int32) (x3 : Int32) (I : am_I) (J : am_J)  (h : am_Ob (fun n => (am_exec (am_XX L xs) n d 26 0 [some (.int (3 : Int32)), some (.int x2), some (.int x3), none, none, none] [] am_lay I J).bind fun q => am_exec (am_XX L xs) n (d + 1) 43 10 [some (.ref 9), some (.int x1), some (.int x2), some (.int x3)] (q.1.toList ++ [.ref 60]) q.2.1 q.2.2.1 q.2.2.2) P) : am_To (am_XX L xs) (d + 1) 43 0 [some (.ref 9), some (.int x1), some (.int x2), some (.int x3)] [] I J P := am_start 6 h
theorem bk_43_10 {L : Nat} {xs : Nat → Int32} {d : Nat} {P : Option Value → am_I → am_J → Prop} (x1 : Int32) (x2 : Int32) (x3 : Int32) (s1 : Int32) (I : am_I) (J : am_J)  (h : am_Ob (fun n => (am_exec (am_XX L xs) n d 27 0 [some (.ref 60), some (.int s1), some (.int (0 : Int32)), some (.int x1)] [] am_lay I J).bind fun q => am_exec (am_XX L xs) n (d + 1) 43 15 [some (.ref 9), some (.int x1), some (.int x2), some (.int x3)] (q.1.toList ++ []) q.2.1 q.2.2.1 q.2.2.2) P) : am_To (am_XX L xs) (d + 1) 43 10 [some (.ref 9), some (.int x1), some (.int x2), some (.int x3)] [.int s1, .ref 60] I J P := am_start 3 h
theorem bk_43_15 {L : Nat} {xs : Nat → Int32} {d : Nat} {P : Option Value → am_I → am_J → Prop} (x2 : Int32) (x3 : Int32) (I : am_I) (J : am_J)  (h : am_Ob (fun n => (am_ix x3 24).bind fun q1 => (am_ix x3 24).bind fun q2 => some ((some (.int (((am_up I 65 q2 ((I 65 q1) ||| ((1 : Int32) <<< (x2 &&& 31)))) 60 3) - (1 : Int32)))), am_lay, (am_up I 65 q2 ((I 65 q1) ||| ((1 : Int32) <<< (x2 &&& 31)))), J)) P) : am_To (am_XX L xs) d 43 15 [some (.ref 9), none, some (.int x2), some (.int x3)] [] I J P := am_start 16 h
theorem bk_44_0 {L : Nat} {xs : Nat → Int32} {d : Nat} {P : Option Value → am_I → am_J → Prop} (x1 : Int32) (x2 : Int32) (x3 : Int32) (I : am_I) (J : am_J)  (h : am_Ob (fun n => (am_exec (am_XX L xs) n d 27 0 [some (.ref 60), some (.int x2), some (.int x3), some (.int x1)] [] am_lay I J).bind fun q => am_exec (am_XX L xs) n (d + 1) 44 10 [some (.ref 9), some (.int x1), some (.int x2), some (.int x3)] (q.1.toList ++ []) q.2.1 q.2.2.1 q.2.2.2) P) : am_To (am_XX L xs) (d + 1) 44 0 [some (.ref 9), some (.int x1), some (.int x2), some (.int x3)] [] I J P := am_start 6 h
theorem bk_44_10 {L : Nat} {xs : Nat → Int32} {d : Nat} {P : Option Value → am_I → am_J → Prop} (x2 : Int32) (x3 : Int32) (I : am_I) (J : am_J)  (h : am_Ob (fun n => (am_ix x2 1728).bind fun q1 => (am_ix x2 1728).bind fun q2 => some ((some (.int (((am_up I 64 q2 ((I 64 q1) + x3)) 60 3) - (1 : Int32)))), am_lay, (am_up I 64 q2 ((I 64 q1) + x3)), J)) P) : am_To (am_XX L xs) d 44 10 [some (.ref 9), none, some (.int x2), some (.int x3)] [] I J P := am_start 14 h
theorem bk_45_0 {L : Nat} {xs : Nat → Int32} {d : Nat} {P : Option Value → am_I → am_J → Prop} (x1 : Int32) (x2 : Int32) (x3 : Int32) (I : am_I) (J : am_J)  (h : am_Ob (fun n => (am_exec (am_XX L xs) n d 46 0 [some (.ref 0), some (.int x1), some (.int x2), some (.int x3)] [] am_lay I J).bind fun q => am_exec (am_XX L xs) n (d + 1) 45 7 [some (.ref 0), some (.int x1), some (.int x2), some (.int x3)] (q.1.toList ++ []) q.2.1 q.2.2.1 q.2.2.2) P) : am_To (am_XX L xs) (d + 1) 45 0 [some (.ref 0), some (.int x1), some (.int x2), some (.int x3)] [] I J P := am_start 5 h
theorem bk_45_7 {L : Nat} {xs : Nat → Int32} {d : Nat} {P : Option Value → am_I → am_J → Prop} (x1 : Int32) (x2 : Int32) (x3 : Int32) (s0 : Int32) (I : am_I) (J : am_J)  (h : am_Ob (fun n => if s0 = 0 then (some ((some (.int (-1 : Int32))), am_lay, I, J)) else ((am_exec (am_XX L xs) n d 26 0 [some (.int x1), some (.int x2), some (.int x3), none, none, none] [] am_lay I J).bind fun q => am_exec (am_XX L xs) n (d + 1) 45 23 [some (.ref 0), some (.int x1), some (.int x2), some (.int x3)] (q.1.toList ++ [.ref 64]) q.2.1 q.2.2.1 q.2.2.2)) P) : am_To (am_XX L xs) (d + 1) 45 7 [some (.ref 0), some (.int x1), some (.int x2), some (.int x3)] [.int s0] I J P := am_start 8 h
theorem bk_45_23 {L : Nat} {xs : Nat → Int32} {d : Nat} {P : Option Value → am_I → am_J → Prop} (s1 : Int32) (I : am_I) (J : am_J)  (h : am_Ob (fun n => (am_ix s1 1728).bind fun q1 => some ((some (.int (I 64 q1))), am_lay, I, J)) P) : am_To (am_XX L xs) d 45 23 [none, none, none, none] [.int s1, .ref 64] I J P := am_start 3 h
theorem bk_46_0 {L : Nat} {xs : Nat → Int32} {d : Nat} {P : Option Value → am_I → am_J → Prop} (x1 : Int32) (x2 : Int32) (x3 : Int32) (I : am_I) (J : am_J)  (h : am_Ob (fun n => if x1 < 0 then (some ((some (.int (0 : Int32))), am_lay, I, J)) else (if (3 : Int32) ≤ x1 then (some ((some (.int (0 : Int32))), am_lay, I, J)) else ((am_exec (am_XX L xs) n d 42 0 [some (.ref 3), some (.int x2), some (.int x3)] [] am_lay I J).bind fun q => am_exec (am_XX L xs) n (d + 1) 46 18 [some (.ref 0), some (.int x1), some (.int x2), some (.int x3)] (q.1.toList ++ []) q.2.1 q.2.2.1 q.2.2.2))) P) : am_To (am_XX L xs) (d + 1) 46 0 [some (.ref 0), some (.int x1), some (.int x2), some (.int x3)] [] I J P := am_start 10 h
theorem bk_46_18 {L : Nat} {xs : Nat → Int32} {d : Nat} {P : Option Value → am_I → am_J → Prop} (s0 : Int32) (I : am_I) (J : am_J)  (h : am_Ob (fun n => if s0 = 0 then (some ((some (.int (0 : Int32))), am_lay, I, J)) else (some ((some (.int (1 : Int32))), am_lay, I, J))) P) : am_To (am_XX L xs) d 46 18 [none, none, none, none] [.int s0] I J P := am_start 4 h
theorem bk_47_0 {L : Nat} {xs : Nat → Int32} {d : Nat} {P : Option Value → am_I → am_J → Prop} (x1 : Int32) (x2 : Int32) (x3 : Int32) (x4 : Int32) (x5 : Int32) (I : am_I) (J : am_J)  (h : am_Ob (fun n => (am_exec (am_XX L xs) n d 46 0 [some (.ref 0), some (.int x1), some (.int x2), some (.int x3)] [] am_lay I J).bind fun q => am_exec (am_XX L xs) n (d + 1) 47 7 [some (.ref 0), some (.int x1), some (.int x2), some (.int x3), some (.int x4), some (.int x5)] (q.1.toList ++ []) q.2.1 q.2.2.1 q.2.2.2) P) : am_To (am_XX L xs) (d + 1) 47 0 [some (.ref 0), some (.int x1), some (.int x2), some (.int x3), some (.int x4), some (.int x5)] [] I J P := am_start 5 h
theorem bk_47_7 {L : Nat} {xs : Nat → Int32} {d : Nat} {P : Option Value → am_I → am_J → Prop} (x1 : Int32) (x2 : Int32) (x3 : Int32) (x4 : Int32) (x5 : Int32) (s0 : Int32) (I : am_I) (J : am_J)  (h : am_Ob (fun n => if s0 = 0 then (some ((some (.int (-1 : Int32))), am_lay, I, J)) else (if x4 < 0 then (some ((some (.int (-1 : Int32))), am_lay, I, J)) else ((am_exec (am_XX L xs) n d 26 0 [some (.int x1), some (.int x2), some (.int x3), none, none, none] [] am_lay I J).bind fun q => am_exec (am_XX L xs) n (d + 1) 47 25 [some (.ref 0), some (.int x1), some (.int x2), some (.int x3), some (.int x4), some (.int x5)] (q.1.toList ++ [.ref 9]) q.2.1 q.2.2.1 q.2.2.2))) P) : am_To (am_XX L xs) (d + 1) 47 7 [some (.ref 0), some (.int x1), some (.int x2), some (.int x3), some (.int x4), some (.int x5)] [.int s0] I J P := am_start 9 h
theorem bk_47_25 {L : Nat} {xs : Nat → Int32} {d : Nat} {P : Option Value → am_I → am_J → Prop} (x4 : Int32) (x5 : Int32) (s1 : Int32) (I : am_I) (J : am_J)  (h : am_Ob (fun n => (am_exec (am_XX L xs) n d 48 0 [some (.ref 9), some (.int s1), some (.int x4), some (.int x5), none, none, none] [] am_lay I J).bind fun q => am_exec (am_XX L xs) n (d + 1) 47 32 [none, none, none, none, some (.int x4), some (.int x5)] (q.1.toList ++ []) q.2.1 q.2.2.1 q.2.2.2) P) : am_To (am_XX L xs) (d + 1) 47 25 [none, none, none, none, some (.int x4), some (.int x5)] [.int s1, .ref 9] I J P := am_start 3 h
theorem bk_47_32 {L : Nat} {xs : Nat → Int32} {d : Nat} {P : Option Value → am_I → am_J → Prop} (s0 : Int32) (I : am_I) (J : am_J)  (h : am_Ob (fun n => some ((some (.int s0)), am_lay, I, J)) P) : am_To (am_XX L xs) d 47 32 [none, none, none, none, none, none] [.int s0] I J P := am_start 2 h
theorem bk_48_0 {L : Nat} {xs : Nat → Int32} {d : Nat} {P : Option Value → am_I → am_J → Prop} (x1 : Int32) (x2 : Int32) (x3 : Int32) (I : am_I) (J : am_J)  (h : am_Ob (fun n => am_exec (am_XX L xs) n d 48 6 [some (.ref 9), some (.int x1), some (.int x2), some (.int x3), some (.int x2), some (.int (0 : Int32)), none] [] am_lay I J) P) : am_To (am_XX L xs) d 48 0 [some (.ref 9), some (.int x1), some (.int x2), some (.int x3), none, none, none] [] I J P := am_start 4 h
theorem bk_48_6 {L : Nat} {xs : Nat → Int32} {d : Nat} {P : Option Value → am_I → am_J → Prop} (x1 : Int32) (x3 : Int32) (x4 : Int32) (x5 : Int32) (I : am_I) (J : am_J)  (h : am_Ob (fun n => if (12 : Int32) ≤ x5 then ((am_exec (am_XX L xs) n d 51 0 [some (.ref 60), some (.int x1), some (.int x4), none, none] [] am_lay I J).bind fun q => am_exec (am_XX L xs) n (d + 1) 48 68 [some (.ref 9), some (.int x1), none, some (.int x3), some (.int x4), some (.int x5), none] (q.1.toList ++ [.ref 9]) q.2.1 q.2.2.1 q.2.2.2) else ((am_ix x5 12).bind fun q1 => am_exec (am_XX L xs) (n + 2) (d + 1) 48 20 [some (.ref 9), some (.int x1), none, some (.int x3), some (.int x4), some (.int x5), none] [(am_rf (am_tL.getD q1 none))] am_lay I J)) P) : am_To (am_XX L xs) (d + 1) 48 6 [some (.ref 9), some (.int x1), none, some (.int x3), some (.int x4), some (.int x5), none] [] I J P := am_start 9 h
theorem bk_48_68 {L : Nat} {xs : Nat → Int32} {d : Nat} {P : Option Value → am_I → am_J → Prop} (x3 : Int32) (s1 : Int32) (I : am_I) (J : am_J)  (h : am_Ob (fun n => (am_exec (am_XX L xs) n d 52 0 [some (.ref 9), some (.int s1), some (.int x3)] [] am_lay I J).bind fun q => am_exec (am_XX L xs) n (d + 1) 48 72 [none, none, none, some (.int x3), none, none, none] (q.1.toList ++ []) q.2.1 q.2.2.1 q.2.2.2) P) : am_To (am_XX L xs) (d + 1) 48 68 [none, none, none, some (.int x3), none, none, none] [.int s1, .ref 9] I J P := am_start 2 h
theorem bk_48_20 {L : Nat} {xs : Nat → Int32} {d : Nat} {P : Option Value → am_I → am_J → Prop} (x1 : Int32) (x3 : Int32) (x4 : Int32) (x5 : Int32) (I : am_I) (J : am_J) (q : Nat) (hq : q < 12) (h : am_Ob (fun n => (am_exec (am_XX L xs) n d 49 0 [some (.ref (gH q)), some (.int x1), none, none] [] am_lay I J).bind fun q => am_exec (am_XX L xs) n (d + 1) 48 24 [some (.ref 9), some (.int x1), none, some (.int x3), some (.int x4), some (.int x5), none] (q.1.toList ++ []) q.2.1 q.2.2.1 q.2.2.2) P) : am_To (am_XX L xs) (d + 1) 48 20 [some (.ref 9), some (.int x1), none, some (.int x3), some (.int x4), some (.int x5), none] [.ref (gH q)] I J P := by
  match q, hq, h with
  | 0, _, h => exact am_start 2 h
  | 1, _, h => exact am_start 2 h
  | 2, _, h => exact am_start 2 h
  | 3, _, h => exact am_start 2 h
  | 4, _, h => exact am_start 2 h
  | 5, _, h => exact am_start 2 h
  | 6, _, h => exact am_start 2 h
  | 7, _, h => exact am_start 2 h
  | 8, _, h => exact am_start 2 h
  | 9, _, h => exact am_start 2 h
  | 10, _, h => exact am_start 2 h
  | 11, _, h => exact am_start 2 h
  | q + 12, h0, _ => exact absurd h0 (by omega)
theorem bk_48_72 {L : Nat} {xs : Nat → Int32} {d : Nat} {P : Option Value → am_I → am_J → Prop} (s0 : Int32) (I : am_I) (J : am_J)  (h : am_Ob (fun n => some ((some (.int s0)), am_lay, I, J)) P) : am_To (am_XX L xs) d 48 72 [none, none, none, none, none, none, none] [.int s0] I J P := am_start 1 h
theorem bk_48_24 {L : Nat} {xs : Nat → Int32} {d : Nat} {P : Option Value → am_I → am_J → Prop} (x1 : Int32) (x3 : Int32) (x4 : Int32) (x5 : Int32) (s0 : Int32) (I : am_I) (J : am_J)  (h : am_Ob (fun n => if s0 ≤ x4 then (am_exec (am_XX L xs) n (d + 1) 48 6 [some (.ref 9), some (.int x1), none, some (.int x3), some (.int (x4 - s0)), some (.int (x5 + (1 : Int32))), some (.int s0)] [] am_lay I J) else ((am_exec (am_XX L xs) n d 50 0 [some (.ref 9), some (.int x5), some (.int x1), some (.int x4), some (.int x3), none] [] am_lay I J).bind fun q => am_exec (am_XX L xs) n (d + 1) 48 43 [some (.ref 9), some (.int x1), none, some (.int x3), some (.int x4), some (.int x5), some (.int s0)] (q.1.toList ++ []) q.2.1 q.2.2.1 q.2.2.2)) P) : am_To (am_XX L xs) (d + 1) 48 24 [some (.ref 9), some (.int x1), none, some (.int x3), some (.int x4), some (.int x5), none] [.int s0] I J P := am_start 10 h
theorem bk_48_43 {L : Nat} {xs : Nat → Int32} {d : Nat} {P : Option Value → am_I → am_J → Prop} (s0 : Int32) (I : am_I) (J : am_J)  (h : am_Ob (fun n => some ((some (.int s0)), am_lay, I, J)) P) : am_To (am_XX L xs) d 48 43 [none, none, none, none, none, none, none] [.int s0] I J P := am_start 1 h
theorem bk_49_0 {L : Nat} {xs : Nat → Int32} {d : Nat} {P : Option Value → am_I → am_J → Prop} (x1 : Int32) (I : am_I) (J : am_J) (t : Nat) (ht : t < 13) (h : am_Ob (fun n => am_exec (am_XX L xs) n d 49 4 [some (.ref (gH t)), some (.int x1), some (.int (0 : Int32)), some (.int (0 : Int32))] [] am_lay I J) P) : am_To (am_XX L xs) d 49 0 [some (.ref (gH t)), some (.int x1), none, none] [] I J P := by
  match t, ht, h with
  | 0, _, h => exact am_start 4 h
  | 1, _, h => exact am_start 4 h
  | 2, _, h => exact am_start 4 h
  | 3, _, h => exact am_start 4 h
  | 4, _, h => exact am_start 4 h
  | 5, _, h => exact am_start 4 h
  | 6, _, h => exact am_start 4 h
  | 7, _, h => exact am_start 4 h
  | 8, _, h => exact am_start 4 h
  | 9, _, h => exact am_start 4 h
  | 10, _, h => exact am_start 4 h
  | 11, _, h => exact am_start 4 h
  | 12, _, h => exact am_start 4 h
  | t + 13, h0, _ => exact absurd h0 (by omega)
theorem bk_49_4 {L : Nat} {xs : Nat → Int32} {d : Nat} {P : Option Value → am_I → am_J → Prop} (x1 : Int32) (x2 : Int32) (x3 : Int32) (I : am_I) (J : am_J) (t : Nat) (ht : t < 13) (h : am_Ob (fun n => if (I (gH t) 3) ≤ x3 then (some ((some (.int x2)), am_lay, I, J)) else ((am_ix x3 (gN t)).bind fun q1 => if (I (gA0 t) q1) = x1 then (am_exec (am_XX L xs) n d 49 4 [some (.ref (gH t)), some (.int x1), some (.int (x2 + (1 : Int32))), some (.int (x3 + (1 : Int32)))] [] am_lay I J) else (am_exec (am_XX L xs) (n + 1) d 49 4 [some (.ref (gH t)), some (.int x1), some (.int x2), some (.int (x3 + (1 : Int32)))] [] am_lay I J))) P) : am_To (am_XX L xs) d 49 4 [some (.ref (gH t)), some (.int x1), some (.int x2), some (.int x3)] [] I J P := by
  match t, ht, h with
  | 0, _, h => exact am_start 13 h
  | 1, _, h => exact am_start 13 h
  | 2, _, h => exact am_start 13 h
  | 3, _, h => exact am_start 13 h
  | 4, _, h => exact am_start 13 h
  | 5, _, h => exact am_start 13 h
  | 6, _, h => exact am_start 13 h
  | 7, _, h => exact am_start 13 h
  | 8, _, h => exact am_start 13 h
  | 9, _, h => exact am_start 13 h
  | 10, _, h => exact am_start 13 h
  | 11, _, h => exact am_start 13 h
  | 12, _, h => exact am_start 13 h
  | t + 13, h0, _ => exact absurd h0 (by omega)
theorem bk_50_0 {L : Nat} {xs : Nat → Int32} {d : Nat} {P : Option Value → am_I → am_J → Prop} (x1 : Int32) (x2 : Int32) (x3 : Int32) (x4 : Int32) (I : am_I) (J : am_J)  (h : am_Ob (fun n => (am_ix x1 12).bind fun q1 => am_exec (am_XX L xs) n d 50 6 [some (.ref 9), some (.int x1), some (.int x2), some (.int x3), some (.int x4), none] [(am_rf (am_tL.getD q1 none))] am_lay I J) P) : am_To (am_XX L xs) d 50 0 [some (.ref 9), some (.int x1), some (.int x2), some (.int x3), some (.int x4), none] [] I J P := am_start 4 h
theorem bk_50_6 {L : Nat} {xs : Nat → Int32} {d : Nat} {P : Option Value → am_I → am_J → Prop} (x1 : Int32) (x2 : Int32) (x3 : Int32) (x4 : Int32) (I : am_I) (J : am_J) (q : Nat) (hq : q < 12) (h : am_Ob (fun n => (am_exec (am_XX L xs) n d 51 0 [some (.ref (gH q)), some (.int x2), some (.int x3), none, none] [] am_lay I J).bind fun q => am_exec (am_XX L xs) n (d + 1) 50 11 [some (.ref 9), some (.int x1), some (.int x2), some (.int x3), some (.int x4), none] (q.1.toList ++ []) q.2.1 q.2.2.1 q.2.2.2) P) : am_To (am_XX L xs) (d + 1) 50 6 [some (.ref 9), some (.int x1), some (.int x2), some (.int x3), some (.int x4), none] [.ref (gH q)] I J P := by
  match q, hq, h with
  | 0, _, h => exact am_start 3 h
  | 1, _, h => exact am_start 3 h
  | 2, _, h => exact am_start 3 h
  | 3, _, h => exact am_start 3 h
  | 4, _, h => exact am_start 3 h
  | 5, _, h => exact am_start 3 h
  | 6, _, h => exact am_start 3 h
  | 7, _, h => exact am_start 3 h
  | 8, _, h => exact am_start 3 h
  | 9, _, h => exact am_start 3 h
  | 10, _, h => exact am_start 3 h
  | 11, _, h => exact am_start 3 h
  | q + 12, h0, _ => exact absurd h0 (by omega)
theorem bk_50_11 {L : Nat} {xs : Nat → Int32} {d : Nat} {P : Option Value → am_I → am_J → Prop} (x1 : Int32) (x3 : Int32) (x4 : Int32) (s0 : Int32) (I : am_I) (J : am_J)  (h : am_Ob (fun n => if s0 = (-1 : Int32) then (some ((some (.int (-1 : Int32))), am_lay, I, J)) else (am_exec (am_XX L xs) n d 50 (am_sw 85 x4 [(0, 52), (1, 59), (2, 85), (3, 72)]) [some (.ref 9), some (.int x1), none, some (.int x3), some (.int x4), some (.int s0)] [] am_lay I J)) P) : am_To (am_XX L xs) d 50 11 [some (.ref 9), some (.int x1), none, some (.int x3), some (.int x4), none] [.int s0] I J P := am_start 6 h
theorem bk_50_52 {L : Nat} {xs : Nat → Int32} {d : Nat} {P : Option Value → am_I → am_J → Prop} (x1 : Int32) (x3 : Int32) (I : am_I) (J : am_J)  (h : am_Ob (fun n => some ((some (.int (((100 : Int32) * x1) + x3))), am_lay, I, J)) P) : am_To (am_XX L xs) d 50 52 [none, some (.int x1), none, some (.int x3), none, none] [] I J P := am_start 6 h
theorem bk_50_59 {L : Nat} {xs : Nat → Int32} {d : Nat} {P : Option Value → am_I → am_J → Prop} (x1 : Int32) (x5 : Int32) (I : am_I) (J : am_J)  (h : am_Ob (fun n => (am_ix x1 12).bind fun q1 => am_exec (am_XX L xs) n d 50 65 [some (.ref 9), some (.int x1), none, none, none, some (.int x5)] [(am_rf (am_tL.getD q1 none))] am_lay I J) P) : am_To (am_XX L xs) d 50 59 [some (.ref 9), some (.int x1), none, none, none, some (.int x5)] [] I J P := am_start 4 h
theorem bk_50_72 {L : Nat} {xs : Nat → Int32} {d : Nat} {P : Option Value → am_I → am_J → Prop} (x1 : Int32) (x5 : Int32) (I : am_I) (J : am_J)  (h : am_Ob (fun n => (am_ix x1 12).bind fun q1 => am_exec (am_XX L xs) n d 50 78 [some (.ref 9), some (.int x1), none, none, none, some (.int x5)] [(am_rf (am_tL.getD q1 none))] am_lay I J) P) : am_To (am_XX L xs) d 50 72 [some (.ref 9), some (.int x1), none, none, none, some (.int x5)] [] I J P := am_start 4 h
theorem bk_50_85 {L : Nat} {xs : Nat → Int32} {d : Nat} {P : Option Value → am_I → am_J → Prop}  (I : am_I) (J : am_J)  (h : am_Ob (fun n => some ((some (.int (-1 : Int32))), am_lay, I, J)) P) : am_To (am_XX L xs) d 50 85 [none, none, none, none, none, none] [] I J P := am_start 2 h
theorem bk_50_65 {L : Nat} {xs : Nat → Int32} {d : Nat} {P : Option Value → am_I → am_J → Prop} (x5 : Int32) (I : am_I) (J : am_J) (q : Nat) (hq : q < 12) (h : am_Ob (fun n => (am_ix x5 (gN q)).bind fun q1 => some ((some (.int (I (gA2 q) q1))), am_lay, I, J)) P) : am_To (am_XX L xs) d 50 65 [none, none, none, none, none, some (.int x5)] [.ref (gH q)] I J P := by
  match q, hq, h with
  | 0, _, h => exact am_start 4 h
  | 1, _, h => exact am_start 4 h
  | 2, _, h => exact am_start 4 h
  | 3, _, h => exact am_start 4 h
  | 4, _, h => exact am_start 4 h
  | 5, _, h => exact am_start 4 h
  | 6, _, h => exact am_start 4 h
  | 7, _, h => exact am_start 4 h
  | 8, _, h => exact am_start 4 h
  | 9, _, h => exact am_start 4 h
  | 10, _, h => exact am_start 4 h
  | 11, _, h => exact am_start 4 h
  | q + 12, h0, _ => exact absurd h0 (by omega)
theorem bk_50_78 {L : Nat} {xs : Nat → Int32} {d : Nat} {P : Option Value → am_I → am_J → Prop} (x5 : Int32) (I : am_I) (J : am_J) (q : Nat) (hq : q < 12) (h : am_Ob (fun n => (am_ix x5 (gN q)).bind fun q1 => some ((some (.int (I (gA1 q) q1))), am_lay, I, J)) P) : am_To (am_XX L xs) d 50 78 [none, none, none, none, none, some (.int x5)] [.ref (gH q)] I J P := by
  match q, hq, h with
  | 0, _, h => exact am_start 4 h
  | 1, _, h => exact am_start 4 h
  | 2, _, h => exact am_start 4 h
  | 3, _, h => exact am_start 4 h
  | 4, _, h => exact am_start 4 h
  | 5, _, h => exact am_start 4 h
  | 6, _, h => exact am_start 4 h
  | 7, _, h => exact am_start 4 h
  | 8, _, h => exact am_start 4 h
  | 9, _, h => exact am_start 4 h
  | 10, _, h => exact am_start 4 h
  | 11, _, h => exact am_start 4 h
  | q + 12, h0, _ => exact absurd h0 (by omega)
theorem bk_51_0 {L : Nat} {xs : Nat → Int32} {d : Nat} {P : Option Value → am_I → am_J → Prop} (x1 : Int32) (x2 : Int32) (I : am_I) (J : am_J) (t : Nat) (ht : t < 13) (h : am_Ob (fun n => am_exec (am_XX L xs) n d 51 5 [some (.ref (gH t)), some (.int x1), some (.int x2), some (.int x2), some (.int (0 : Int32))] [] am_lay I J) P) : am_To (am_XX L xs) d 51 0 [some (.ref (gH t)), some (.int x1), some (.int x2), none, none] [] I J P := by
  match t, ht, h with
  | 0, _, h => exact am_start 4 h
  | 1, _, h => exact am_start 4 h
  | 2, _, h => exact am_start 4 h
  | 3, _, h => exact am_start 4 h
  | 4, _, h => exact am_start 4 h
  | 5, _, h => exact am_start 4 h
  | 6, _, h => exact am_start 4 h
  | 7, _, h => exact am_start 4 h
  | 8, _, h => exact am_start 4 h
  | 9, _, h => exact am_start 4 h
  | 10, _, h => exact am_start 4 h
  | 11, _, h => exact am_start 4 h
  | 12, _, h => exact am_start 4 h
  | t + 13, h0, _ => exact absurd h0 (by omega)
theorem bk_51_5 {L : Nat} {xs : Nat → Int32} {d : Nat} {P : Option Value → am_I → am_J → Prop} (x1 : Int32) (x3 : Int32) (x4 : Int32) (I : am_I) (J : am_J) (t : Nat) (ht : t < 13) (h : am_Ob (fun n => if (I (gH t) 3) ≤ x4 then (some ((some (.int (-1 : Int32))), am_lay, I, J)) else ((am_ix x4 (gN t)).bind fun q1 => if (I (gA0 t) q1) = x1 then (if x3 = 0 then (some ((some (.int x4)), am_lay, I, J)) else (am_exec (am_XX L xs) n d 51 5 [some (.ref (gH t)), some (.int x1), none, some (.int (x3 + (-1 : Int32))), some (.int (x4 + (1 : Int32)))] [] am_lay I J)) else (am_exec (am_XX L xs) (n + 3) d 51 5 [some (.ref (gH t)), some (.int x1), none, some (.int x3), some (.int (x4 + (1 : Int32)))] [] am_lay I J))) P) : am_To (am_XX L xs) d 51 5 [some (.ref (gH t)), some (.int x1), none, some (.int x3), some (.int x4)] [] I J P := by
  match t, ht, h with
  | 0, _, h => exact am_start 15 h
  | 1, _, h => exact am_start 15 h
  | 2, _, h => exact am_start 15 h
  | 3, _, h => exact am_start 15 h
  | 4, _, h => exact am_start 15 h
  | 5, _, h => exact am_start 15 h
  | 6, _, h => exact am_start 15 h
  | 7, _, h => exact am_start 15 h
  | 8, _, h => exact am_start 15 h
  | 9, _, h => exact am_start 15 h
  | 10, _, h => exact am_start 15 h
  | 11, _, h => exact am_start 15 h
  | 12, _, h => exact am_start 15 h
  | t + 13, h0, _ => exact absurd h0 (by omega)
theorem bk_52_0 {L : Nat} {xs : Nat → Int32} {d : Nat} {P : Option Value → am_I → am_J → Prop} (x1 : Int32) (x2 : Int32) (I : am_I) (J : am_J)  (h : am_Ob (fun n => if x1 = (-1 : Int32) then (some ((some (.int (-1 : Int32))), am_lay, I, J)) else (am_exec (am_XX L xs) n d 52 (am_sw 56 x2 [(2, 36), (3, 46)]) [some (.ref 9), some (.int x1), some (.int x2)] [] am_lay I J)) P) : am_To (am_XX L xs) d 52 0 [some (.ref 9), some (.int x1), some (.int x2)] [] I J P := am_start 5 h
theorem bk_52_36 {L : Nat} {xs : Nat → Int32} {d : Nat} {P : Option Value → am_I → am_J → Prop} (x1 : Int32) (I : am_I) (J : am_J)  (h : am_Ob (fun n => (am_ix x1 60).bind fun q1 => some ((some (.int (I 63 q1))), am_lay, I, J)) P) : am_To (am_XX L xs) d 52 36 [some (.ref 9), some (.int x1), none] [] I J P := am_start 6 h
theorem bk_52_46 {L : Nat} {xs : Nat → Int32} {d : Nat} {P : Option Value → am_I → am_J → Prop} (x1 : Int32) (I : am_I) (J : am_J)  (h : am_Ob (fun n => (am_ix x1 60).bind fun q1 => some ((some (.int (I 62 q1))), am_lay, I, J)) P) : am_To (am_XX L xs) d 52 46 [some (.ref 9), some (.int x1), none] [] I J P := am_start 6 h
theorem bk_52_56 {L : Nat} {xs : Nat → Int32} {d : Nat} {P : Option Value → am_I → am_J → Prop}  (I : am_I) (J : am_J)  (h : am_Ob (fun n => some ((some (.int (-1 : Int32))), am_lay, I, J)) P) : am_To (am_XX L xs) d 52 56 [none, none, none] [] I J P := am_start 2 h
theorem bk_53_0 {L : Nat} {xs : Nat → Int32} {d : Nat} {P : Option Value → am_I → am_J → Prop} (x1 : Int32) (I : am_I) (J : am_J)  (h : am_Ob (fun n => (am_exec (am_XX L xs) n d 38 0 [some (.ref 3), some (.int x1)] [] am_lay I J).bind fun q => am_exec (am_XX L xs) n (d + 1) 53 8 [some (.ref 0), some (.int x1)] (q.1.toList ++ []) q.2.1 q.2.2.1 q.2.2.2) P) : am_To (am_XX L xs) (d + 1) 53 0 [some (.ref 0), some (.int x1)] [] I J P := am_start 4 h
theorem bk_53_8 {L : Nat} {xs : Nat → Int32} {d : Nat} {P : Option Value → am_I → am_J → Prop} (x1 : Int32) (s0 : Int32) (I : am_I) (J : am_J)  (h : am_Ob (fun n => if s0 = 0 then (some ((some (.int (-1 : Int32))), am_lay, I, J)) else ((am_exec (am_XX L xs) n d 54 0 [some (.ref 0)] [] am_lay I J).bind fun q => am_exec (am_XX L xs) n (d + 1) 53 15 [some (.ref 0), some (.int x1)] (q.1.toList ++ []) q.2.1 q.2.2.1 q.2.2.2)) P) : am_To (am_XX L xs) (d + 1) 53 8 [some (.ref 0), some (.int x1)] [.int s0] I J P := am_start 3 h
theorem bk_53_15 {L : Nat} {xs : Nat → Int32} {d : Nat} {P : Option Value → am_I → am_J → Prop} (x1 : Int32) (I : am_I) (J : am_J)  (h : am_Ob (fun n => (am_ix x1 24).bind fun q1 => some ((some (.int (I 69 q1))), am_lay, I, J)) P) : am_To (am_XX L xs) d 53 15 [none, some (.int x1)] [.ref 66] I J P := am_start 5 h
theorem bk_54_0 {L : Nat} {xs : Nat → Int32} {d : Nat} {P : Option Value → am_I → am_J → Prop}  (I : am_I) (J : am_J)  (h : am_Ob (fun n => if (I 0 7) = 0 then (some ((some (.ref 66)), am_lay, I, J)) else ((am_exec (am_XX L xs) n d 55 0 [some (.ref 66), some (.ref 64), none] [] am_lay I J).bind fun q => am_exec (am_XX L xs) n (d + 1) 54 21 [some (.ref 0)] (q.1.toList ++ []) q.2.1 q.2.2.1 q.2.2.2)) P) : am_To (am_XX L xs) (d + 1) 54 0 [some (.ref 0)] [] I J P := am_start 9 h
theorem bk_54_21 {L : Nat} {xs : Nat → Int32} {d : Nat} {P : Option Value → am_I → am_J → Prop}  (I : am_I) (J : am_J)  (h : am_Ob (fun n => some ((some (.ref 66)), am_lay, (am_up I 0 7 (0 : Int32)), J)) P) : am_To (am_XX L xs) d 54 21 [some (.ref 0)] [] I J P := am_start 6 h
theorem bk_55_0 {L : Nat} {xs : Nat → Int32} {d : Nat} {P : Option Value → am_I → am_J → Prop}  (I : am_I) (J : am_J)  (h : am_Ob (fun n => (am_exec (am_XX L xs) n d 56 0 [some (.ref 66)] [] am_lay I J).bind fun q => am_exec (am_XX L xs) n (d + 1) 55 4 [some (.ref 66), some (.ref 64), none] (q.1.toList ++ []) q.2.1 q.2.2.1 q.2.2.2) P) : am_To (am_XX L xs) (d + 1) 55 0 [some (.ref 66), some (.ref 64), none] [] I J P := am_start 2 h
theorem bk_55_4 {L : Nat} {xs : Nat → Int32} {d : Nat} {P : Option Value → am_I → am_J → Prop}  (I : am_I) (J : am_J)  (h : am_Ob (fun n => (am_exec (am_XX L xs) n d 59 0 [some (.ref 66), some (.ref 64), none, none] [] am_lay I J).bind fun q => am_exec (am_XX L xs) n (d + 1) 55 9 [some (.ref 66), some (.ref 64), none] (q.1.toList ++ []) q.2.1 q.2.2.1 q.2.2.2) P) : am_To (am_XX L xs) (d + 1) 55 4 [some (.ref 66), some (.ref 64), none] [] I J P := am_start 3 h
theorem bk_55_9 {L : Nat} {xs : Nat → Int32} {d : Nat} {P : Option Value → am_I → am_J → Prop}  (I : am_I) (J : am_J)  (h : am_Ob (fun n => am_exec (am_XX L xs) n d 55 11 [some (.ref 66), some (.ref 64), some (.int (0 : Int32))] [] am_lay I J) P) : am_To (am_XX L xs) d 55 9 [some (.ref 66), some (.ref 64), none] [] I J P := am_start 2 h
theorem bk_55_11 {L : Nat} {xs : Nat → Int32} {d : Nat} {P : Option Value → am_I → am_J → Prop} (x2 : Int32) (I : am_I) (J : am_J)  (h : am_Ob (fun n => if (I 66 5) ≤ x2 then (am_exec (am_XX L xs) (n + 10) (d + 1) 55 45 [some (.ref 66), some (.ref 64), some (.int (0 : Int32))] [] am_lay I J) else ((am_ix x2 576).bind fun q1 => (am_ix x2 576).bind fun q2 => (am_ix (I 72 q2) 1728).bind fun q3 => (am_exec (am_XX L xs) n d 60 0 [some (.ref 66), some (.int (I 72 q1)), some (.int (I 64 q3)), none, none] [] am_lay I J).bind fun q => am_exec (am_XX L xs) n (d + 1) 55 37 [some (.ref 66), some (.ref 64), some (.int x2)] (q.1.toList ++ []) q.2.1 q.2.2.1 q.2.2.2)) P) : am_To (am_XX L xs) (d + 1) 55 11 [some (.ref 66), some (.ref 64), some (.int x2)] [] I J P := am_start 16 h
theorem bk_55_45 {L : Nat} {xs : Nat → Int32} {d : Nat} {P : Option Value → am_I → am_J → Prop} (x2 : Int32) (I : am_I) (J : am_J)  (h : am_Ob (fun n => if (24 : Int32) ≤ x2 then (some (none, am_lay, I, J)) else ((am_exec (am_XX L xs) n d 65 0 [some (.ref 66), some (.int x2), some (.ref 64), none] [] am_lay I J).bind fun q => am_exec (am_XX L xs) n (d + 1) 55 57 [some (.ref 66), some (.ref 64), some (.int x2)] (q.1.toList ++ []) q.2.1 q.2.2.1 q.2.2.2)) P) : am_To (am_XX L xs) (d + 1) 55 45 [some (.ref 66), some (.ref 64), some (.int x2)] [] I J P := am_start 7 h
theorem bk_55_37 {L : Nat} {xs : Nat → Int32} {d : Nat} {P : Option Value → am_I → am_J → Prop} (x2 : Int32) (I : am_I) (J : am_J)  (h : am_Ob (fun n => am_exec (am_XX L xs) n d 55 11 [some (.ref 66), some (.ref 64), some (.int (x2 + (1 : Int32)))] [] am_lay I J) P) : am_To (am_XX L xs) d 55 37 [some (.ref 66), some (.ref 64), some (.int x2)] [] I J P := am_start 2 h
theorem bk_55_57 {L : Nat} {xs : Nat → Int32} {d : Nat} {P : Option Value → am_I → am_J → Prop} (x2 : Int32) (I : am_I) (J : am_J)  (h : am_Ob (fun n => am_exec (am_XX L xs) n d 55 45 [some (.ref 66), some (.ref 64), some (.int (x2 + (1 : Int32)))] [] am_lay I J) P) : am_To (am_XX L xs) d 55 57 [some (.ref 66), some (.ref 64), some (.int x2)] [] I J P := am_start 2 h
theorem bk_56_0 {L : Nat} {xs : Nat → Int32} {d : Nat} {P : Option Value → am_I → am_J → Prop}  (I : am_I) (J : am_J)  (h : am_Ob (fun n => (am_exec (am_XX L xs) n d 57 0 [some (.ref 67)] [] am_lay I J).bind fun q => am_exec (am_XX L xs) n (d + 1) 56 7 [some (.ref 66)] (q.1.toList ++ []) q.2.1 q.2.2.1 q.2.2.2) P) : am_To (am_XX L xs) (d + 1) 56 0 [some (.ref 66)] [] I J P := am_start 3 h
theorem bk_56_7 {L : Nat} {xs : Nat → Int32} {d : Nat} {P : Option Value → am_I → am_J → Prop}  (I : am_I) (J : am_J)  (h : am_Ob (fun n => (am_exec (am_XX L xs) n d 58 0 [some (.ref 69), some (.int (-1 : Int32)), none, none] [] am_lay I J).bind fun q => am_exec (am_XX L xs) n (d + 1) 56 15 [some (.ref 66)] (q.1.toList ++ []) q.2.1 q.2.2.1 q.2.2.2) P) : am_To (am_XX L xs) (d + 1) 56 7 [some (.ref 66)] [] I J P := am_start 4 h
theorem bk_56_15 {L : Nat} {xs : Nat → Int32} {d : Nat} {P : Option Value → am_I → am_J → Prop}  (I : am_I) (J : am_J)  (h : am_Ob (fun n => (am_exec (am_XX L xs) n d 58 0 [some (.ref 70), some (.int (1 : Int32)), none, none] [] am_lay I J).bind fun q => am_exec (am_XX L xs) n (d + 1) 56 23 [some (.ref 66)] (q.1.toList ++ []) q.2.1 q.2.2.1 q.2.2.2) P) : am_To (am_XX L xs) (d + 1) 56 15 [some (.ref 66)] [] I J P := am_start 4 h
theorem bk_56_23 {L : Nat} {xs : Nat → Int32} {d : Nat} {P : Option Value → am_I → am_J → Prop}  (I : am_I) (J : am_J)  (h : am_Ob (fun n => (am_exec (am_XX L xs) n d 58 0 [some (.ref 71), some (.int (0 : Int32)), none, none] [] am_lay I J).bind fun q => am_exec (am_XX L xs) n (d + 1) 56 31 [some (.ref 66)] (q.1.toList ++ []) q.2.1 q.2.2.1 q.2.2.2) P) : am_To (am_XX L xs) (d + 1) 56 23 [some (.ref 66)] [] I J P := am_start 4 h
theorem bk_56_31 {L : Nat} {xs : Nat → Int32} {d : Nat} {P : Option Value → am_I → am_J → Prop}  (I : am_I) (J : am_J)  (h : am_Ob (fun n => some (none, am_lay, (am_up (am_up (am_up I 66 5 (0 : Int32)) 66 6 (0 : Int32)) 66 7 (0 : Int32)), J)) P) : am_To (am_XX L xs) d 56 31 [some (.ref 66)] [] I J P := am_start 10 h
theorem bk_57_0 {L : Nat} {xs : Nat → Int32} {d : Nat} {P : Option Value → am_I → am_J → Prop}  (I : am_I) (J : am_J) (t : Nat) (ht : t < 8) (h : am_Ob (fun n => (am_exec (am_XX L xs) n d 58 0 [some (.ref (fA t)), some (.int (0 : Int32)), none, none] [] am_lay I J).bind fun q => am_exec (am_XX L xs) n (d + 1) 57 8 [some (.ref (fH t))] (q.1.toList ++ []) q.2.1 q.2.2.1 q.2.2.2) P) : am_To (am_XX L xs) (d + 1) 57 0 [some (.ref (fH t))] [] I J P := by
  match t, ht, h with
  | 0, _, h => exact am_start 4 h
  | 1, _, h => exact am_start 4 h
  | 2, _, h => exact am_start 4 h
  | 3, _, h => exact am_start 4 h
  | 4, _, h => exact am_start 4 h
  | 5, _, h => exact am_start 4 h
  | 6, _, h => exact am_start 4 h
  | 7, _, h => exact am_start 4 h
  | t + 8, h0, _ => exact absurd h0 (by omega)
theorem bk_57_8 {L : Nat} {xs : Nat → Int32} {d : Nat} {P : Option Value → am_I → am_J → Prop}  (I : am_I) (J : am_J)  (h : am_Ob (fun n => some (none, am_lay, I, J)) P) : am_To (am_XX L xs) d 57 8 [none] [] I J P := am_start 1 h
theorem bk_58_0 {L : Nat} {xs : Nat → Int32} {d : Nat} {P : Option Value → am_I → am_J → Prop} (x1 : Int32) (I : am_I) (J : am_J) (t : Nat) (ht : t < 6) (h : am_Ob (fun n => am_exec (am_XX L xs) n d 58 5 [some (.ref (vH t)), some (.int x1), some (.int (0 : Int32)), some (.int (Int32.ofNat (vN t)))] [] am_lay I J) P) : am_To (am_XX L xs) d 58 0 [some (.ref (vH t)), some (.int x1), none, none] [] I J P := by
  match t, ht, h with
  | 0, _, h => exact am_start 5 h
  | 1, _, h => exact am_start 5 h
  | 2, _, h => exact am_start 5 h
  | 3, _, h => exact am_start 5 h
  | 4, _, h => exact am_start 5 h
  | 5, _, h => exact am_start 5 h
  | t + 6, h0, _ => exact absurd h0 (by omega)
theorem bk_58_5 {L : Nat} {xs : Nat → Int32} {d : Nat} {P : Option Value → am_I → am_J → Prop} (x1 : Int32) (x2 : Int32) (x3 : Int32) (I : am_I) (J : am_J) (t : Nat) (ht : t < 6) (h : am_Ob (fun n => if x3 ≤ x2 then (some (none, am_lay, I, J)) else ((am_ix x2 (vN t)).bind fun q1 => am_exec (am_XX L xs) n d 58 5 [some (.ref (vH t)), some (.int x1), some (.int (x2 + (1 : Int32))), some (.int x3)] [] am_lay (am_up I (vH t) q1 x1) J)) P) : am_To (am_XX L xs) d 58 5 [some (.ref (vH t)), some (.int x1), some (.int x2), some (.int x3)] [] I J P := by
  match t, ht, h with
  | 0, _, h => exact am_start 9 h
  | 1, _, h => exact am_start 9 h
  | 2, _, h => exact am_start 9 h
  | 3, _, h => exact am_start 9 h
  | 4, _, h => exact am_start 9 h
  | 5, _, h => exact am_start 9 h
  | t + 6, h0, _ => exact absurd h0 (by omega)
theorem bk_59_0 {L : Nat} {xs : Nat → Int32} {d : Nat} {P : Option Value → am_I → am_J → Prop}  (I : am_I) (J : am_J)  (h : am_Ob (fun n => am_exec (am_XX L xs) n d 59 2 [some (.ref 66), some (.ref 64), some (.int (0 : Int32)), none] [] am_lay I J) P) : am_To (am_XX L xs) d 59 0 [some (.ref 66), some (.ref 64), none, none] [] I J P := am_start 2 h
theorem bk_59_2 {L : Nat} {xs : Nat → Int32} {d : Nat} {P : Option Value → am_I → am_J → Prop} (x2 : Int32) (I : am_I) (J : am_J)  (h : am_Ob (fun n => if (576 : Int32) ≤ x2 then (some (none, am_lay, I, J)) else ((am_ix x2 1728).bind fun q1 => if (I 64 q1) ≤ 0 then (am_exec (am_XX L xs) (n + 1) d 59 2 [some (.ref 66), some (.ref 64), some (.int (x2 + (1 : Int32))), none] [] am_lay I J) else (am_exec (am_XX L xs) n d 59 20 [some (.ref 66), some (.ref 64), some (.int x2), some (.int (I 66 5))] [] am_lay I J))) P) : am_To (am_XX L xs) d 59 2 [some (.ref 66), some (.ref 64), some (.int x2), none] [] I J P := am_start 10 h
theorem bk_59_20 {L : Nat} {xs : Nat → Int32} {d : Nat} {P : Option Value → am_I → am_J → Prop} (x2 : Int32) (x3 : Int32) (I : am_I) (J : am_J)  (h : am_Ob (fun n => if x3 ≤ 0 then (am_exec (am_XX L xs) (n + 24) d 59 60 [some (.ref 66), some (.ref 64), some (.int x2), some (.int x3)] [] am_lay I J) else ((am_ix (x3 - (1 : Int32)) 576).bind fun q1 => (am_ix (I 72 q1) 1728).bind fun q2 => (am_ix x2 1728).bind fun q3 => if (I 64 q3) ≤ (I 64 q2) then (am_exec (am_XX L xs) (n + 12) d 59 60 [some (.ref 66), some (.ref 64), some (.int x2), some (.int x3)] [] am_lay I J) else ((am_ix (x3 - (1 : Int32)) 576).bind fun q4 => (am_ix x3 576).bind fun q5 => am_exec (am_XX L xs) n d 59 20 [some (.ref 66), some (.ref 64), some (.int x2), some (.int (x3 + (-1 : Int32)))] [] am_lay (am_up I 72 q5 (I 72 q4)) J))) P) : am_To (am_XX L xs) d 59 20 [some (.ref 66), some (.ref 64), some (.int x2), some (.int x3)] [] I J P := am_start 26 h
theorem bk_59_60 {L : Nat} {xs : Nat → Int32} {d : Nat} {P : Option Value → am_I → am_J → Prop} (x2 : Int32) (x3 : Int32) (I : am_I) (J : am_J)  (h : am_Ob (fun n => (am_ix x3 576).bind fun q1 => am_exec (am_XX L xs) n d 59 2 [some (.ref 66), some (.ref 64), some (.int (x2 + (1 : Int32))), some (.int x3)] [] am_lay (am_up (am_up I 72 q1 x2) 66 5 (((am_up I 72 q1 x2) 66 5) + (1 : Int32))) J) P) : am_To (am_XX L xs) d 59 60 [some (.ref 66), some (.ref 64), some (.int x2), some (.int x3)] [] I J P := am_start 13 h
theorem bk_60_0 {L : Nat} {xs : Nat → Int32} {d : Nat} {P : Option Value → am_I → am_J → Prop} (x1 : Int32) (x2 : Int32) (I : am_I) (J : am_J)  (h : am_Ob (fun n => (am_ix (x1 - x1 / (24 : Int32) * (24 : Int32)) 24).bind fun q1 => if (I 69 q1) = (-1 : Int32) then ((am_exec (am_XX L xs) n d 61 0 [some (.ref 67), some (.int (x1 / (24 : Int32))), some (.int (x1 - x1 / (24 : Int32) * (24 : Int32))), none, none] [] am_lay I J).bind fun q => am_exec (am_XX L xs) n (d + 1) 60 37 [some (.ref 66), some (.int x1), some (.int x2), some (.int (x1 / (24 : Int32))), some (.int (x1 - x1 / (24 : Int32) * (24 : Int32)))] (q.1.toList ++ [.int x1, .ref 70]) q.2.1 q.2.2.1 q.2.2.2) else (am_exec (am_XX L xs) (n + 4) (d + 1) 60 41 [some (.ref 66), some (.int x1), some (.int x2), some (.int (x1 / (24 : Int32))), some (.int (x1 - x1 / (24 : Int32) * (24 : Int32)))] [.int (2 : Int32), .int x1, .ref 70] am_lay I J)) P) : am_To (am_XX L xs) (d + 1) 60 0 [some (.ref 66), some (.int x1), some (.int x2), none, none] [] I J P := am_start 22 h
theorem bk_60_41 {L : Nat} {xs : Nat → Int32} {d : Nat} {P : Option Value → am_I → am_J → Prop} (x1 : Int32) (x2 : Int32) (x3 : Int32) (x4 : Int32) (s1 : Int32) (s2 : Int32) (I : am_I) (J : am_J)  (h : am_Ob (fun n => (am_ix s1 576).bind fun q1 => (am_ix x1 576).bind fun q2 => if ((am_up I 70 q1 s2) 70 q2) = 0 then ((am_ix x4 24).bind fun q3 => (am_exec (am_XX L xs) n d 64 0 [some (.ref 67), some (.int x3), some (.int x4), none, none] [] am_lay (am_up (am_up I 70 q1 s2) 69 q3 x3) J).bind fun q => am_exec (am_XX L xs) n (d + 1) 60 69 [some (.ref 66), some (.int x1), some (.int x2), some (.int x3), some (.int x4)] (q.1.toList ++ []) q.2.1 q.2.2.1 q.2.2.2) else (some (none, am_lay, (am_up I 70 q1 s2), J))) P) : am_To (am_XX L xs) (d + 1) 60 41 [some (.ref 66), some (.int x1), some (.int x2), some (.int x3), some (.int x4)] [.int s2, .int s1, .ref 70] I J P := am_start 16 h
theorem bk_60_37 {L : Nat} {xs : Nat → Int32} {d : Nat} {P : Option Value → am_I → am_J → Prop} (x1 : Int32) (x2 : Int32) (x3 : Int32) (x4 : Int32) (s1 : Int32) (s2 : Int32) (I : am_I) (J : am_J)  (h : am_Ob (fun n => am_exec (am_XX L xs) n d 60 41 [some (.ref 66), some (.int x1), some (.int x2), some (.int x3), some (.int x4)] [.int s2, .int s1, .ref 70] am_lay I J) P) : am_To (am_XX L xs) d 60 37 [some (.ref 66), some (.int x1), some (.int x2), some (.int x3), some (.int x4)] [.int s2, .int s1, .ref 70] I J P := am_start 1 h
theorem bk_60_69 {L : Nat} {xs : Nat → Int32} {d : Nat} {P : Option Value → am_I → am_J → Prop} (x2 : Int32) (I : am_I) (J : am_J)  (h : am_Ob (fun n => some (none, am_lay, (am_up (am_up I 66 6 ((I 66 6) + (1 : Int32))) 66 7 (((am_up I 66 6 ((I 66 6) + (1 : Int32))) 66 7) + x2)), J)) P) : am_To (am_XX L xs) d 60 69 [some (.ref 66), none, some (.int x2), none, none] [] I J P := am_start 13 h
