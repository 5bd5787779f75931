set_option maxRecDepth 100000
set_option maxHeartbeats 4000000
theorem bk_10_0 {L : Nat} {xs : Nat → Int32} {d : Nat} {P : Option Value → am_I → am_J → Prop} (x1 : Int32) (x2 : Int32) (x3 : Int32) (x4 : Int32) (x5 : Int32) (I : am_I) (J : am_J)  (h : am_Ob (fun n => if ((I 1 1) + (20 : Int32)) ≤ (200 : Int32) then ((am_exec (am_XX L xs) n d 11 0 [some (.ref 1), some (.int x1), none] [] am_lay I J).bind fun q => am_exec (am_XX L xs) n (d + 1) 10 26 [some (.ref 0), some (.int x1), some (.int x2), some (.int x3), some (.int x4), some (.int x5)] (q.1.toList ++ []) q.2.1 q.2.2.1 q.2.2.2) else (some ((some (.int (-1 : Int32))), am_lay, I, J))) P) : am_To (am_XX L xs) (d + 1) 10 0 [some (.ref 0), some (.int x1), some (.int x2), some (.int x3), some (.int x4), some (.int x5)] [] I J P := am_start 11 h
theorem bk_10_26 {L : Nat} {xs : Nat → Int32} {d : Nat} {P : Option Value → am_I → am_J → Prop} (x2 : Int32) (x3 : Int32) (x4 : Int32) (x5 : Int32) (I : am_I) (J : am_J)  (h : am_Ob (fun n => (am_exec (am_XX L xs) n d 11 0 [some (.ref 1), some (.int x2), none] [] am_lay I J).bind fun q => am_exec (am_XX L xs) n (d + 1) 10 34 [some (.ref 0), none, some (.int x2), some (.int x3), some (.int x4), some (.int x5)] (q.1.toList ++ []) q.2.1 q.2.2.1 q.2.2.2) P) : am_To (am_XX L xs) (d + 1) 10 26 [some (.ref 0), none, some (.int x2), some (.int x3), some (.int x4), some (.int x5)] [] I J P := am_start 4 h
theorem bk_10_34 {L : Nat} {xs : Nat → Int32} {d : Nat} {P : Option Value → am_I → am_J → Prop} (x3 : Int32) (x4 : Int32) (x5 : Int32) (I : am_I) (J : am_J)  (h : am_Ob (fun n => (am_exec (am_XX L xs) n d 11 0 [some (.ref 1), some (.int x3), none] [] am_lay I J).bind fun q => am_exec (am_XX L xs) n (d + 1) 10 42 [some (.ref 0), none, none, some (.int x3), some (.int x4), some (.int x5)] (q.1.toList ++ []) q.2.1 q.2.2.1 q.2.2.2) P) : am_To (am_XX L xs) (d + 1) 10 34 [some (.ref 0), none, none, some (.int x3), some (.int x4), some (.int x5)] [] I J P := am_start 4 h
theorem bk_10_42 {L : Nat} {xs : Nat → Int32} {d : Nat} {P : Option Value → am_I → am_J → Prop} (x4 : Int32) (x5 : Int32) (I : am_I) (J : am_J)  (h : am_Ob (fun n => (am_exec (am_XX L xs) n d 11 0 [some (.ref 1), some (.int x4), none] [] am_lay I J).bind fun q => am_exec (am_XX L xs) n (d + 1) 10 51 [some (.ref 0), none, none, none, some (.int x4), some (.int x5)] (q.1.toList ++ []) q.2.1 q.2.2.1 q.2.2.2) P) : am_To (am_XX L xs) (d + 1) 10 42 [some (.ref 0), none, none, none, some (.int x4), some (.int x5)] [] I J P := am_start 4 h
theorem bk_10_51 {L : Nat} {xs : Nat → Int32} {d : Nat} {P : Option Value → am_I → am_J → Prop} (x5 : Int32) (I : am_I) (J : am_J)  (h : am_Ob (fun n => (am_exec (am_XX L xs) n d 11 0 [some (.ref 1), some (.int x5), none] [] am_lay I J).bind fun q => am_exec (am_XX L xs) n (d + 1) 10 60 [some (.ref 0), none, none, none, none, some (.int x5)] (q.1.toList ++ []) q.2.1 q.2.2.1 q.2.2.2) P) : am_To (am_XX L xs) (d + 1) 10 51 [some (.ref 0), none, none, none, none, some (.int x5)] [] I J P := am_start 4 h
theorem bk_10_60 {L : Nat} {xs : Nat → Int32} {d : Nat} {P : Option Value → am_I → am_J → Prop}  (I : am_I) (J : am_J)  (h : am_Ob (fun n => some ((some (.int (I 1 1))), am_lay, I, J)) P) : am_To (am_XX L xs) d 10 60 [some (.ref 0), none, none, none, none, none] [] I J P := am_start 4 h
theorem bk_11_0 {L : Nat} {xs : Nat → Int32} {d : Nat} {P : Option Value → am_I → am_J → Prop} (x1 : Int32) (I : am_I) (J : am_J)  (h : am_Ob (fun n => am_exec (am_XX L xs) n d 11 3 [some (.ref 1), some (.int x1), some (.int (24 : Int32))] [] am_lay I J) P) : am_To (am_XX L xs) d 11 0 [some (.ref 1), some (.int x1), none] [] I J P := am_start 2 h
theorem bk_11_3 {L : Nat} {xs : Nat → Int32} {d : Nat} {P : Option Value → am_I → am_J → Prop} (x1 : Int32) (x2 : Int32) (I : am_I) (J : am_J)  (h : am_Ob (fun n => if x2 < 0 then (some (none, am_lay, I, J)) else (if (200 : Int32) ≤ (I 1 1) then (some (none, am_lay, I, J)) else ((am_ix (I 1 1) 200).bind fun q1 => am_exec (am_XX L xs) n d 11 3 [some (.ref 1), some (.int x1), some (.int (x2 + (-8 : Int32)))] [] am_lay (am_up (am_up I 2 q1 (((x1.toUInt32 >>> (x2.toUInt32 &&& Int32.toUInt32 31)).toInt32) &&& (255 : Int32))) 1 1 (((am_up I 2 q1 (((x1.toUInt32 >>> (x2.toUInt32 &&& Int32.toUInt32 31)).toInt32) &&& (255 : Int32))) 1 1) + (1 : Int32))) J))) P) : am_To (am_XX L xs) d 11 3 [some (.ref 1), some (.int x1), some (.int x2)] [] I J P := am_start 24 h
theorem bk_12_0 {L : Nat} {xs : Nat → Int32} {d : Nat} {P : Option Value → am_I → am_J → Prop} (x1 : Int32) (I : am_I) (J : am_J)  (h : am_Ob (fun n => (am_exec (am_XX L xs) n d 13 0 [some (.ref 9), none] [] am_lay I J).bind fun q => am_exec (am_XX L xs) n (d + 1) 12 7 [some (.ref 0), some (.int x1), none] (q.1.toList ++ []) q.2.1 q.2.2.1 q.2.2.2) P) : am_To (am_XX L xs) (d + 1) 12 0 [some (.ref 0), some (.int x1), none] [] I J P := am_start 3 h
theorem bk_12_7 {L : Nat} {xs : Nat → Int32} {d : Nat} {P : Option Value → am_I → am_J → Prop} (x1 : Int32) (s0 : Int32) (I : am_I) (J : am_J)  (h : am_Ob (fun n => (am_exec (am_XX L xs) n d 14 0 [some (.ref 1), some (.int x1)] [] am_lay I J).bind fun q => am_exec (am_XX L xs) n (d + 1) 12 16 [some (.ref 0), some (.int x1), some (.int s0)] (q.1.toList ++ []) q.2.1 q.2.2.1 q.2.2.2) P) : am_To (am_XX L xs) (d + 1) 12 7 [some (.ref 0), some (.int x1), none] [.int s0] I J P := am_start 5 h
theorem bk_12_16 {L : Nat} {xs : Nat → Int32} {d : Nat} {P : Option Value → am_I → am_J → Prop} (x1 : Int32) (x2 : Int32) (s0 : Int32) (I : am_I) (J : am_J)  (h : am_Ob (fun n => if s0 = 0 then (some ((some (.int (-1 : Int32))), am_lay, I, J)) else (if x2 = (-1 : Int32) then (some ((some (.int (-1 : Int32))), am_lay, I, J)) else ((am_exec (am_XX L xs) n d 15 0 [some (.ref 5), some (.ref 1), some (.int x1), none, none, none, none] [] am_lay I J).bind fun q => am_exec (am_XX L xs) n (d + 1) 12 38 [some (.ref 0), some (.int x1), some (.int x2)] (q.1.toList ++ []) q.2.1 q.2.2.1 q.2.2.2))) P) : am_To (am_XX L xs) (d + 1) 12 16 [some (.ref 0), some (.int x1), some (.int x2)] [.int s0] I J P := am_start 10 h
theorem bk_12_38 {L : Nat} {xs : Nat → Int32} {d : Nat} {P : Option Value → am_I → am_J → Prop} (x2 : Int32) (I : am_I) (J : am_J)  (h : am_Ob (fun n => (am_ix x2 12).bind fun q1 => am_exec (am_XX L xs) n d 12 63 [some (.ref 0), none, some (.int x2)] [(am_rf (am_tL.getD q1 none)), .ref 3, .ref 5] am_lay (am_up I 1 1 (0 : Int32)) J) P) : am_To (am_XX L xs) d 12 38 [some (.ref 0), none, some (.int x2)] [] I J P := am_start 13 h
theorem bk_12_63 {L : Nat} {xs : Nat → Int32} {d : Nat} {P : Option Value → am_I → am_J → Prop} (x2 : Int32) (I : am_I) (J : am_J) (q : Nat) (hq : q < 12) (h : am_Ob (fun n => (am_exec (am_XX L xs) n d 21 0 [some (.ref 5), some (.ref 3), some (.ref (gH q)), none, none, none] [] am_lay I J).bind fun q => am_exec (am_XX L xs) n (d + 1) 12 66 [some (.ref 0), none, some (.int x2)] (q.1.toList ++ []) q.2.1 q.2.2.1 q.2.2.2) P) : am_To (am_XX L xs) (d + 1) 12 63 [some (.ref 0), none, some (.int x2)] [.ref (gH q), .ref 3, .ref 5] I J P := by
  match q, hq, h with
  | 0, _, h => exact am_start 1 h
  | 1, _, h => exact am_start 1 h
  | 2, _, h => exact am_start 1 h
  | 3, _, h => exact am_start 1 h
  | 4, _, h => exact am_start 1 h
  | 5, _, h => exact am_start 1 h
  | 6, _, h => exact am_start 1 h
  | 7, _, h => exact am_start 1 h
  | 8, _, h => exact am_start 1 h
  | 9, _, h => exact am_start 1 h
  | 10, _, h => exact am_start 1 h
  | 11, _, h => exact am_start 1 h
  | q + 12, h0, _ => exact absurd h0 (by omega)
theorem bk_12_66 {L : Nat} {xs : Nat → Int32} {d : Nat} {P : Option Value → am_I → am_J → Prop} (x2 : Int32) (I : am_I) (J : am_J)  (h : am_Ob (fun n => (am_exec (am_XX L xs) n d 29 0 [some (.ref 9), some (.int x2)] [] am_lay I J).bind fun q => am_exec (am_XX L xs) n (d + 1) 12 74 [some (.ref 0), none, some (.int x2)] (q.1.toList ++ []) q.2.1 q.2.2.1 q.2.2.2) P) : am_To (am_XX L xs) (d + 1) 12 66 [some (.ref 0), none, some (.int x2)] [] I J P := am_start 4 h
theorem bk_12_74 {L : Nat} {xs : Nat → Int32} {d : Nat} {P : Option Value → am_I → am_J → Prop} (x2 : Int32) (I : am_I) (J : am_J)  (h : am_Ob (fun n => some ((some (.int x2)), am_lay, (am_up I 0 7 (1 : Int32)), J)) P) : am_To (am_XX L xs) d 12 74 [some (.ref 0), none, some (.int x2)] [] I J P := am_start 5 h
theorem bk_13_0 {L : Nat} {xs : Nat → Int32} {d : Nat} {P : Option Value → am_I → am_J → Prop}  (I : am_I) (J : am_J)  (h : am_Ob (fun n => am_exec (am_XX L xs) n d 13 2 [some (.ref 9), some (.int (0 : Int32))] [] am_lay I J) P) : am_To (am_XX L xs) d 13 0 [some (.ref 9), none] [] I J P := am_start 2 h
theorem bk_13_2 {L : Nat} {xs : Nat → Int32} {d : Nat} {P : Option Value → am_I → am_J → Prop} (x1 : Int32) (I : am_I) (J : am_J)  (h : am_Ob (fun n => if (12 : Int32) ≤ x1 then (some ((some (.int (-1 : Int32))), am_lay, I, J)) else ((am_ix x1 12).bind fun q1 => if (I 59 q1) = 0 then (some ((some (.int x1)), am_lay, I, J)) else (am_exec (am_XX L xs) n d 13 2 [some (.ref 9), some (.int (x1 + (1 : Int32)))] [] am_lay I J))) P) : am_To (am_XX L xs) d 13 2 [some (.ref 9), some (.int x1)] [] I J P := am_start 10 h
theorem bk_14_0 {L : Nat} {xs : Nat → Int32} {d : Nat} {P : Option Value → am_I → am_J → Prop} (x1 : Int32) (I : am_I) (J : am_J)  (h : am_Ob (fun n => if x1 < 0 then (some ((some (.int (0 : Int32))), am_lay, I, J)) else (if (I 1 1) < x1 then (some ((some (.int (0 : Int32))), am_lay, I, J)) else (some ((some (.int (1 : Int32))), am_lay, I, J)))) P) : am_To (am_XX L xs) d 14 0 [some (.ref 1), some (.int x1)] [] I J P := am_start 9 h
theorem bk_15_0 {L : Nat} {xs : Nat → Int32} {d : Nat} {P : Option Value → am_I → am_J → Prop} (x2 : Int32) (I : am_I) (J : am_J)  (h : am_Ob (fun n => am_exec (am_XX L xs) n d 15 13 [some (.ref 5), some (.ref 1), some (.int x2), some (.int (0 : Int32)), some (.int (1 : Int32)), some (.int (0 : Int32)), none] [] am_lay (am_up I 5 3 (0 : Int32)) J) P) : am_To (am_XX L xs) d 15 0 [some (.ref 5), some (.ref 1), some (.int x2), none, none, none, none] [] I J P := am_start 9 h
theorem bk_15_13 {L : Nat} {xs : Nat → Int32} {d : Nat} {P : Option Value → am_I → am_J → Prop} (x2 : Int32) (x3 : Int32) (x4 : Int32) (x5 : Int32) (I : am_I) (J : am_J)  (h : am_Ob (fun n => if x2 ≤ x5 then (some (none, am_lay, I, J)) else (if (200 : Int32) ≤ x5 then (some (none, am_lay, I, J)) else ((am_ix x5 200).bind fun q1 => (am_exec (am_XX L xs) n d 16 0 [some (.int (I 2 q1))] [] am_lay I J).bind fun q => am_exec (am_XX L xs) n (d + 1) 15 41 [some (.ref 5), some (.ref 1), some (.int x2), some (.int x3), some (.int x4), some (.int x5), some (.int (I 2 q1))] (q.1.toList ++ []) q.2.1 q.2.2.1 q.2.2.2))) P) : am_To (am_XX L xs) (d + 1) 15 13 [some (.ref 5), some (.ref 1), some (.int x2), some (.int x3), some (.int x4), some (.int x5), none] [] I J P := am_start 13 h
theorem bk_15_41 {L : Nat} {xs : Nat → Int32} {d : Nat} {P : Option Value → am_I → am_J → Prop} (x2 : Int32) (x3 : Int32) (x4 : Int32) (x5 : Int32) (x6 : Int32) (s0 : Int32) (I : am_I) (J : am_J)  (h : am_Ob (fun n => if s0 = 0 then (if x4 = 0 then ((am_exec (am_XX L xs) (n + 2) d 20 0 [some (.int x6)] [] am_lay I J).bind fun q => am_exec (am_XX L xs) (n + 2) (d + 1) 15 90 [some (.ref 5), some (.ref 1), some (.int x2), some (.int (0 : Int32)), some (.int x4), some (.int x5), some (.int x6)] (q.1.toList ++ []) q.2.1 q.2.2.1 q.2.2.2) else (am_exec (am_XX L xs) (n + 4) (d + 1) 15 93 [some (.ref 5), some (.ref 1), some (.int x2), some (.int (0 : Int32)), some (.int x4), some (.int x5), some (.int x6)] [] am_lay I J)) else (if x3 = 0 then (if x4 = 0 then (am_exec (am_XX L xs) n (d + 1) 15 61 [some (.ref 5), some (.ref 1), some (.int x2), some (.int x3), some (.int x4), some (.int x5), some (.int x6)] [.int (1 : Int32), .int x5, .ref 5] am_lay I J) else (am_exec (am_XX L xs) (n + 1) (d + 1) 15 61 [some (.ref 5), some (.ref 1), some (.int x2), some (.int x3), some (.int x4), some (.int x5), some (.int x6)] [.int (0 : Int32), .int x5, .ref 5] am_lay I J)) else (am_exec (am_XX L xs) (n + 6) (d + 1) 15 64 [some (.ref 5), some (.ref 1), some (.int x2), some (.int x3), some (.int x4), some (.int x5), some (.int x6)] [] am_lay I J))) P) : am_To (am_XX L xs) (d + 1) 15 41 [some (.ref 5), some (.ref 1), some (.int x2), some (.int x3), some (.int x4), some (.int x5), some (.int x6)] [.int s0] I J P := am_start 9 h
theorem bk_15_93 {L : Nat} {xs : Nat → Int32} {d : Nat} {P : Option Value → am_I → am_J → Prop} (x2 : Int32) (x3 : Int32) (x5 : Int32) (I : am_I) (J : am_J)  (h : am_Ob (fun n => am_exec (am_XX L xs) n d 15 13 [some (.ref 5), some (.ref 1), some (.int x2), some (.int x3), some (.int (1 : Int32)), some (.int (x5 + (1 : Int32))), none] [] am_lay I J) P) : am_To (am_XX L xs) d 15 93 [some (.ref 5), some (.ref 1), some (.int x2), some (.int x3), none, some (.int x5), none] [] I J P := am_start 5 h
theorem bk_15_90 {L : Nat} {xs : Nat → Int32} {d : Nat} {P : Option Value → am_I → am_J → Prop} (x2 : Int32) (x3 : Int32) (x5 : Int32) (s0 : Int32) (I : am_I) (J : am_J)  (h : am_Ob (fun n => if s0 = 0 then (am_exec (am_XX L xs) (n + 4) d 15 93 [some (.ref 5), some (.ref 1), some (.int x2), some (.int x3), none, some (.int x5), none] [] am_lay I J) else (am_exec (am_XX L xs) n d 15 13 [some (.ref 5), some (.ref 1), some (.int x2), some (.int x3), some (.int (0 : Int32)), some (.int (x5 + (1 : Int32))), none] [] am_lay I J)) P) : am_To (am_XX L xs) d 15 90 [some (.ref 5), some (.ref 1), some (.int x2), some (.int x3), none, some (.int x5), none] [.int s0] I J P := am_start 5 h
theorem bk_15_64 {L : Nat} {xs : Nat → Int32} {d : Nat} {P : Option Value → am_I → am_J → Prop} (x2 : Int32) (x5 : Int32) (x6 : Int32) (I : am_I) (J : am_J)  (h : am_Ob (fun n => (am_exec (am_XX L xs) n d 18 0 [some (.ref 5), some (.int x6)] [] am_lay I J).bind fun q => am_exec (am_XX L xs) n (d + 1) 15 70 [some (.ref 5), some (.ref 1), some (.int x2), none, none, some (.int x5), some (.int x6)] (q.1.toList ++ []) q.2.1 q.2.2.1 q.2.2.2) P) : am_To (am_XX L xs) (d + 1) 15 64 [some (.ref 5), some (.ref 1), some (.int x2), none, none, some (.int x5), some (.int x6)] [] I J P := am_start 3 h
theorem bk_15_61 {L : Nat} {xs : Nat → Int32} {d : Nat} {P : Option Value → am_I → am_J → Prop} (x2 : Int32) (x5 : Int32) (x6 : Int32) (s1 : Int32) (s2 : Int32) (I : am_I) (J : am_J)  (h : am_Ob (fun n => (am_exec (am_XX L xs) n d 17 0 [some (.ref 5), some (.int s1), some (.int s2)] [] am_lay I J).bind fun q => am_exec (am_XX L xs) n (d + 1) 15 64 [some (.ref 5), some (.ref 1), some (.int x2), none, none, some (.int x5), some (.int x6)] (q.1.toList ++ []) q.2.1 q.2.2.1 q.2.2.2) P) : am_To (am_XX L xs) (d + 1) 15 61 [some (.ref 5), some (.ref 1), some (.int x2), none, none, some (.int x5), some (.int x6)] [.int s2, .int s1, .ref 5] I J P := am_start 1 h
theorem bk_15_70 {L : Nat} {xs : Nat → Int32} {d : Nat} {P : Option Value → am_I → am_J → Prop} (x2 : Int32) (x5 : Int32) (I : am_I) (J : am_J)  (h : am_Ob (fun n => am_exec (am_XX L xs) n d 15 13 [some (.ref 5), some (.ref 1), some (.int x2), some (.int (1 : Int32)), some (.int (0 : Int32)), some (.int (x5 + (1 : Int32))), none] [] am_lay I J) P) : am_To (am_XX L xs) d 15 70 [some (.ref 5), some (.ref 1), some (.int x2), none, none, some (.int x5), none] [] I J P := am_start 7 h
theorem bk_16_0 {L : Nat} {xs : Nat → Int32} {d : Nat} {P : Option Value → am_I → am_J → Prop} (x0 : Int32) (I : am_I) (J : am_J)  (h : am_Ob (fun n => if x0 < (97 : Int32) then (some ((some (.int (0 : Int32))), am_lay, I, J)) else (if (122 : Int32) < x0 then (some ((some (.int (0 : Int32))), am_lay, I, J)) else (some ((some (.int (1 : Int32))), am_lay, I, J)))) P) : am_To (am_XX L xs) d 16 0 [some (.int x0)] [] I J P := am_start 9 h
theorem bk_17_0 {L : Nat} {xs : Nat → Int32} {d : Nat} {P : Option Value → am_I → am_J → Prop} (x1 : Int32) (x2 : Int32) (I : am_I) (J : am_J)  (h : am_Ob (fun n => if (100 : Int32) ≤ (I 5 3) then (some (none, am_lay, I, J)) else ((am_ix (I 5 3) 100).bind fun q1 => (am_ix (I 5 3) 100).bind fun q2 => (am_ix ((am_up I 7 q2 x1) 5 3) 100).bind fun q3 => some (none, am_lay, (am_up (am_up (am_up I 7 q2 x1) 8 q3 (vp_nar .boolean x2)) 5 3 (((am_up (am_up I 7 q2 x1) 8 q3 (vp_nar .boolean x2)) 5 3) + (1 : Int32))), (am_up J 6 q1 (0 : Int64))))) P) : am_To (am_XX L xs) d 17 0 [some (.ref 5), some (.int x1), some (.int x2)] [] I J P := am_start 29 h
theorem bk_18_0 {L : Nat} {xs : Nat → Int32} {d : Nat} {P : Option Value → am_I → am_J → Prop} (x1 : Int32) (I : am_I) (J : am_J)  (h : am_Ob (fun n => if (I 5 3) ≤ 0 then (some (none, am_lay, I, J)) else ((am_ix ((I 5 3) - (1 : Int32)) 100).bind fun q1 => (am_exec (am_XX L xs) n d 19 0 [some (.long (J 6 q1)), none, some (.int x1), none] [] am_lay I J).bind fun q => am_exec (am_XX L xs) n (d + 1) 18 32 [some (.ref 5), some (.int x1)] (q.1.toList ++ [.int ((I 5 3) - (1 : Int32)), .ref 6]) q.2.1 q.2.2.1 q.2.2.2)) P) : am_To (am_XX L xs) (d + 1) 18 0 [some (.ref 5), some (.int x1)] [] I J P := am_start 18 h
theorem bk_18_32 {L : Nat} {xs : Nat → Int32} {d : Nat} {P : Option Value → am_I → am_J → Prop} (s1 : Int32) (s2 : Int64) (I : am_I) (J : am_J)  (h : am_Ob (fun n => (am_ix s1 100).bind fun q1 => some (none, am_lay, I, (am_up J 6 q1 s2))) P) : am_To (am_XX L xs) d 18 32 [none, none] [.long s2, .int s1, .ref 6] I J P := am_start 2 h
theorem bk_19_0 {L : Nat} {xs : Nat → Int32} {d : Nat} {P : Option Value → am_I → am_J → Prop} (x0 : Int64) (x2 : Int32) (I : am_I) (J : am_J)  (h : am_Ob (fun n => if (lg_cmp ((x0.toUInt64 >>> ((56 : Int32).toInt64.toUInt64 &&& Int64.toUInt64 63)).toInt64) (0 : Int64)) = 0 then (am_exec (am_XX L xs) (n + 1) d 19 14 [some (.long x0), none, some (.int x2), none] [.int (0 : Int32)] am_lay I J) else (am_exec (am_XX L xs) n d 19 14 [some (.long x0), none, some (.int x2), none] [.int (1 : Int32)] am_lay I J)) P) : am_To (am_XX L xs) d 19 0 [some (.long x0), none, some (.int x2), none] [] I J P := am_start 8 h
theorem bk_19_14 {L : Nat} {xs : Nat → Int32} {d : Nat} {P : Option Value → am_I → am_J → Prop} (x0 : Int64) (x2 : Int32) (s0 : Int32) (I : am_I) (J : am_J)  (h : am_Ob (fun n => if s0 = 0 then (some ((some (.long ((x0 <<< ((8 : Int32).toInt64 &&& 63)) ||| (x2.toInt64)))), am_lay, I, J)) else (some ((some (.long (-1 : Int64))), am_lay, I, J))) P) : am_To (am_XX L xs) d 19 14 [some (.long x0), none, some (.int x2), none] [.int s0] I J P := am_start 10 h
theorem bk_20_0 {L : Nat} {xs : Nat → Int32} {d : Nat} {P : Option Value → am_I → am_J → Prop} (x0 : Int32) (I : am_I) (J : am_J)  (h : am_Ob (fun n => if x0 = (32 : Int32) then (some ((some (.int (1 : Int32))), am_lay, I, J)) else (if x0 = (10 : Int32) then (some ((some (.int (1 : Int32))), am_lay, I, J)) else (some ((some (.int (0 : Int32))), am_lay, I, J)))) P) : am_To (am_XX L xs) d 20 0 [some (.int x0)] [] I J P := am_start 9 h
theorem bk_21_0 {L : Nat} {xs : Nat → Int32} {d : Nat} {P : Option Value → am_I → am_J → Prop}  (I : am_I) (J : am_J) (t : Nat) (ht : t < 12) (h : am_Ob (fun n => am_exec (am_XX L xs) n d 21 2 [some (.ref 5), some (.ref 3), some (.ref (gH t)), some (.int (0 : Int32)), none, none] [] am_lay I J) P) : am_To (am_XX L xs) d 21 0 [some (.ref 5), some (.ref 3), some (.ref (gH t)), none, none, none] [] I J P := by
  match t, ht, h with
  | 0, _, h => exact am_start 2 h
  | 1, _, h => exact am_start 2 h
  | 2, _, h => exact am_start 2 h
  | 3, _, h => exact am_start 2 h
  | 4, _, h => exact am_start 2 h
  | 5, _, h => exact am_start 2 h
  | 6, _, h => exact am_start 2 h
  | 7, _, h => exact am_start 2 h
  | 8, _, h => exact am_start 2 h
  | 9, _, h => exact am_start 2 h
  | 10, _, h => exact am_start 2 h
  | 11, _, h => exact am_start 2 h
  | t + 12, h0, _ => exact absurd h0 (by omega)
theorem bk_21_2 {L : Nat} {xs : Nat → Int32} {d : Nat} {P : Option Value → am_I → am_J → Prop} (x3 : Int32) (I : am_I) (J : am_J) (t : Nat) (ht : t < 12) (h : am_Ob (fun n => if (I 5 3) ≤ x3 then (some (none, am_lay, I, J)) else (am_exec (am_XX L xs) n d 21 13 [some (.ref 5), some (.ref 3), some (.ref (gH t)), some (.int x3), some (.int (0 : Int32)), none] [] am_lay I J)) P) : am_To (am_XX L xs) d 21 2 [some (.ref 5), some (.ref 3), some (.ref (gH t)), some (.int x3), none, none] [] I J P := by
  match t, ht, h with
  | 0, _, h => exact am_start 6 h
  | 1, _, h => exact am_start 6 h
  | 2, _, h => exact am_start 6 h
  | 3, _, h => exact am_start 6 h
  | 4, _, h => exact am_start 6 h
  | 5, _, h => exact am_start 6 h
  | 6, _, h => exact am_start 6 h
  | 7, _, h => exact am_start 6 h
  | 8, _, h => exact am_start 6 h
  | 9, _, h => exact am_start 6 h
  | 10, _, h => exact am_start 6 h
  | 11, _, h => exact am_start 6 h
  | t + 12, h0, _ => exact absurd h0 (by omega)
theorem bk_21_13 {L : Nat} {xs : Nat → Int32} {d : Nat} {P : Option Value → am_I → am_J → Prop} (x3 : Int32) (x4 : Int32) (I : am_I) (J : am_J) (t : Nat) (ht : t < 12) (h : am_Ob (fun n => if (5 : Int32) ≤ x4 then (am_exec (am_XX L xs) (n + 3) (d + 1) 21 2 [some (.ref 5), some (.ref 3), some (.ref (gH t)), some (.int (x3 + (1 : Int32))), some (.int x4), none] [] am_lay I J) else ((am_ix x3 100).bind fun q1 => (am_exec (am_XX L xs) n d 22 0 [some (.long (J 6 q1)), none, none, none, none, none, none] [] am_lay I J).bind fun q => am_exec (am_XX L xs) n (d + 1) 21 28 [some (.ref 5), some (.ref 3), some (.ref (gH t)), some (.int x3), some (.int x4), none] (q.1.toList ++ []) q.2.1 q.2.2.1 q.2.2.2)) P) : am_To (am_XX L xs) (d + 1) 21 13 [some (.ref 5), some (.ref 3), some (.ref (gH t)), some (.int x3), some (.int x4), none] [] I J P := by
  match t, ht, h with
  | 0, _, h => exact am_start 8 h
  | 1, _, h => exact am_start 8 h
  | 2, _, h => exact am_start 8 h
  | 3, _, h => exact am_start 8 h
  | 4, _, h => exact am_start 8 h
  | 5, _, h => exact am_start 8 h
  | 6, _, h => exact am_start 8 h
  | 7, _, h => exact am_start 8 h
  | 8, _, h => exact am_start 8 h
  | 9, _, h => exact am_start 8 h
  | 10, _, h => exact am_start 8 h
  | 11, _, h => exact am_start 8 h
  | t + 12, h0, _ => exact absurd h0 (by omega)
theorem bk_21_28 {L : Nat} {xs : Nat → Int32} {d : Nat} {P : Option Value → am_I → am_J → Prop} (x3 : Int32) (x4 : Int32) (s0 : Int32) (I : am_I) (J : am_J) (t : Nat) (ht : t < 12) (h : am_Ob (fun n => if s0 = 0 then (am_exec (am_XX L xs) (n + 2) (d + 1) 21 2 [some (.ref 5), some (.ref 3), some (.ref (gH t)), some (.int (x3 + (1 : Int32))), some (.int x4), none] [] am_lay I J) else ((am_exec (am_XX L xs) n d 23 0 [some (.ref 5), some (.int x4), some (.int x3), none, none, none] [] am_lay I J).bind fun q => am_exec (am_XX L xs) n (d + 1) 21 38 [some (.ref 5), some (.ref 3), some (.ref (gH t)), some (.int x3), some (.int x4), none] (q.1.toList ++ []) q.2.1 q.2.2.1 q.2.2.2)) P) : am_To (am_XX L xs) (d + 1) 21 28 [some (.ref 5), some (.ref 3), some (.ref (gH t)), some (.int x3), some (.int x4), none] [.int s0] I J P := by
  match t, ht, h with
  | 0, _, h => exact am_start 5 h
  | 1, _, h => exact am_start 5 h
  | 2, _, h => exact am_start 5 h
  | 3, _, h => exact am_start 5 h
  | 4, _, h => exact am_start 5 h
  | 5, _, h => exact am_start 5 h
  | 6, _, h => exact am_start 5 h
  | 7, _, h => exact am_start 5 h
  | 8, _, h => exact am_start 5 h
  | 9, _, h => exact am_start 5 h
  | 10, _, h => exact am_start 5 h
  | 11, _, h => exact am_start 5 h
  | t + 12, h0, _ => exact absurd h0 (by omega)
theorem bk_21_38 {L : Nat} {xs : Nat → Int32} {d : Nat} {P : Option Value → am_I → am_J → Prop} (x3 : Int32) (x4 : Int32) (s0 : Int32) (I : am_I) (J : am_J) (t : Nat) (ht : t < 12) (h : am_Ob (fun n => if s0 = (-1 : Int32) then (am_exec (am_XX L xs) (n + 5) (d + 1) 21 13 [some (.ref 5), some (.ref 3), some (.ref (gH t)), some (.int x3), some (.int (x4 + (1 : Int32))), some (.int s0)] [] am_lay I J) else ((am_exec (am_XX L xs) n d 24 0 [some (.ref 5), some (.int x4), some (.int x3), some (.int s0), some (.ref 3), some (.ref (gH t)), none, none, none, none] [] am_lay I J).bind fun q => am_exec (am_XX L xs) n (d + 1) 21 57 [some (.ref 5), some (.ref 3), some (.ref (gH t)), some (.int x3), some (.int x4), some (.int s0)] (q.1.toList ++ []) q.2.1 q.2.2.1 q.2.2.2)) P) : am_To (am_XX L xs) (d + 1) 21 38 [some (.ref 5), some (.ref 3), some (.ref (gH t)), some (.int x3), some (.int x4), none] [.int s0] I J P := by
  match t, ht, h with
  | 0, _, h => exact am_start 11 h
  | 1, _, h => exact am_start 11 h
  | 2, _, h => exact am_start 11 h
  | 3, _, h => exact am_start 11 h
  | 4, _, h => exact am_start 11 h
  | 5, _, h => exact am_start 11 h
  | 6, _, h => exact am_start 11 h
  | 7, _, h => exact am_start 11 h
  | 8, _, h => exact am_start 11 h
  | 9, _, h => exact am_start 11 h
  | 10, _, h => exact am_start 11 h
  | 11, _, h => exact am_start 11 h
  | t + 12, h0, _ => exact absurd h0 (by omega)
theorem bk_21_57 {L : Nat} {xs : Nat → Int32} {d : Nat} {P : Option Value → am_I → am_J → Prop} (x3 : Int32) (x4 : Int32) (I : am_I) (J : am_J) (t : Nat) (ht : t < 12) (h : am_Ob (fun n => am_exec (am_XX L xs) n d 21 13 [some (.ref 5), some (.ref 3), some (.ref (gH t)), some (.int x3), some (.int (x4 + (1 : Int32))), none] [] am_lay I J) P) : am_To (am_XX L xs) d 21 57 [some (.ref 5), some (.ref 3), some (.ref (gH t)), some (.int x3), some (.int x4), none] [] I J P := by
  match t, ht, h with
  | 0, _, h => exact am_start 2 h
  | 1, _, h => exact am_start 2 h
  | 2, _, h => exact am_start 2 h
  | 3, _, h => exact am_start 2 h
  | 4, _, h => exact am_start 2 h
  | 5, _, h => exact am_start 2 h
  | 6, _, h => exact am_start 2 h
  | 7, _, h => exact am_start 2 h
  | 8, _, h => exact am_start 2 h
  | 9, _, h => exact am_start 2 h
  | 10, _, h => exact am_start 2 h
  | 11, _, h => exact am_start 2 h
  | t + 12, h0, _ => exact absurd h0 (by omega)
theorem bk_22_0 {L : Nat} {xs : Nat → Int32} {d : Nat} {P : Option Value → am_I → am_J → Prop} (x0 : Int64) (I : am_I) (J : am_J)  (h : am_Ob (fun n => am_exec (am_XX L xs) n d 22 10 [some (.long x0), none, some (.ref 1001), some (.int (Int32.ofNat 10)), some (.int (0 : Int32)), none, none] [] am_lay I J) P) : am_To (am_XX L xs) d 22 0 [some (.long x0), none, none, none, none, none, none] [] I J P := am_start 7 h
theorem bk_22_10 {L : Nat} {xs : Nat → Int32} {d : Nat} {P : Option Value → am_I → am_J → Prop} (x0 : Int64) (x3 : Int32) (x4 : Int32) (I : am_I) (J : am_J)  (h : am_Ob (fun n => if x3 ≤ x4 then (if (lg_cmp x0 (0 : Int64)) ≤ 0 then (some ((some (.int (0 : Int32))), am_lay, I, J)) else (some ((some (.int (1 : Int32))), am_lay, I, J))) else ((am_ix x4 10).bind fun q1 => if (lg_cmp x0 (am_s1 q1)) = 0 then (some ((some (.int (0 : Int32))), am_lay, I, J)) else (am_exec (am_XX L xs) n d 22 10 [some (.long x0), none, some (.ref 1001), some (.int x3), some (.int (x4 + (1 : Int32))), some (.long (am_s1 q1)), none] [] am_lay I J))) P) : am_To (am_XX L xs) d 22 10 [some (.long x0), none, some (.ref 1001), some (.int x3), some (.int x4), none, none] [] I J P := am_start 13 h
theorem bk_23_0 {L : Nat} {xs : Nat → Int32} {d : Nat} {P : Option Value → am_I → am_J → Prop} (x1 : Int32) (x2 : Int32) (I : am_I) (J : am_J)  (h : am_Ob (fun n => (am_ix x1 6).bind fun q1 => (am_ix (x1 + (1 : Int32)) 6).bind fun q2 => if (I 5 3) ≤ (((x2 + (1 : Int32)) + (am_s3 q2)) - (am_s3 q1)) then (some ((some (.int (-1 : Int32))), am_lay, I, J)) else ((am_ix (((x2 + (1 : Int32)) + (am_s3 q2)) - (am_s3 q1)) 100).bind fun q3 => if (I 8 q3) = 0 then (some ((some (.int (-1 : Int32))), am_lay, I, J)) else ((am_ix (((x2 + (1 : Int32)) + (am_s3 q2)) - (am_s3 q1)) 100).bind fun q4 => (am_ix x2 100).bind fun q5 => if (lg_cmp (J 6 q4) (J 6 q5)) = 0 then (some ((some (.int (-1 : Int32))), am_lay, I, J)) else ((am_ix (((x2 + (1 : Int32)) + (am_s3 q2)) - (am_s3 q1)) 100).bind fun q6 => (am_exec (am_XX L xs) n d 22 0 [some (.long (J 6 q6)), none, none, none, none, none, none] [] am_lay I J).bind fun q => am_exec (am_XX L xs) n (d + 1) 23 67 [some (.ref 5), some (.int x1), some (.int x2), some (.int (am_s3 q1)), some (.int (((x2 + (1 : Int32)) + (am_s3 q2)) - (am_s3 q1))), none] (q.1.toList ++ []) q.2.1 q.2.2.1 q.2.2.2)))) P) : am_To (am_XX L xs) (d + 1) 23 0 [some (.ref 5), some (.int x1), some (.int x2), none, none, none] [] I J P := am_start 40 h
theorem bk_23_67 {L : Nat} {xs : Nat → Int32} {d : Nat} {P : Option Value → am_I → am_J → Prop} (x2 : Int32) (x3 : Int32) (x4 : Int32) (s0 : Int32) (I : am_I) (J : am_J)  (h : am_Ob (fun n => if s0 = 0 then (some ((some (.int (-1 : Int32))), am_lay, I, J)) else (am_exec (am_XX L xs) n d 23 77 [some (.ref 5), none, some (.int x2), some (.int x3), some (.int x4), some (.int (x2 + (1 : Int32)))] [] am_lay I J)) P) : am_To (am_XX L xs) d 23 67 [some (.ref 5), none, some (.int x2), some (.int x3), some (.int x4), none] [.int s0] I J P := am_start 5 h
theorem bk_23_77 {L : Nat} {xs : Nat → Int32} {d : Nat} {P : Option Value → am_I → am_J → Prop} (x2 : Int32) (x3 : Int32) (x4 : Int32) (x5 : Int32) (I : am_I) (J : am_J)  (h : am_Ob (fun n => if x4 ≤ x5 then (some ((some (.int x4)), am_lay, I, J)) else ((am_ix x5 100).bind fun q1 => if (I 8 q1) = 0 then (some ((some (.int (-1 : Int32))), am_lay, I, J)) else ((am_ix x5 100).bind fun q2 => (am_ix (((x3 + x5) - x2) - (1 : Int32)) 11).bind fun q3 => if (lg_cmp (J 6 q2) (am_s2 q3)) = 0 then (am_exec (am_XX L xs) n d 23 77 [some (.ref 5), none, some (.int x2), some (.int x3), some (.int x4), some (.int (x5 + (1 : Int32)))] [] am_lay I J) else (some ((some (.int (-1 : Int32))), am_lay, I, J))))) P) : am_To (am_XX L xs) d 23 77 [some (.ref 5), none, some (.int x2), some (.int x3), some (.int x4), some (.int x5)] [] I J P := am_start 25 h
theorem bk_24_0 {L : Nat} {xs : Nat → Int32} {d : Nat} {P : Option Value → am_I → am_J → Prop} (x1 : Int32) (x2 : Int32) (x3 : Int32) (I : am_I) (J : am_J) (t : Nat) (ht : t < 12) (h : am_Ob (fun n => (am_ix x2 100).bind fun q1 => (am_exec (am_XX L xs) n d 25 0 [some (.ref 3), some (.long (J 6 q1)), none, none] [] am_lay I J).bind fun q => am_exec (am_XX L xs) n (d + 1) 24 11 [some (.ref 5), some (.int x1), some (.int x2), some (.int x3), some (.ref 3), some (.ref (gH t)), none, none, none, none] (q.1.toList ++ []) q.2.1 q.2.2.1 q.2.2.2) P) : am_To (am_XX L xs) (d + 1) 24 0 [some (.ref 5), some (.int x1), some (.int x2), some (.int x3), some (.ref 3), some (.ref (gH t)), none, none, none, none] [] I J P := by
  match t, ht, h with
  | 0, _, h => exact am_start 6 h
  | 1, _, h => exact am_start 6 h
  | 2, _, h => exact am_start 6 h
  | 3, _, h => exact am_start 6 h
  | 4, _, h => exact am_start 6 h
  | 5, _, h => exact am_start 6 h
  | 6, _, h => exact am_start 6 h
  | 7, _, h => exact am_start 6 h
  | 8, _, h => exact am_start 6 h
  | 9, _, h => exact am_start 6 h
  | 10, _, h => exact am_start 6 h
  | 11, _, h => exact am_start 6 h
  | t + 12, h0, _ => exact absurd h0 (by omega)
theorem bk_24_11 {L : Nat} {xs : Nat → Int32} {d : Nat} {P : Option Value → am_I → am_J → Prop} (x1 : Int32) (x2 : Int32) (x3 : Int32) (s0 : Int32) (I : am_I) (J : am_J) (t : Nat) (ht : t < 12) (h : am_Ob (fun n => if s0 = (-1 : Int32) then (am_exec (am_XX L xs) (n + 4) (d + 1) 24 34 [some (.ref 5), some (.int x1), some (.int x2), some (.int x3), some (.ref 3), some (.ref (gH t)), some (.int s0), none, none, none] [.int (-1 : Int32)] am_lay I J) else ((am_ix x3 100).bind fun q1 => (am_exec (am_XX L xs) n d 25 0 [some (.ref 3), some (.long (J 6 q1)), none, none] [] am_lay I J).bind fun q => am_exec (am_XX L xs) n (d + 1) 24 34 [some (.ref 5), some (.int x1), some (.int x2), some (.int x3), some (.ref 3), some (.ref (gH t)), some (.int s0), none, none, none] (q.1.toList ++ []) q.2.1 q.2.2.1 q.2.2.2)) P) : am_To (am_XX L xs) (d + 1) 24 11 [some (.ref 5), some (.int x1), some (.int x2), some (.int x3), some (.ref 3), some (.ref (gH t)), none, none, none, none] [.int s0] I J P := by
  match t, ht, h with
  | 0, _, h => exact am_start 10 h
  | 1, _, h => exact am_start 10 h
  | 2, _, h => exact am_start 10 h
  | 3, _, h => exact am_start 10 h
  | 4, _, h => exact am_start 10 h
  | 5, _, h => exact am_start 10 h
  | 6, _, h => exact am_start 10 h
  | 7, _, h => exact am_start 10 h
  | 8, _, h => exact am_start 10 h
  | 9, _, h => exact am_start 10 h
  | 10, _, h => exact am_start 10 h
  | 11, _, h => exact am_start 10 h
  | t + 12, h0, _ => exact absurd h0 (by omega)
theorem bk_24_34 {L : Nat} {xs : Nat → Int32} {d : Nat} {P : Option Value → am_I → am_J → Prop} (x1 : Int32) (x2 : Int32) (x6 : Int32) (s0 : Int32) (I : am_I) (J : am_J) (t : Nat) (ht : t < 12) (h : am_Ob (fun n => if s0 = (-1 : Int32) then (some (none, am_lay, I, J)) else ((am_ix x1 5).bind fun q1 => if (am_s6 q1) = (1 : Int32) then (am_exec (am_XX L xs) n d 24 57 [some (.ref 5), some (.int x1), some (.int x2), none, none, some (.ref (gH t)), some (.int x6), some (.int s0), none, none] [.int (1 : Int32)] am_lay I J) else (am_exec (am_XX L xs) (n + 1) d 24 57 [some (.ref 5), some (.int x1), some (.int x2), none, none, some (.ref (gH t)), some (.int x6), some (.int s0), none, none] [.int (0 : Int32)] am_lay I J))) P) : am_To (am_XX L xs) d 24 34 [some (.ref 5), some (.int x1), some (.int x2), none, none, some (.ref (gH t)), some (.int x6), none, none, none] [.int s0] I J P := by
  match t, ht, h with
  | 0, _, h => exact am_start 11 h
  | 1, _, h => exact am_start 11 h
  | 2, _, h => exact am_start 11 h
  | 3, _, h => exact am_start 11 h
  | 4, _, h => exact am_start 11 h
  | 5, _, h => exact am_start 11 h
  | 6, _, h => exact am_start 11 h
  | 7, _, h => exact am_start 11 h
  | 8, _, h => exact am_start 11 h
  | 9, _, h => exact am_start 11 h
  | 10, _, h => exact am_start 11 h
  | 11, _, h => exact am_start 11 h
  | t + 12, h0, _ => exact absurd h0 (by omega)
theorem bk_24_57 {L : Nat} {xs : Nat → Int32} {d : Nat} {P : Option Value → am_I → am_J → Prop} (x1 : Int32) (x2 : Int32) (x6 : Int32) (x7 : Int32) (s0 : Int32) (I : am_I) (J : am_J) (t : Nat) (ht : t < 12) (h : am_Ob (fun n => (am_ix x1 5).bind fun q1 => if s0 = 0 then (am_exec (am_XX L xs) (n + 1) d 24 76 [some (.ref 5), some (.int x1), some (.int x2), none, none, some (.ref (gH t)), some (.int x6), some (.int x7), some (.int s0), none] [.int x6, .int (am_s4 q1)] am_lay I J) else (am_exec (am_XX L xs) n d 24 76 [some (.ref 5), some (.int x1), some (.int x2), none, none, some (.ref (gH t)), some (.int x6), some (.int x7), some (.int s0), none] [.int x7, .int (am_s4 q1)] am_lay I J)) P) : am_To (am_XX L xs) d 24 57 [some (.ref 5), some (.int x1), some (.int x2), none, none, some (.ref (gH t)), some (.int x6), some (.int x7), none, none] [.int s0] I J P := by
  match t, ht, h with
  | 0, _, h => exact am_start 8 h
  | 1, _, h => exact am_start 8 h
  | 2, _, h => exact am_start 8 h
  | 3, _, h => exact am_start 8 h
  | 4, _, h => exact am_start 8 h
  | 5, _, h => exact am_start 8 h
  | 6, _, h => exact am_start 8 h
  | 7, _, h => exact am_start 8 h
  | 8, _, h => exact am_start 8 h
  | 9, _, h => exact am_start 8 h
  | 10, _, h => exact am_start 8 h
  | 11, _, h => exact am_start 8 h
  | t + 12, h0, _ => exact absurd h0 (by omega)
theorem bk_24_76 {L : Nat} {xs : Nat → Int32} {d : Nat} {P : Option Value → am_I → am_J → Prop} (x1 : Int32) (x2 : Int32) (x6 : Int32) (x7 : Int32) (x8 : Int32) (s0 : Int32) (s1 : Int32) (I : am_I) (J : am_J) (t : Nat) (ht : t < 12) (h : am_Ob (fun n => if x8 = 0 then (am_exec (am_XX L xs) (n + 1) d 24 88 [some (.ref 5), some (.int x1), some (.int x2), none, none, some (.ref (gH t)), some (.int x6), some (.int x7), some (.int x8), none] [.int x7, .int s1, .int s0] am_lay I J) else (am_exec (am_XX L xs) n d 24 88 [some (.ref 5), some (.int x1), some (.int x2), none, none, some (.ref (gH t)), some (.int x6), some (.int x7), some (.int x8), none] [.int x6, .int s1, .int s0] am_lay I J)) P) : am_To (am_XX L xs) d 24 76 [some (.ref 5), some (.int x1), some (.int x2), none, none, some (.ref (gH t)), some (.int x6), some (.int x7), some (.int x8), none] [.int s1, .int s0] I J P := by
  match t, ht, h with
  | 0, _, h => exact am_start 4 h
  | 1, _, h => exact am_start 4 h
  | 2, _, h => exact am_start 4 h
  | 3, _, h => exact am_start 4 h
  | 4, _, h => exact am_start 4 h
  | 5, _, h => exact am_start 4 h
  | 6, _, h => exact am_start 4 h
  | 7, _, h => exact am_start 4 h
  | 8, _, h => exact am_start 4 h
  | 9, _, h => exact am_start 4 h
  | 10, _, h => exact am_start 4 h
  | 11, _, h => exact am_start 4 h
  | t + 12, h0, _ => exact absurd h0 (by omega)
theorem bk_24_88 {L : Nat} {xs : Nat → Int32} {d : Nat} {P : Option Value → am_I → am_J → Prop} (x1 : Int32) (x2 : Int32) (s0 : Int32) (s1 : Int32) (s2 : Int32) (I : am_I) (J : am_J) (t : Nat) (ht : t < 12) (h : am_Ob (fun n => (am_exec (am_XX L xs) n d 26 0 [some (.int s0), some (.int s1), some (.int s2), none, none, none] [] am_lay I J).bind fun q => am_exec (am_XX L xs) n (d + 1) 24 91 [some (.ref 5), some (.int x1), some (.int x2), none, none, some (.ref (gH t)), none, none, none, none] (q.1.toList ++ []) q.2.1 q.2.2.1 q.2.2.2) P) : am_To (am_XX L xs) (d + 1) 24 88 [some (.ref 5), some (.int x1), some (.int x2), none, none, some (.ref (gH t)), none, none, none, none] [.int s2, .int s1, .int s0] I J P := by
  match t, ht, h with
  | 0, _, h => exact am_start 1 h
  | 1, _, h => exact am_start 1 h
  | 2, _, h => exact am_start 1 h
  | 3, _, h => exact am_start 1 h
  | 4, _, h => exact am_start 1 h
  | 5, _, h => exact am_start 1 h
  | 6, _, h => exact am_start 1 h
  | 7, _, h => exact am_start 1 h
  | 8, _, h => exact am_start 1 h
  | 9, _, h => exact am_start 1 h
  | 10, _, h => exact am_start 1 h
  | 11, _, h => exact am_start 1 h
  | t + 12, h0, _ => exact absurd h0 (by omega)
theorem bk_24_91 {L : Nat} {xs : Nat → Int32} {d : Nat} {P : Option Value → am_I → am_J → Prop} (x1 : Int32) (x2 : Int32) (s0 : Int32) (I : am_I) (J : am_J) (t : Nat) (ht : t < 12) (h : am_Ob (fun n => (am_ix x1 5).bind fun q1 => (am_ix x2 100).bind fun q2 => (am_exec (am_XX L xs) n d 27 0 [some (.ref (gH t)), some (.int s0), some (.int (am_s5 q1)), some (.int (I 7 q2))] [] am_lay I J).bind fun q => am_exec (am_XX L xs) n (d + 1) 24 111 [some (.ref 5), some (.int x1), some (.int x2), none, none, some (.ref (gH t)), none, none, none, some (.int s0)] (q.1.toList ++ []) q.2.1 q.2.2.1 q.2.2.2) P) : am_To (am_XX L xs) (d + 1) 24 91 [some (.ref 5), some (.int x1), some (.int x2), none, none, some (.ref (gH t)), none, none, none, none] [.int s0] I J P := by
  match t, ht, h with
  | 0, _, h => exact am_start 11 h
  | 1, _, h => exact am_start 11 h
  | 2, _, h => exact am_start 11 h
  | 3, _, h => exact am_start 11 h
  | 4, _, h => exact am_start 11 h
  | 5, _, h => exact am_start 11 h
  | 6, _, h => exact am_start 11 h
  | 7, _, h => exact am_start 11 h
  | 8, _, h => exact am_start 11 h
  | 9, _, h => exact am_start 11 h
  | 10, _, h => exact am_start 11 h
  | 11, _, h => exact am_start 11 h
  | t + 12, h0, _ => exact absurd h0 (by omega)
theorem bk_24_111 {L : Nat} {xs : Nat → Int32} {d : Nat} {P : Option Value → am_I → am_J → Prop}  (I : am_I) (J : am_J)  (h : am_Ob (fun n => some (none, am_lay, I, J)) P) : am_To (am_XX L xs) d 24 111 [none, none, none, none, none, none, none, none, none, none] [] I J P := am_start 1 h
