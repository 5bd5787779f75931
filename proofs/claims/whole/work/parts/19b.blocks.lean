set_option maxRecDepth 100000
set_option maxHeartbeats 4000000
theorem bk_25_0 {L : Nat} {xs : Nat → Int32} {d : Nat} {P : Option Value → am_I → am_J → Prop} (x1 : Int64) (I : am_I) (J : am_J)  (h : am_Ob (fun n => am_exec (am_XX L xs) n d 25 2 [some (.ref 3), some (.long x1), none, some (.int (0 : Int32))] [] am_lay I J) P) : am_To (am_XX L xs) d 25 0 [some (.ref 3), some (.long x1), none, none] [] I J P := am_start 2 h
theorem bk_25_2 {L : Nat} {xs : Nat → Int32} {d : Nat} {P : Option Value → am_I → am_J → Prop} (x1 : Int64) (x3 : Int32) (I : am_I) (J : am_J)  (h : am_Ob (fun n => if (I 3 1) ≤ x3 then (if (I 3 1) < (24 : Int32) then ((am_ix (I 3 1) 24).bind fun q1 => some ((some (.int (((am_up I 3 1 ((I 3 1) + (1 : Int32))) 3 1) - (1 : Int32)))), am_lay, (am_up I 3 1 ((I 3 1) + (1 : Int32))), (am_up J 4 q1 x1))) else (some ((some (.int (-1 : Int32))), am_lay, I, J))) else ((am_ix x3 24).bind fun q2 => if (lg_cmp (J 4 q2) x1) = 0 then (some ((some (.int x3)), am_lay, I, J)) else (am_exec (am_XX L xs) (n + 12) d 25 2 [some (.ref 3), some (.long x1), none, some (.int (x3 + (1 : Int32)))] [] am_lay I J))) P) : am_To (am_XX L xs) d 25 2 [some (.ref 3), some (.long x1), none, some (.int x3)] [] I J P := am_start 25 h
theorem bk_26_0 {L : Nat} {xs : Nat → Int32} {d : Nat} {P : Option Value → am_I → am_J → Prop} (x0 : Int32) (x1 : Int32) (x2 : Int32) (I : am_I) (J : am_J)  (h : am_Ob (fun n => if x0 = (2 : Int32) then (if x1 ≤ x2 then (am_exec (am_XX L xs) (n + 2) d 26 14 [some (.int x0), some (.int x1), some (.int x2), none, none, none] [] am_lay I J) else (am_exec (am_XX L xs) n d 26 15 [some (.int x0), some (.int x1), some (.int x2), none, none, none] [.int (1 : Int32)] am_lay I J)) else (am_exec (am_XX L xs) (n + 5) d 26 14 [some (.int x0), some (.int x1), some (.int x2), none, none, none] [] am_lay I J)) P) : am_To (am_XX L xs) d 26 0 [some (.int x0), some (.int x1), some (.int x2), none, none, none] [] I J P := am_start 8 h
theorem bk_26_14 {L : Nat} {xs : Nat → Int32} {d : Nat} {P : Option Value → am_I → am_J → Prop} (x0 : Int32) (x1 : Int32) (x2 : Int32) (I : am_I) (J : am_J)  (h : am_Ob (fun n => am_exec (am_XX L xs) n d 26 15 [some (.int x0), some (.int x1), some (.int x2), none, none, none] [.int (0 : Int32)] am_lay I J) P) : am_To (am_XX L xs) d 26 14 [some (.int x0), some (.int x1), some (.int x2), none, none, none] [] I J P := am_start 1 h
theorem bk_26_15 {L : Nat} {xs : Nat → Int32} {d : Nat} {P : Option Value → am_I → am_J → Prop} (x0 : Int32) (x1 : Int32) (x2 : Int32) (s0 : Int32) (I : am_I) (J : am_J)  (h : am_Ob (fun n => if s0 = 0 then (am_exec (am_XX L xs) (n + 1) d 26 25 [some (.int x0), some (.int x1), some (.int x2), some (.int s0), none, none] [.int x1] am_lay I J) else (am_exec (am_XX L xs) n d 26 25 [some (.int x0), some (.int x1), some (.int x2), some (.int s0), none, none] [.int x2] am_lay I J)) P) : am_To (am_XX L xs) d 26 15 [some (.int x0), some (.int x1), some (.int x2), none, none, none] [.int s0] I J P := am_start 5 h
theorem bk_26_25 {L : Nat} {xs : Nat → Int32} {d : Nat} {P : Option Value → am_I → am_J → Prop} (x0 : Int32) (x1 : Int32) (x2 : Int32) (x3 : Int32) (s0 : Int32) (I : am_I) (J : am_J)  (h : am_Ob (fun n => if x3 = 0 then (am_exec (am_XX L xs) (n + 1) d 26 36 [some (.int x0), some (.int x1), some (.int x2), some (.int x3), some (.int s0), none] [.int x2] am_lay I J) else (am_exec (am_XX L xs) n d 26 36 [some (.int x0), some (.int x1), some (.int x2), some (.int x3), some (.int s0), none] [.int x1] am_lay I J)) P) : am_To (am_XX L xs) d 26 25 [some (.int x0), some (.int x1), some (.int x2), some (.int x3), none, none] [.int s0] I J P := am_start 5 h
theorem bk_26_36 {L : Nat} {xs : Nat → Int32} {d : Nat} {P : Option Value → am_I → am_J → Prop} (x0 : Int32) (x4 : Int32) (s0 : Int32) (I : am_I) (J : am_J)  (h : am_Ob (fun n => some ((some (.int (((x0 * (576 : Int32)) + (x4 * (24 : Int32))) + s0))), am_lay, I, J)) P) : am_To (am_XX L xs) d 26 36 [some (.int x0), none, none, none, some (.int x4), none] [.int s0] I J P := am_start 11 h
theorem bk_27_0 {L : Nat} {xs : Nat → Int32} {d : Nat} {P : Option Value → am_I → am_J → Prop} (x1 : Int32) (x2 : Int32) (x3 : Int32) (I : am_I) (J : am_J) (t : Nat) (ht : t < 13) (h : am_Ob (fun n => (am_exec (am_XX L xs) n d 28 0 [some (.ref (gH t))] [] am_lay I J).bind fun q => am_exec (am_XX L xs) n (d + 1) 27 4 [some (.ref (gH t)), some (.int x1), some (.int x2), some (.int x3)] (q.1.toList ++ []) q.2.1 q.2.2.1 q.2.2.2) P) : am_To (am_XX L xs) (d + 1) 27 0 [some (.ref (gH t)), some (.int x1), some (.int x2), some (.int x3)] [] I J P := by
  match t, ht, h with
  | 0, _, h => exact am_start 2 h
  | 1, _, h => exact am_start 2 h
  | 2, _, h => exact am_start 2 h
  | 3, _, h => exact am_start 2 h
  | 4, _, h => exact am_start 2 h
  | 5, _, h => exact am_start 2 h
  | 6, _, h => exact am_start 2 h
  | 7, _, h => exact am_start 2 h
  | 8, _, h => exact am_start 2 h
  | 9, _, h => exact am_start 2 h
  | 10, _, h => exact am_start 2 h
  | 11, _, h => exact am_start 2 h
  | 12, _, h => exact am_start 2 h
  | t + 13, h0, _ => exact absurd h0 (by omega)
theorem bk_27_4 {L : Nat} {xs : Nat → Int32} {d : Nat} {P : Option Value → am_I → am_J → Prop} (x1 : Int32) (x2 : Int32) (x3 : Int32) (s0 : Int32) (I : am_I) (J : am_J) (t : Nat) (ht : t < 13) (h : am_Ob (fun n => if s0 = 0 then ((am_ix (I (gH t) 3) (gN t)).bind fun q1 => (am_ix ((am_up I (gA0 t) q1 x1) (gH t) 3) (gN t)).bind fun q2 => (am_ix ((am_up (am_up I (gA0 t) q1 x1) (gA1 t) q2 x2) (gH t) 3) (gN t)).bind fun q3 => some (none, am_lay, (am_up (am_up (am_up (am_up I (gA0 t) q1 x1) (gA1 t) q2 x2) (gA2 t) q3 x3) (gH t) 3 (((am_up (am_up (am_up I (gA0 t) q1 x1) (gA1 t) q2 x2) (gA2 t) q3 x3) (gH t) 3) + (1 : Int32))), J)) else (some (none, am_lay, I, J))) P) : am_To (am_XX L xs) d 27 4 [some (.ref (gH t)), some (.int x1), some (.int x2), some (.int x3)] [.int s0] I J P := by
  match t, ht, h with
  | 0, _, h => exact am_start 26 h
  | 1, _, h => exact am_start 26 h
  | 2, _, h => exact am_start 26 h
  | 3, _, h => exact am_start 26 h
  | 4, _, h => exact am_start 26 h
  | 5, _, h => exact am_start 26 h
  | 6, _, h => exact am_start 26 h
  | 7, _, h => exact am_start 26 h
  | 8, _, h => exact am_start 26 h
  | 9, _, h => exact am_start 26 h
  | 10, _, h => exact am_start 26 h
  | 11, _, h => exact am_start 26 h
  | 12, _, h => exact am_start 26 h
  | t + 13, h0, _ => exact absurd h0 (by omega)
theorem bk_28_0 {L : Nat} {xs : Nat → Int32} {d : Nat} {P : Option Value → am_I → am_J → Prop}  (I : am_I) (J : am_J) (t : Nat) (ht : t < 13) (h : am_Ob (fun n => if (I (gH t) 3) < (Int32.ofNat (gN t)) then (some ((some (.int (0 : Int32))), am_lay, I, J)) else (some ((some (.int (1 : Int32))), am_lay, I, J))) P) : am_To (am_XX L xs) d 28 0 [some (.ref (gH t))] [] I J P := by
  match t, ht, h with
  | 0, _, h => exact am_start 9 h
  | 1, _, h => exact am_start 9 h
  | 2, _, h => exact am_start 9 h
  | 3, _, h => exact am_start 9 h
  | 4, _, h => exact am_start 9 h
  | 5, _, h => exact am_start 9 h
  | 6, _, h => exact am_start 9 h
  | 7, _, h => exact am_start 9 h
  | 8, _, h => exact am_start 9 h
  | 9, _, h => exact am_start 9 h
  | 10, _, h => exact am_start 9 h
  | 11, _, h => exact am_start 9 h
  | 12, _, h => exact am_start 9 h
  | t + 13, h0, _ => exact absurd h0 (by omega)
theorem bk_29_0 {L : Nat} {xs : Nat → Int32} {d : Nat} {P : Option Value → am_I → am_J → Prop} (x1 : Int32) (I : am_I) (J : am_J)  (h : am_Ob (fun n => (am_ix x1 12).bind fun q1 => (am_ix x1 12).bind fun q2 => am_exec (am_XX L xs) n d 29 14 [some (.ref 9), some (.int x1)] [(am_rf (am_tL.getD q2 none)), .ref 9] am_lay (am_up I 59 q1 (vp_nar .boolean (1 : Int32))) J) P) : am_To (am_XX L xs) d 29 0 [some (.ref 9), some (.int x1)] [] I J P := am_start 10 h
theorem bk_29_14 {L : Nat} {xs : Nat → Int32} {d : Nat} {P : Option Value → am_I → am_J → Prop}  (I : am_I) (J : am_J) (q : Nat) (hq : q < 12) (h : am_Ob (fun n => (am_exec (am_XX L xs) n d 30 0 [some (.ref 9), some (.ref (gH q)), some (.int (1 : Int32)), none] [] am_lay I J).bind fun q => am_exec (am_XX L xs) n (d + 1) 29 18 [none, none] (q.1.toList ++ []) q.2.1 q.2.2.1 q.2.2.2) P) : am_To (am_XX L xs) (d + 1) 29 14 [none, none] [.ref (gH q), .ref 9] I J P := by
  match q, hq, h with
  | 0, _, h => exact am_start 2 h
  | 1, _, h => exact am_start 2 h
  | 2, _, h => exact am_start 2 h
  | 3, _, h => exact am_start 2 h
  | 4, _, h => exact am_start 2 h
  | 5, _, h => exact am_start 2 h
  | 6, _, h => exact am_start 2 h
  | 7, _, h => exact am_start 2 h
  | 8, _, h => exact am_start 2 h
  | 9, _, h => exact am_start 2 h
  | 10, _, h => exact am_start 2 h
  | 11, _, h => exact am_start 2 h
  | q + 12, h0, _ => exact absurd h0 (by omega)
theorem bk_29_18 {L : Nat} {xs : Nat → Int32} {d : Nat} {P : Option Value → am_I → am_J → Prop}  (I : am_I) (J : am_J)  (h : am_Ob (fun n => some (none, am_lay, I, J)) P) : am_To (am_XX L xs) d 29 18 [none, none] [] I J P := am_start 1 h
theorem bk_30_0 {L : Nat} {xs : Nat → Int32} {d : Nat} {P : Option Value → am_I → am_J → Prop} (x2 : Int32) (I : am_I) (J : am_J) (t : Nat) (ht : t < 12) (h : am_Ob (fun n => am_exec (am_XX L xs) n d 30 2 [some (.ref 9), some (.ref (gH t)), some (.int x2), some (.int (0 : Int32))] [] am_lay I J) P) : am_To (am_XX L xs) d 30 0 [some (.ref 9), some (.ref (gH t)), some (.int x2), none] [] I J P := by
  match t, ht, h with
  | 0, _, h => exact am_start 2 h
  | 1, _, h => exact am_start 2 h
  | 2, _, h => exact am_start 2 h
  | 3, _, h => exact am_start 2 h
  | 4, _, h => exact am_start 2 h
  | 5, _, h => exact am_start 2 h
  | 6, _, h => exact am_start 2 h
  | 7, _, h => exact am_start 2 h
  | 8, _, h => exact am_start 2 h
  | 9, _, h => exact am_start 2 h
  | 10, _, h => exact am_start 2 h
  | 11, _, h => exact am_start 2 h
  | t + 12, h0, _ => exact absurd h0 (by omega)
theorem bk_30_2 {L : Nat} {xs : Nat → Int32} {d : Nat} {P : Option Value → am_I → am_J → Prop} (x2 : Int32) (x3 : Int32) (I : am_I) (J : am_J) (t : Nat) (ht : t < 12) (h : am_Ob (fun n => if (I (gH t) 3) ≤ x3 then (some (none, am_lay, I, J)) else ((am_ix x3 (gN t)).bind fun q1 => (am_ix (I (gA0 t) q1) 1728).bind fun q2 => (am_ix x3 (gN t)).bind fun q3 => (am_ix (I (gA0 t) q1) 1728).bind fun q4 => am_exec (am_XX L xs) n d 30 2 [some (.ref 9), some (.ref (gH t)), some (.int x2), some (.int (x3 + (1 : Int32)))] [] am_lay (am_up I 64 q4 ((I 64 q2) + (x2 * (I (gA1 t) q3)))) J)) P) : am_To (am_XX L xs) d 30 2 [some (.ref 9), some (.ref (gH t)), some (.int x2), some (.int x3)] [] I J P := by
  match t, ht, h with
  | 0, _, h => exact am_start 22 h
  | 1, _, h => exact am_start 22 h
  | 2, _, h => exact am_start 22 h
  | 3, _, h => exact am_start 22 h
  | 4, _, h => exact am_start 22 h
  | 5, _, h => exact am_start 22 h
  | 6, _, h => exact am_start 22 h
  | 7, _, h => exact am_start 22 h
  | 8, _, h => exact am_start 22 h
  | 9, _, h => exact am_start 22 h
  | 10, _, h => exact am_start 22 h
  | 11, _, h => exact am_start 22 h
  | t + 12, h0, _ => exact absurd h0 (by omega)
theorem bk_31_0 {L : Nat} {xs : Nat → Int32} {d : Nat} {P : Option Value → am_I → am_J → Prop} (x1 : Int32) (I : am_I) (J : am_J)  (h : am_Ob (fun n => (am_exec (am_XX L xs) n d 32 0 [some (.ref 9), some (.int x1)] [] am_lay I J).bind fun q => am_exec (am_XX L xs) n (d + 1) 31 8 [some (.ref 0), some (.int x1)] (q.1.toList ++ []) q.2.1 q.2.2.1 q.2.2.2) P) : am_To (am_XX L xs) (d + 1) 31 0 [some (.ref 0), some (.int x1)] [] I J P := am_start 4 h
theorem bk_31_8 {L : Nat} {xs : Nat → Int32} {d : Nat} {P : Option Value → am_I → am_J → Prop} (x1 : Int32) (s0 : Int32) (I : am_I) (J : am_J)  (h : am_Ob (fun n => if s0 = 0 then (some ((some (.int (0 : Int32))), am_lay, I, J)) else ((am_exec (am_XX L xs) n d 33 0 [some (.ref 9), some (.int x1)] [] am_lay I J).bind fun q => am_exec (am_XX L xs) n (d + 1) 31 21 [some (.ref 0), some (.int x1)] (q.1.toList ++ []) q.2.1 q.2.2.1 q.2.2.2)) P) : am_To (am_XX L xs) (d + 1) 31 8 [some (.ref 0), some (.int x1)] [.int s0] I J P := am_start 5 h
theorem bk_31_21 {L : Nat} {xs : Nat → Int32} {d : Nat} {P : Option Value → am_I → am_J → Prop}  (I : am_I) (J : am_J)  (h : am_Ob (fun n => some ((some (.int (1 : Int32))), am_lay, (am_up I 0 7 (1 : Int32)), J)) P) : am_To (am_XX L xs) d 31 21 [some (.ref 0), none] [] I J P := am_start 5 h
theorem bk_32_0 {L : Nat} {xs : Nat → Int32} {d : Nat} {P : Option Value → am_I → am_J → Prop} (x1 : Int32) (I : am_I) (J : am_J)  (h : am_Ob (fun n => if x1 < 0 then (some ((some (.int (0 : Int32))), am_lay, I, J)) else (if (12 : Int32) ≤ x1 then (some ((some (.int (0 : Int32))), am_lay, I, J)) else ((am_ix x1 12).bind fun q1 => if (I 59 q1) = 0 then (some ((some (.int (0 : Int32))), am_lay, I, J)) else (some ((some (.int (1 : Int32))), am_lay, I, J))))) P) : am_To (am_XX L xs) d 32 0 [some (.ref 9), some (.int x1)] [] I J P := am_start 13 h
theorem bk_33_0 {L : Nat} {xs : Nat → Int32} {d : Nat} {P : Option Value → am_I → am_J → Prop} (x1 : Int32) (I : am_I) (J : am_J)  (h : am_Ob (fun n => (am_ix x1 12).bind fun q1 => (am_ix x1 12).bind fun q2 => am_exec (am_XX L xs) n d 33 14 [some (.ref 9), some (.int x1)] [(am_rf (am_tL.getD q2 none)), .ref 9] am_lay (am_up I 59 q1 (vp_nar .boolean (0 : Int32))) J) P) : am_To (am_XX L xs) d 33 0 [some (.ref 9), some (.int x1)] [] I J P := am_start 10 h
theorem bk_33_14 {L : Nat} {xs : Nat → Int32} {d : Nat} {P : Option Value → am_I → am_J → Prop} (x1 : Int32) (I : am_I) (J : am_J) (q : Nat) (hq : q < 12) (h : am_Ob (fun n => (am_exec (am_XX L xs) n d 30 0 [some (.ref 9), some (.ref (gH q)), some (.int (-1 : Int32)), none] [] am_lay I J).bind fun q => am_exec (am_XX L xs) n (d + 1) 33 18 [some (.ref 9), some (.int x1)] (q.1.toList ++ []) q.2.1 q.2.2.1 q.2.2.2) P) : am_To (am_XX L xs) (d + 1) 33 14 [some (.ref 9), some (.int x1)] [.ref (gH q), .ref 9] I J P := by
  match q, hq, h with
  | 0, _, h => exact am_start 2 h
  | 1, _, h => exact am_start 2 h
  | 2, _, h => exact am_start 2 h
  | 3, _, h => exact am_start 2 h
  | 4, _, h => exact am_start 2 h
  | 5, _, h => exact am_start 2 h
  | 6, _, h => exact am_start 2 h
  | 7, _, h => exact am_start 2 h
  | 8, _, h => exact am_start 2 h
  | 9, _, h => exact am_start 2 h
  | 10, _, h => exact am_start 2 h
  | 11, _, h => exact am_start 2 h
  | q + 12, h0, _ => exact absurd h0 (by omega)
theorem bk_33_18 {L : Nat} {xs : Nat → Int32} {d : Nat} {P : Option Value → am_I → am_J → Prop} (x1 : Int32) (I : am_I) (J : am_J)  (h : am_Ob (fun n => (am_ix x1 12).bind fun q1 => am_exec (am_XX L xs) n d 33 24 [some (.ref 9), some (.int x1)] [(am_rf (am_tL.getD q1 none))] am_lay I J) P) : am_To (am_XX L xs) d 33 18 [some (.ref 9), some (.int x1)] [] I J P := am_start 4 h
theorem bk_33_24 {L : Nat} {xs : Nat → Int32} {d : Nat} {P : Option Value → am_I → am_J → Prop}  (I : am_I) (J : am_J) (q : Nat) (hq : q < 12) (h : am_Ob (fun n => some (none, am_lay, (am_up I (gH q) 3 (0 : Int32)), J)) P) : am_To (am_XX L xs) d 33 24 [none, none] [.ref (gH q)] I J P := by
  match q, hq, h with
  | 0, _, h => exact am_start 3 h
  | 1, _, h => exact am_start 3 h
  | 2, _, h => exact am_start 3 h
  | 3, _, h => exact am_start 3 h
  | 4, _, h => exact am_start 3 h
  | 5, _, h => exact am_start 3 h
  | 6, _, h => exact am_start 3 h
  | 7, _, h => exact am_start 3 h
  | 8, _, h => exact am_start 3 h
  | 9, _, h => exact am_start 3 h
  | 10, _, h => exact am_start 3 h
  | 11, _, h => exact am_start 3 h
  | q + 12, h0, _ => exact absurd h0 (by omega)
theorem bk_34_0 {L : Nat} {xs : Nat → Int32} {d : Nat} {P : Option Value → am_I → am_J → Prop} (x1 : Int32) (I : am_I) (J : am_J)  (h : am_Ob (fun n => (am_exec (am_XX L xs) n d 32 0 [some (.ref 9), some (.int x1)] [] am_lay I J).bind fun q => am_exec (am_XX L xs) n (d + 1) 34 8 [some (.ref 0), some (.int x1)] (q.1.toList ++ []) q.2.1 q.2.2.1 q.2.2.2) P) : am_To (am_XX L xs) (d + 1) 34 0 [some (.ref 0), some (.int x1)] [] I J P := am_start 4 h
theorem bk_34_8 {L : Nat} {xs : Nat → Int32} {d : Nat} {P : Option Value → am_I → am_J → Prop} (x1 : Int32) (s0 : Int32) (I : am_I) (J : am_J)  (h : am_Ob (fun n => if s0 = 0 then (some ((some (.int (-1 : Int32))), am_lay, I, J)) else ((am_ix x1 12).bind fun q1 => am_exec (am_XX L xs) n d 34 20 [some (.ref 0), some (.int x1)] [(am_rf (am_tL.getD q1 none))] am_lay I J)) P) : am_To (am_XX L xs) d 34 8 [some (.ref 0), some (.int x1)] [.int s0] I J P := am_start 6 h
theorem bk_34_20 {L : Nat} {xs : Nat → Int32} {d : Nat} {P : Option Value → am_I → am_J → Prop}  (I : am_I) (J : am_J) (q : Nat) (hq : q < 12) (h : am_Ob (fun n => some ((some (.int (I (gH q) 3))), am_lay, I, J)) P) : am_To (am_XX L xs) d 34 20 [none, none] [.ref (gH q)] I J P := by
  match q, hq, h with
  | 0, _, h => exact am_start 3 h
  | 1, _, h => exact am_start 3 h
  | 2, _, h => exact am_start 3 h
  | 3, _, h => exact am_start 3 h
  | 4, _, h => exact am_start 3 h
  | 5, _, h => exact am_start 3 h
  | 6, _, h => exact am_start 3 h
  | 7, _, h => exact am_start 3 h
  | 8, _, h => exact am_start 3 h
  | 9, _, h => exact am_start 3 h
  | 10, _, h => exact am_start 3 h
  | 11, _, h => exact am_start 3 h
  | q + 12, h0, _ => exact absurd h0 (by omega)
theorem bk_35_0 {L : Nat} {xs : Nat → Int32} {d : Nat} {P : Option Value → am_I → am_J → Prop} (x1 : Int32) (I : am_I) (J : am_J)  (h : am_Ob (fun n => (am_exec (am_XX L xs) n d 14 0 [some (.ref 1), some (.int x1)] [] am_lay I J).bind fun q => am_exec (am_XX L xs) n (d + 1) 35 8 [some (.ref 0), some (.int x1), none, none] (q.1.toList ++ []) q.2.1 q.2.2.1 q.2.2.2) P) : am_To (am_XX L xs) (d + 1) 35 0 [some (.ref 0), some (.int x1), none, none] [] I J P := am_start 4 h
theorem bk_35_8 {L : Nat} {xs : Nat → Int32} {d : Nat} {P : Option Value → am_I → am_J → Prop} (x1 : Int32) (s0 : Int32) (I : am_I) (J : am_J)  (h : am_Ob (fun n => if s0 = 0 then (some ((some (.int (-2 : Int32))), am_lay, I, J)) else ((am_exec (am_XX L xs) n d 36 0 [some (.ref 1), some (.int x1), none, none, none] [] am_lay I J).bind fun q => am_exec (am_XX L xs) n (d + 1) 35 22 [some (.ref 0), some (.int x1), none, none] (q.1.toList ++ []) q.2.1 q.2.2.1 q.2.2.2)) P) : am_To (am_XX L xs) (d + 1) 35 8 [some (.ref 0), some (.int x1), none, none] [.int s0] I J P := am_start 5 h
theorem bk_35_22 {L : Nat} {xs : Nat → Int32} {d : Nat} {P : Option Value → am_I → am_J → Prop} (s0 : Int64) (I : am_I) (J : am_J)  (h : am_Ob (fun n => (am_exec (am_XX L xs) n d 22 0 [some (.long s0), none, none, none, none, none, none] [] am_lay (am_up I 1 1 (0 : Int32)) J).bind fun q => am_exec (am_XX L xs) n (d + 1) 35 35 [some (.ref 0), none, some (.long s0), none] (q.1.toList ++ []) q.2.1 q.2.2.1 q.2.2.2) P) : am_To (am_XX L xs) (d + 1) 35 22 [some (.ref 0), none, none, none] [.long s0] I J P := am_start 7 h
theorem bk_35_35 {L : Nat} {xs : Nat → Int32} {d : Nat} {P : Option Value → am_I → am_J → Prop} (x2 : Int64) (s0 : Int32) (I : am_I) (J : am_J)  (h : am_Ob (fun n => if s0 = 0 then (some ((some (.int (-1 : Int32))), am_lay, I, J)) else ((am_exec (am_XX L xs) n d 25 0 [some (.ref 3), some (.long x2), none, none] [] am_lay I J).bind fun q => am_exec (am_XX L xs) n (d + 1) 35 46 [some (.ref 0), none, some (.long x2), none] (q.1.toList ++ []) q.2.1 q.2.2.1 q.2.2.2)) P) : am_To (am_XX L xs) (d + 1) 35 35 [some (.ref 0), none, some (.long x2), none] [.int s0] I J P := am_start 5 h
theorem bk_35_46 {L : Nat} {xs : Nat → Int32} {d : Nat} {P : Option Value → am_I → am_J → Prop} (s0 : Int32) (I : am_I) (J : am_J)  (h : am_Ob (fun n => some ((some (.int s0)), am_lay, I, J)) P) : am_To (am_XX L xs) d 35 46 [none, none, none, none] [.int s0] I J P := am_start 2 h
theorem bk_36_0 {L : Nat} {xs : Nat → Int32} {d : Nat} {P : Option Value → am_I → am_J → Prop} (x1 : Int32) (I : am_I) (J : am_J)  (h : am_Ob (fun n => am_exec (am_XX L xs) n d 36 5 [some (.ref 1), some (.int x1), some (.long (0 : Int64)), none, some (.int (0 : Int32))] [] am_lay I J) P) : am_To (am_XX L xs) d 36 0 [some (.ref 1), some (.int x1), none, none, none] [] I J P := am_start 4 h
theorem bk_36_5 {L : Nat} {xs : Nat → Int32} {d : Nat} {P : Option Value → am_I → am_J → Prop} (x1 : Int32) (x2 : Int64) (x4 : Int32) (I : am_I) (J : am_J)  (h : am_Ob (fun n => if x1 ≤ x4 then (some ((some (.long x2)), am_lay, I, J)) else (if (200 : Int32) ≤ x4 then (some ((some (.long x2)), am_lay, I, J)) else ((am_ix x4 200).bind fun q1 => (am_exec (am_XX L xs) n d 16 0 [some (.int (I 2 q1))] [] am_lay I J).bind fun q => am_exec (am_XX L xs) n (d + 1) 36 29 [some (.ref 1), some (.int x1), some (.long x2), none, some (.int x4)] (q.1.toList ++ []) q.2.1 q.2.2.1 q.2.2.2))) P) : am_To (am_XX L xs) (d + 1) 36 5 [some (.ref 1), some (.int x1), some (.long x2), none, some (.int x4)] [] I J P := am_start 11 h
theorem bk_36_29 {L : Nat} {xs : Nat → Int32} {d : Nat} {P : Option Value → am_I → am_J → Prop} (x1 : Int32) (x2 : Int64) (x4 : Int32) (s0 : Int32) (I : am_I) (J : am_J)  (h : am_Ob (fun n => if s0 = 0 then (some ((some (.long (-1 : Int64))), am_lay, I, J)) else ((am_ix x4 200).bind fun q1 => (am_exec (am_XX L xs) n d 19 0 [some (.long x2), none, some (.int (I 2 q1)), none] [] am_lay I J).bind fun q => am_exec (am_XX L xs) n (d + 1) 36 47 [some (.ref 1), some (.int x1), some (.long x2), none, some (.int x4)] (q.1.toList ++ []) q.2.1 q.2.2.1 q.2.2.2)) P) : am_To (am_XX L xs) (d + 1) 36 29 [some (.ref 1), some (.int x1), some (.long x2), none, some (.int x4)] [.int s0] I J P := am_start 7 h
theorem bk_36_47 {L : Nat} {xs : Nat → Int32} {d : Nat} {P : Option Value → am_I → am_J → Prop} (x1 : Int32) (x4 : Int32) (s0 : Int64) (I : am_I) (J : am_J)  (h : am_Ob (fun n => am_exec (am_XX L xs) n d 36 5 [some (.ref 1), some (.int x1), some (.long s0), none, some (.int (x4 + (1 : Int32)))] [] am_lay I J) P) : am_To (am_XX L xs) d 36 47 [some (.ref 1), some (.int x1), none, none, some (.int x4)] [.long s0] I J P := am_start 3 h
theorem bk_37_0 {L : Nat} {xs : Nat → Int32} {d : Nat} {P : Option Value → am_I → am_J → Prop} (x1 : Int32) (x2 : Int32) (I : am_I) (J : am_J)  (h : am_Ob (fun n => (am_exec (am_XX L xs) n d 38 0 [some (.ref 3), some (.int x1)] [] am_lay I J).bind fun q => am_exec (am_XX L xs) n (d + 1) 37 8 [some (.ref 0), some (.int x1), some (.int x2)] (q.1.toList ++ []) q.2.1 q.2.2.1 q.2.2.2) P) : am_To (am_XX L xs) (d + 1) 37 0 [some (.ref 0), some (.int x1), some (.int x2)] [] I J P := am_start 4 h
theorem bk_37_8 {L : Nat} {xs : Nat → Int32} {d : Nat} {P : Option Value → am_I → am_J → Prop} (x1 : Int32) (x2 : Int32) (s0 : Int32) (I : am_I) (J : am_J)  (h : am_Ob (fun n => if s0 = 0 then (some ((some (.int (-1 : Int32))), am_lay, I, J)) else (if x2 = (-1 : Int32) then ((am_exec (am_XX L xs) (n + 1) d 39 0 [some (.ref 3), some (.int x1), none, none] [] am_lay I J).bind fun q => am_exec (am_XX L xs) (n + 1) (d + 1) 37 26 [some (.ref 0), some (.int x1), some (.int x2)] (q.1.toList ++ []) q.2.1 q.2.2.1 q.2.2.2) else ((am_exec (am_XX L xs) n d 40 0 [some (.ref 3), some (.int x1), some (.int x2), none] [] am_lay I J).bind fun q => am_exec (am_XX L xs) n (d + 1) 37 38 [some (.ref 0), some (.int x1), some (.int x2)] (q.1.toList ++ []) q.2.1 q.2.2.1 q.2.2.2))) P) : am_To (am_XX L xs) (d + 1) 37 8 [some (.ref 0), some (.int x1), some (.int x2)] [.int s0] I J P := am_start 9 h
theorem bk_37_38 {L : Nat} {xs : Nat → Int32} {d : Nat} {P : Option Value → am_I → am_J → Prop} (s0 : Int32) (I : am_I) (J : am_J)  (h : am_Ob (fun n => some ((some (.int s0)), am_lay, I, J)) P) : am_To (am_XX L xs) d 37 38 [none, none, none] [.int s0] I J P := am_start 1 h
theorem bk_37_26 {L : Nat} {xs : Nat → Int32} {d : Nat} {P : Option Value → am_I → am_J → Prop} (s0 : Int32) (I : am_I) (J : am_J)  (h : am_Ob (fun n => some ((some (.int s0)), am_lay, I, J)) P) : am_To (am_XX L xs) d 37 26 [none, none, none] [.int s0] I J P := am_start 2 h
theorem bk_38_0 {L : Nat} {xs : Nat → Int32} {d : Nat} {P : Option Value → am_I → am_J → Prop} (x1 : Int32) (I : am_I) (J : am_J)  (h : am_Ob (fun n => if x1 < 0 then (some ((some (.int (0 : Int32))), am_lay, I, J)) else (if (I 3 1) ≤ x1 then (some ((some (.int (0 : Int32))), am_lay, I, J)) else (some ((some (.int (1 : Int32))), am_lay, I, J)))) P) : am_To (am_XX L xs) d 38 0 [some (.ref 3), some (.int x1)] [] I J P := am_start 9 h
theorem bk_39_0 {L : Nat} {xs : Nat → Int32} {d : Nat} {P : Option Value → am_I → am_J → Prop} (x1 : Int32) (I : am_I) (J : am_J)  (h : am_Ob (fun n => am_exec (am_XX L xs) n d 39 4 [some (.ref 3), some (.int x1), some (.int (0 : Int32)), some (.int (0 : Int32))] [] am_lay I J) P) : am_To (am_XX L xs) d 39 0 [some (.ref 3), some (.int x1), none, none] [] I J P := am_start 4 h
theorem bk_39_4 {L : Nat} {xs : Nat → Int32} {d : Nat} {P : Option Value → am_I → am_J → Prop} (x1 : Int32) (x2 : Int32) (x3 : Int32) (I : am_I) (J : am_J)  (h : am_Ob (fun n => if (8 : Int32) ≤ x3 then (some ((some (.int x2)), am_lay, I, J)) else ((am_ix x1 24).bind fun q1 => if (lg_cmp (((J 4 q1).toUInt64 >>> (((8 : Int32) * x3).toInt64.toUInt64 &&& Int64.toUInt64 63)).toInt64) (0 : Int64)) = 0 then (am_exec (am_XX L xs) (n + 1) d 39 4 [some (.ref 3), some (.int x1), some (.int x2), some (.int (x3 + (1 : Int32)))] [] am_lay I J) else (am_exec (am_XX L xs) n d 39 4 [some (.ref 3), some (.int x1), some (.int (x2 + (1 : Int32))), some (.int (x3 + (1 : Int32)))] [] am_lay I J))) P) : am_To (am_XX L xs) d 39 4 [some (.ref 3), some (.int x1), some (.int x2), some (.int x3)] [] I J P := am_start 17 h
theorem bk_40_0 {L : Nat} {xs : Nat → Int32} {d : Nat} {P : Option Value → am_I → am_J → Prop} (x1 : Int32) (x2 : Int32) (I : am_I) (J : am_J)  (h : am_Ob (fun n => (am_exec (am_XX L xs) n d 39 0 [some (.ref 3), some (.int x1), none, none] [] am_lay I J).bind fun q => am_exec (am_XX L xs) n (d + 1) 40 5 [some (.ref 3), some (.int x1), some (.int x2), none] (q.1.toList ++ []) q.2.1 q.2.2.1 q.2.2.2) P) : am_To (am_XX L xs) (d + 1) 40 0 [some (.ref 3), some (.int x1), some (.int x2), none] [] I J P := am_start 3 h
theorem bk_40_5 {L : Nat} {xs : Nat → Int32} {d : Nat} {P : Option Value → am_I → am_J → Prop} (x1 : Int32) (x2 : Int32) (s0 : Int32) (I : am_I) (J : am_J)  (h : am_Ob (fun n => if x2 < 0 then (some ((some (.int (-1 : Int32))), am_lay, I, J)) else (if x2 < s0 then ((am_ix x1 24).bind fun q1 => some ((some (.int (((((J 4 q1).toUInt64 >>> (((8 : Int32) * ((s0 - (1 : Int32)) - x2)).toInt64.toUInt64 &&& Int64.toUInt64 63)).toInt64).toInt32) &&& (255 : Int32)))), am_lay, I, J)) else (some ((some (.int (-1 : Int32))), am_lay, I, J)))) P) : am_To (am_XX L xs) d 40 5 [some (.ref 3), some (.int x1), some (.int x2), none] [.int s0] I J P := am_start 22 h
theorem bk_41_0 {L : Nat} {xs : Nat → Int32} {d : Nat} {P : Option Value → am_I → am_J → Prop} (x1 : Int32) (x2 : Int32) (x3 : Int32) (x4 : Int32) (x5 : Int32) (I : am_I) (J : am_J)  (h : am_Ob (fun n => if x1 < 0 then (am_exec (am_XX L xs) (n + 13) (d + 1) 41 36 [some (.ref 0), some (.int x1), some (.int x2), some (.int x3), some (.int x4), some (.int x5), none, none] [] am_lay I J) else (if (9 : Int32) < x1 then (am_exec (am_XX L xs) (n + 10) (d + 1) 41 36 [some (.ref 0), some (.int x1), some (.int x2), some (.int x3), some (.int x4), some (.int x5), none, none] [] am_lay I J) else (if x2 < 0 then (am_exec (am_XX L xs) (n + 8) (d + 1) 41 36 [some (.ref 0), some (.int x1), some (.int x2), some (.int x3), some (.int x4), some (.int x5), none, none] [] am_lay I J) else (if (3 : Int32) < x2 then (am_exec (am_XX L xs) (n + 5) (d + 1) 41 36 [some (.ref 0), some (.int x1), some (.int x2), some (.int x3), some (.int x4), some (.int x5), none, none] [] am_lay I J) else ((am_exec (am_XX L xs) n d 42 0 [some (.ref 3), some (.int x3), some (.int x4)] [] am_lay I J).bind fun q => am_exec (am_XX L xs) n (d + 1) 41 29 [some (.ref 0), some (.int x1), some (.int x2), some (.int x3), some (.int x4), some (.int x5), none, none] (q.1.toList ++ []) q.2.1 q.2.2.1 q.2.2.2))))) P) : am_To (am_XX L xs) (d + 1) 41 0 [some (.ref 0), some (.int x1), some (.int x2), some (.int x3), some (.int x4), some (.int x5), none, none] [] I J P := am_start 15 h
theorem bk_41_36 {L : Nat} {xs : Nat → Int32} {d : Nat} {P : Option Value → am_I → am_J → Prop} (x1 : Int32) (x2 : Int32) (x3 : Int32) (x4 : Int32) (x5 : Int32) (I : am_I) (J : am_J)  (h : am_Ob (fun n => am_exec (am_XX L xs) n d 41 37 [some (.ref 0), some (.int x1), some (.int x2), some (.int x3), some (.int x4), some (.int x5), none, none] [.int (0 : Int32)] am_lay I J) P) : am_To (am_XX L xs) d 41 36 [some (.ref 0), some (.int x1), some (.int x2), some (.int x3), some (.int x4), some (.int x5), none, none] [] I J P := am_start 1 h
theorem bk_41_29 {L : Nat} {xs : Nat → Int32} {d : Nat} {P : Option Value → am_I → am_J → Prop} (x1 : Int32) (x2 : Int32) (x3 : Int32) (x4 : Int32) (x5 : Int32) (s0 : Int32) (I : am_I) (J : am_J)  (h : am_Ob (fun n => if s0 = 0 then (am_exec (am_XX L xs) (n + 2) d 41 36 [some (.ref 0), some (.int x1), some (.int x2), some (.int x3), some (.int x4), some (.int x5), none, none] [] am_lay I J) else (am_exec (am_XX L xs) n d 41 37 [some (.ref 0), some (.int x1), some (.int x2), some (.int x3), some (.int x4), some (.int x5), none, none] [.int (1 : Int32)] am_lay I J)) P) : am_To (am_XX L xs) d 41 29 [some (.ref 0), some (.int x1), some (.int x2), some (.int x3), some (.int x4), some (.int x5), none, none] [.int s0] I J P := am_start 3 h
theorem bk_41_37 {L : Nat} {xs : Nat → Int32} {d : Nat} {P : Option Value → am_I → am_J → Prop} (x1 : Int32) (x2 : Int32) (x3 : Int32) (x4 : Int32) (x5 : Int32) (s0 : Int32) (I : am_I) (J : am_J)  (h : am_Ob (fun n => if x2 = (3 : Int32) then (am_exec (am_XX L xs) (n + 6) d 41 57 [some (.ref 0), some (.int x1), some (.int x2), some (.int x3), some (.int x4), some (.int x5), some (.int s0), none] [] am_lay I J) else (if x5 < (1 : Int32) then (am_exec (am_XX L xs) (n + 3) d 41 61 [some (.ref 0), some (.int x1), some (.int x2), some (.int x3), some (.int x4), some (.int x5), some (.int s0), none] [] am_lay I J) else (if (9 : Int32) < x5 then (am_exec (am_XX L xs) n d 41 61 [some (.ref 0), some (.int x1), some (.int x2), some (.int x3), some (.int x4), some (.int x5), some (.int s0), none] [] am_lay I J) else (am_exec (am_XX L xs) n d 41 57 [some (.ref 0), some (.int x1), some (.int x2), some (.int x3), some (.int x4), some (.int x5), some (.int s0), none] [] am_lay I J)))) P) : am_To (am_XX L xs) d 41 37 [some (.ref 0), some (.int x1), some (.int x2), some (.int x3), some (.int x4), some (.int x5), none, none] [.int s0] I J P := am_start 10 h
theorem bk_41_57 {L : Nat} {xs : Nat → Int32} {d : Nat} {P : Option Value → am_I → am_J → Prop} (x1 : Int32) (x2 : Int32) (x3 : Int32) (x4 : Int32) (x5 : Int32) (x6 : Int32) (I : am_I) (J : am_J)  (h : am_Ob (fun n => am_exec (am_XX L xs) n d 41 62 [some (.ref 0), some (.int x1), some (.int x2), some (.int x3), some (.int x4), some (.int x5), some (.int x6), none] [.int (1 : Int32)] am_lay I J) P) : am_To (am_XX L xs) d 41 57 [some (.ref 0), some (.int x1), some (.int x2), some (.int x3), some (.int x4), some (.int x5), some (.int x6), none] [] I J P := am_start 2 h
theorem bk_41_61 {L : Nat} {xs : Nat → Int32} {d : Nat} {P : Option Value → am_I → am_J → Prop} (x1 : Int32) (x2 : Int32) (x3 : Int32) (x4 : Int32) (x5 : Int32) (x6 : Int32) (I : am_I) (J : am_J)  (h : am_Ob (fun n => am_exec (am_XX L xs) n d 41 62 [some (.ref 0), some (.int x1), some (.int x2), some (.int x3), some (.int x4), some (.int x5), some (.int x6), none] [.int (0 : Int32)] am_lay I J) P) : am_To (am_XX L xs) d 41 61 [some (.ref 0), some (.int x1), some (.int x2), some (.int x3), some (.int x4), some (.int x5), some (.int x6), none] [] I J P := am_start 1 h
theorem bk_41_62 {L : Nat} {xs : Nat → Int32} {d : Nat} {P : Option Value → am_I → am_J → Prop} (x1 : Int32) (x2 : Int32) (x3 : Int32) (x4 : Int32) (x5 : Int32) (x6 : Int32) (s0 : Int32) (I : am_I) (J : am_J)  (h : am_Ob (fun n => if x6 = 0 then (some ((some (.int (-1 : Int32))), am_lay, I, J)) else (if s0 = 0 then (some ((some (.int (-1 : Int32))), am_lay, I, J)) else ((am_exec (am_XX L xs) n d 28 0 [some (.ref 60)] [] am_lay I J).bind fun q => am_exec (am_XX L xs) n (d + 1) 41 84 [some (.ref 0), some (.int x1), some (.int x2), some (.int x3), some (.int x4), some (.int x5), some (.int x6), some (.int s0)] (q.1.toList ++ []) q.2.1 q.2.2.1 q.2.2.2))) P) : am_To (am_XX L xs) (d + 1) 41 62 [some (.ref 0), some (.int x1), some (.int x2), some (.int x3), some (.int x4), some (.int x5), some (.int x6), none] [.int s0] I J P := am_start 9 h
theorem bk_41_84 {L : Nat} {xs : Nat → Int32} {d : Nat} {P : Option Value → am_I → am_J → Prop} (x1 : Int32) (x2 : Int32) (x3 : Int32) (x4 : Int32) (x5 : Int32) (s0 : Int32) (I : am_I) (J : am_J)  (h : am_Ob (fun n => if s0 = 0 then (if x2 = (3 : Int32) then ((am_exec (am_XX L xs) (n + 1) d 43 0 [some (.ref 9), some (.int x1), some (.int x3), some (.int x4)] [] am_lay (am_up I 0 7 (1 : Int32)) J).bind fun q => am_exec (am_XX L xs) (n + 1) (d + 1) 41 110 [some (.ref 0), some (.int x1), some (.int x2), some (.int x3), some (.int x4), some (.int x5), none, none] (q.1.toList ++ []) q.2.1 q.2.2.1 q.2.2.2) else ((am_exec (am_XX L xs) n d 26 0 [some (.int x2), some (.int x3), some (.int x4), none, none, none] [] am_lay (am_up I 0 7 (1 : Int32)) J).bind fun q => am_exec (am_XX L xs) n (d + 1) 41 125 [some (.ref 0), some (.int x1), some (.int x2), some (.int x3), some (.int x4), some (.int x5), none, none] (q.1.toList ++ [.int x1, .ref 9]) q.2.1 q.2.2.1 q.2.2.2)) else (some ((some (.int (-1 : Int32))), am_lay, I, J))) P) : am_To (am_XX L xs) (d + 1) 41 84 [some (.ref 0), some (.int x1), some (.int x2), some (.int x3), some (.int x4), some (.int x5), none, none] [.int s0] I J P := am_start 14 h
theorem bk_41_125 {L : Nat} {xs : Nat → Int32} {d : Nat} {P : Option Value → am_I → am_J → Prop} (x5 : Int32) (s1 : Int32) (s2 : Int32) (I : am_I) (J : am_J)  (h : am_Ob (fun n => (am_exec (am_XX L xs) n d 44 0 [some (.ref 9), some (.int s1), some (.int s2), some (.int x5)] [] am_lay I J).bind fun q => am_exec (am_XX L xs) n (d + 1) 41 130 [none, none, none, none, none, some (.int x5), none, none] (q.1.toList ++ []) q.2.1 q.2.2.1 q.2.2.2) P) : am_To (am_XX L xs) (d + 1) 41 125 [none, none, none, none, none, some (.int x5), none, none] [.int s2, .int s1, .ref 9] I J P := am_start 2 h
theorem bk_41_110 {L : Nat} {xs : Nat → Int32} {d : Nat} {P : Option Value → am_I → am_J → Prop} (s0 : Int32) (I : am_I) (J : am_J)  (h : am_Ob (fun n => some ((some (.int s0)), am_lay, I, J)) P) : am_To (am_XX L xs) d 41 110 [none, none, none, none, none, none, none, none] [.int s0] I J P := am_start 2 h
theorem bk_41_130 {L : Nat} {xs : Nat → Int32} {d : Nat} {P : Option Value → am_I → am_J → Prop} (s0 : Int32) (I : am_I) (J : am_J)  (h : am_Ob (fun n => some ((some (.int s0)), am_lay, I, J)) P) : am_To (am_XX L xs) d 41 130 [none, none, none, none, none, none, none, none] [.int s0] I J P := am_start 1 h
theorem bk_42_0 {L : Nat} {xs : Nat → Int32} {d : Nat} {P : Option Value → am_I → am_J → Prop} (x1 : Int32) (x2 : Int32) (I : am_I) (J : am_J)  (h : am_Ob (fun n => (am_exec (am_XX L xs) n d 38 0 [some (.ref 3), some (.int x1)] [] am_lay I J).bind fun q => am_exec (am_XX L xs) n (d + 1) 42 5 [some (.ref 3), some (.int x1), some (.int x2)] (q.1.toList ++ []) q.2.1 q.2.2.1 q.2.2.2) P) : am_To (am_XX L xs) (d + 1) 42 0 [some (.ref 3), some (.int x1), some (.int x2)] [] I J P := am_start 3 h
theorem bk_42_5 {L : Nat} {xs : Nat → Int32} {d : Nat} {P : Option Value → am_I → am_J → Prop} (x1 : Int32) (x2 : Int32) (s0 : Int32) (I : am_I) (J : am_J)  (h : am_Ob (fun n => if s0 = 0 then (some ((some (.int (0 : Int32))), am_lay, I, J)) else ((am_exec (am_XX L xs) n d 38 0 [some (.ref 3), some (.int x2)] [] am_lay I J).bind fun q => am_exec (am_XX L xs) n (d + 1) 42 13 [some (.ref 3), some (.int x1), some (.int x2)] (q.1.toList ++ []) q.2.1 q.2.2.1 q.2.2.2)) P) : am_To (am_XX L xs) (d + 1) 42 5 [some (.ref 3), some (.int x1), some (.int x2)] [.int s0] I J P := am_start 4 h
theorem bk_42_13 {L : Nat} {xs : Nat → Int32} {d : Nat} {P : Option Value → am_I → am_J → Prop} (x1 : Int32) (x2 : Int32) (s0 : Int32) (I : am_I) (J : am_J)  (h : am_Ob (fun n => if s0 = 0 then (some ((some (.int (0 : Int32))), am_lay, I, J)) else (if x1 = x2 then (some ((some (.int (0 : Int32))), am_lay, I, J)) else (some ((some (.int (1 : Int32))), am_lay, I, J)))) P) : am_To (am_XX L xs) d 42 13 [none, some (.int x1), some (.int x2)] [.int s0] I J P := am_start 7 h
