set_option maxRecDepth 100000
set_option maxHeartbeats 4000000
theorem bk_79_0 {L : Nat} {xs : Nat → Int32} {d : Nat} {P : Option Value → am_I → am_J → Prop} (x1 : Int32) (I : am_I) (J : am_J)  (h : am_To (am_XX L xs) d 38 0 [some (.ref 3), some (.int x1)] [] I J (fun r I2 J2 => am_To (am_XX L xs) (d + 1) 79 8 [some (.ref 0), some (.int x1)] (r.toList ++ []) I2 J2 P)) : am_To (am_XX L xs) (d + 1) 79 0 [some (.ref 0), some (.int x1)] [] I J P := by
  exact am_pcall 4 (fun n => rfl) (am_lv (am_lv (am_l0))) h
theorem bk_79_8 {L : Nat} {xs : Nat → Int32} {d : Nat} {P : Option Value → am_I → am_J → Prop} (x1 : Int32) (s0 : Int32) (I : am_I) (J : am_J)  (h : am_If (s0 = 0) (P (some (.int (-1 : Int32))) I J) (am_To (am_XX L xs) d 54 0 [some (.ref 0)] [] I J (fun r I2 J2 => am_To (am_XX L xs) (d + 1) 79 15 [none, some (.int x1)] (r.toList ++ []) I2 J2 P))) : am_To (am_XX L xs) (d + 1) 79 8 [some (.ref 0), some (.int x1)] [.int s0] I J P := by
  by_cases c1 : s0 = 0
  · replace h := h.1 c1
    exact am_pret 3 (fun n => (if_pos c1).trans (rfl)) h
  · replace h := h.2 c1
    exact am_pcall 3 (fun n => (if_neg c1).trans (rfl)) (am_ln (am_lv (am_l0))) h
theorem bk_79_15 {L : Nat} {xs : Nat → Int32} {d : Nat} {P : Option Value → am_I → am_J → Prop} (x1 : Int32) (I : am_I) (J : am_J)  (h : am_To (am_XX L xs) d 80 0 [some (.ref 66), some (.int x1), none, none, none] [] I J (fun r I2 J2 => am_To (am_XX L xs) (d + 1) 79 19 [none, none] (r.toList ++ []) I2 J2 P)) : am_To (am_XX L xs) (d + 1) 79 15 [none, some (.int x1)] [.ref 66] I J P := by
  exact am_pcall 2 (fun n => rfl) (am_ln (am_ln (am_l0))) h
theorem bk_79_19 {L : Nat} {xs : Nat → Int32} {d : Nat} {P : Option Value → am_I → am_J → Prop} (s0 : Int32) (I : am_I) (J : am_J)  (h : P (some (.int s0)) I J) : am_To (am_XX L xs) d 79 19 [none, none] [.int s0] I J P := by
  exact am_pret 2 (fun n => rfl) h
theorem bk_80_0 {L : Nat} {xs : Nat → Int32} {d : Nat} {P : Option Value → am_I → am_J → Prop} (x1 : Int32) (I : am_I) (J : am_J)  (h : am_Ix x1 24 fun q1 => am_To (am_XX L xs) d 80 12 [some (.ref 66), some (.int x1), some (.int (I 71 q1)), some (.int (0 : Int32)), some (.int (0 : Int32))] [] I J P) : am_To (am_XX L xs) d 80 0 [some (.ref 66), some (.int x1), none, none, none] [] I J P := by
  obtain ⟨q1, j1, h⟩ := h
  exact am_path 9 (fun n => (am_bs j1).trans (rfl)) (am_lv (am_lv (am_lv (am_lv (am_lv (am_l0)))))) h
theorem bk_80_12 {L : Nat} {xs : Nat → Int32} {d : Nat} {P : Option Value → am_I → am_J → Prop} (x1 : Int32) (x2 : Int32) (x3 : Int32) (x4 : Int32) (I : am_I) (J : am_J)  (h : am_If ((24 : Int32) ≤ x4) (P (some (.int x3)) I J) (am_To (am_XX L xs) d 62 0 [some (.int x2), some (.int x4)] [] I J (fun r I2 J2 => am_To (am_XX L xs) (d + 1) 80 25 [some (.ref 66), some (.int x1), some (.int x2), some (.int x3), some (.int x4)] (r.toList ++ []) I2 J2 P))) : am_To (am_XX L xs) (d + 1) 80 12 [some (.ref 66), some (.int x1), some (.int x2), some (.int x3), some (.int x4)] [] I J P := by
  by_cases c1 : (24 : Int32) ≤ x4
  · replace h := h.1 c1
    exact am_pret 5 (fun n => (if_pos c1).trans (rfl)) h
  · replace h := h.2 c1
    exact am_pcall 6 (fun n => (if_neg c1).trans (rfl)) (am_lv (am_lv (am_lv (am_lv (am_lv (am_l0)))))) h
theorem bk_80_25 {L : Nat} {xs : Nat → Int32} {d : Nat} {P : Option Value → am_I → am_J → Prop} (x1 : Int32) (x2 : Int32) (x3 : Int32) (x4 : Int32) (s0 : Int32) (I : am_I) (J : am_J)  (h : am_If (s0 = 0) (am_To (am_XX L xs) (d + 1) 80 12 [some (.ref 66), some (.int x1), some (.int x2), some (.int x3), some (.int (x4 + (1 : Int32)))] [] I J P) (am_Ix x1 24 fun q1 => am_To (am_XX L xs) d 81 0 [some (.ref 66), some (.int x4), some (.int (I 71 q1)), none, none, none, none] [] I J (fun r I2 J2 => am_To (am_XX L xs) (d + 1) 80 41 [some (.ref 66), some (.int x1), none, some (.int x3), some (.int x4)] (r.toList ++ [.int x2]) I2 J2 P))) : am_To (am_XX L xs) (d + 1) 80 25 [some (.ref 66), some (.int x1), some (.int x2), some (.int x3), some (.int x4)] [.int s0] I J P := by
  by_cases c1 : s0 = 0
  · replace h := h.1 c1
    exact am_path 3 (fun n => (if_pos c1).trans (rfl)) (am_lv (am_lv (am_lv (am_lv (am_lv (am_l0)))))) h
  · replace h := h.2 c1
    obtain ⟨q1, j2, h⟩ := h
    exact am_pcall 9 (fun n => (if_neg c1).trans ((am_bs j2).trans (rfl))) (am_lv (am_lv (am_ln (am_lv (am_lv (am_l0)))))) h
theorem bk_80_41 {L : Nat} {xs : Nat → Int32} {d : Nat} {P : Option Value → am_I → am_J → Prop} (x1 : Int32) (x3 : Int32) (x4 : Int32) (s0 : Int32) (s1 : Int32) (I : am_I) (J : am_J)  (h : am_To (am_XX L xs) d 80 12 [some (.ref 66), some (.int x1), some (.int (s0 &&& (s1 ^^^ (-1 : Int32)))), some (.int (x3 + (1 : Int32))), some (.int (x4 + (1 : Int32)))] [] I J P) : am_To (am_XX L xs) d 80 41 [some (.ref 66), some (.int x1), none, some (.int x3), some (.int x4)] [.int s1, .int s0] I J P := by
  exact am_path 7 (fun n => rfl) (am_lv (am_lv (am_lv (am_lv (am_lv (am_l0)))))) h
theorem bk_81_0 {L : Nat} {xs : Nat → Int32} {d : Nat} {P : Option Value → am_I → am_J → Prop} (x1 : Int32) (x2 : Int32) (I : am_I) (J : am_J)  (h : am_To (am_XX L xs) d 81 7 [some (.ref 66), none, some (.int x2), some (.int ((1 : Int32) <<< (x1 &&& 31))), some (.int (0 : Int32)), none, none] [] I J P) : am_To (am_XX L xs) d 81 0 [some (.ref 66), some (.int x1), some (.int x2), none, none, none, none] [] I J P := by
  exact am_path 6 (fun n => rfl) (am_lv (am_ln (am_lv (am_lv (am_lv (am_ln (am_ln (am_l0)))))))) h
theorem bk_81_7 {L : Nat} {xs : Nat → Int32} {d : Nat} {P : Option Value → am_I → am_J → Prop} (x2 : Int32) (x3 : Int32) (x4 : Int32) (I : am_I) (J : am_J)  (h : am_If ((24 : Int32) ≤ x4) (P (some (.int x3)) I J) (am_To (am_XX L xs) d 81 20 [some (.ref 66), none, some (.int x2), some (.int x3), some (.int x4), some (.int x3), some (.int (0 : Int32))] [] I J P)) : am_To (am_XX L xs) d 81 7 [some (.ref 66), none, some (.int x2), some (.int x3), some (.int x4), none, none] [] I J P := by
  by_cases c1 : (24 : Int32) ≤ x4
  · replace h := h.1 c1
    exact am_pret 5 (fun n => (if_pos c1).trans (rfl)) h
  · replace h := h.2 c1
    exact am_path 7 (fun n => (if_neg c1).trans (rfl)) (am_lv (am_ln (am_lv (am_lv (am_lv (am_lv (am_lv (am_l0)))))))) h
theorem bk_81_20 {L : Nat} {xs : Nat → Int32} {d : Nat} {P : Option Value → am_I → am_J → Prop} (x2 : Int32) (x3 : Int32) (x4 : Int32) (x5 : Int32) (x6 : Int32) (I : am_I) (J : am_J)  (h : am_If ((24 : Int32) ≤ x6) (am_If (x3 = x5) (P (some (.int x3)) I J) (am_To (am_XX L xs) (d + 1) 81 7 [some (.ref 66), none, some (.int x2), some (.int x3), some (.int (x4 + (1 : Int32))), none, none] [] I J P)) (am_To (am_XX L xs) d 62 0 [some (.int x3), some (.int x6)] [] I J (fun r I2 J2 => am_To (am_XX L xs) (d + 1) 81 33 [some (.ref 66), none, some (.int x2), some (.int x3), some (.int x4), some (.int x5), some (.int x6)] (r.toList ++ []) I2 J2 P))) : am_To (am_XX L xs) (d + 1) 81 20 [some (.ref 66), none, some (.int x2), some (.int x3), some (.int x4), some (.int x5), some (.int x6)] [] I J P := by
  by_cases c1 : (24 : Int32) ≤ x6
  · replace h := h.1 c1
    by_cases c2 : x3 = x5
    · replace h := h.1 c2
      exact am_pret 8 (fun n => (if_pos c1).trans ((if_pos c2).trans (rfl))) h
    · replace h := h.2 c2
      exact am_path 8 (fun n => (if_pos c1).trans ((if_neg c2).trans (rfl))) (am_lv (am_ln (am_lv (am_lv (am_lv (am_ln (am_ln (am_l0)))))))) h
  · replace h := h.2 c1
    exact am_pcall 6 (fun n => (if_neg c1).trans (rfl)) (am_lv (am_ln (am_lv (am_lv (am_lv (am_lv (am_lv (am_l0)))))))) h
theorem bk_81_33 {L : Nat} {xs : Nat → Int32} {d : Nat} {P : Option Value → am_I → am_J → Prop} (x2 : Int32) (x3 : Int32) (x4 : Int32) (x5 : Int32) (x6 : Int32) (s0 : Int32) (I : am_I) (J : am_J)  (h : am_If (s0 = 0) (am_To (am_XX L xs) d 81 20 [some (.ref 66), none, some (.int x2), some (.int x3), some (.int x4), some (.int x5), some (.int (x6 + (1 : Int32)))] [] I J P) (am_Ix x6 24 fun q1 => am_To (am_XX L xs) d 81 20 [some (.ref 66), none, some (.int x2), some (.int (x3 ||| ((I 71 q1) &&& x2))), some (.int x4), some (.int x5), some (.int (x6 + (1 : Int32)))] [] I J P)) : am_To (am_XX L xs) d 81 33 [some (.ref 66), none, some (.int x2), some (.int x3), some (.int x4), some (.int x5), some (.int x6)] [.int s0] I J P := by
  by_cases c1 : s0 = 0
  · replace h := h.1 c1
    exact am_path 3 (fun n => (if_pos c1).trans (rfl)) (am_lv (am_ln (am_lv (am_lv (am_lv (am_lv (am_lv (am_l0)))))))) h
  · replace h := h.2 c1
    obtain ⟨q1, j2, h⟩ := h
    exact am_path 12 (fun n => (if_neg c1).trans ((am_bs j2).trans (rfl))) (am_lv (am_ln (am_lv (am_lv (am_lv (am_lv (am_lv (am_l0)))))))) h
theorem bk_82_0 {L : Nat} {xs : Nat → Int32} {d : Nat} {P : Option Value → am_I → am_J → Prop}  (I : am_I) (J : am_J)  (h : am_To (am_XX L xs) d 54 0 [some (.ref 0)] [] I J (fun r I2 J2 => am_To (am_XX L xs) (d + 1) 82 4 [none] (r.toList ++ []) I2 J2 P)) : am_To (am_XX L xs) (d + 1) 82 0 [some (.ref 0)] [] I J P := by
  exact am_pcall 2 (fun n => rfl) (am_ln (am_l0)) h
theorem bk_82_4 {L : Nat} {xs : Nat → Int32} {d : Nat} {P : Option Value → am_I → am_J → Prop}  (I : am_I) (J : am_J)  (h : P (some (.int (I 66 7))) I J) : am_To (am_XX L xs) d 82 4 [none] [.ref 66] I J P := by
  exact am_pret 2 (fun n => rfl) h
theorem bk_83_0 {L : Nat} {xs : Nat → Int32} {d : Nat} {P : Option Value → am_I → am_J → Prop} (x1 : Int32) (I : am_I) (J : am_J)  (h : am_To (am_XX L xs) d 84 0 [some (.ref 3)] [] I J (fun r I2 J2 => am_To (am_XX L xs) (d + 1) 83 8 [some (.ref 0), some (.int x1), none] (r.toList ++ [.int x1]) I2 J2 P)) : am_To (am_XX L xs) (d + 1) 83 0 [some (.ref 0), some (.int x1), none] [] I J P := by
  exact am_pcall 4 (fun n => rfl) (am_lv (am_lv (am_ln (am_l0)))) h
theorem bk_83_8 {L : Nat} {xs : Nat → Int32} {d : Nat} {P : Option Value → am_I → am_J → Prop} (x1 : Int32) (s0 : Int32) (s1 : Int32) (I : am_I) (J : am_J)  (h : am_If ((s0 &&& (s1 ^^^ (-1 : Int32))) = 0) (am_To (am_XX L xs) d 83 19 [some (.ref 0), some (.int x1), none] [.int (0 : Int32)] I J P) (am_To (am_XX L xs) d 83 19 [some (.ref 0), some (.int x1), none] [.int (1 : Int32)] I J P)) : am_To (am_XX L xs) d 83 8 [some (.ref 0), some (.int x1), none] [.int s1, .int s0] I J P := by
  by_cases c1 : (s0 &&& (s1 ^^^ (-1 : Int32))) = 0
  · replace h := h.1 c1
    exact am_path 5 (fun n => (if_pos c1).trans (rfl)) (am_lv (am_lv (am_ln (am_l0)))) h
  · replace h := h.2 c1
    exact am_path 6 (fun n => (if_neg c1).trans (rfl)) (am_lv (am_lv (am_ln (am_l0)))) h
theorem bk_83_19 {L : Nat} {xs : Nat → Int32} {d : Nat} {P : Option Value → am_I → am_J → Prop} (x1 : Int32) (s0 : Int32) (I : am_I) (J : am_J)  (h : am_If (s0 = 0) (am_To (am_XX L xs) d 71 0 [some (.int x1)] [] I J (fun r I2 J2 => am_To (am_XX L xs) (d + 1) 83 28 [some (.ref 0), some (.int x1), none] (r.toList ++ []) I2 J2 P)) (P (some (.int (-1 : Int32))) I J)) : am_To (am_XX L xs) (d + 1) 83 19 [some (.ref 0), some (.int x1), none] [.int s0] I J P := by
  by_cases c1 : s0 = 0
  · replace h := h.1 c1
    exact am_pcall 5 (fun n => (if_pos c1).trans (rfl)) (am_lv (am_lv (am_ln (am_l0)))) h
  · replace h := h.2 c1
    exact am_pret 5 (fun n => (if_neg c1).trans (rfl)) h
theorem bk_83_28 {L : Nat} {xs : Nat → Int32} {d : Nat} {P : Option Value → am_I → am_J → Prop} (x1 : Int32) (s0 : Int32) (I : am_I) (J : am_J)  (h : am_If (s0 ≤ (6 : Int32)) (am_To (am_XX L xs) d 85 0 [some (.ref 75), some (.int x1), some (.ref 9), none, none] [] I J (fun r I2 J2 => am_To (am_XX L xs) (d + 1) 83 47 [none, none, none] (r.toList ++ []) I2 J2 P)) (P (some (.int (-1 : Int32))) I J)) : am_To (am_XX L xs) (d + 1) 83 28 [some (.ref 0), some (.int x1), none] [.int s0] I J P := by
  by_cases c1 : s0 ≤ (6 : Int32)
  · replace h := h.1 c1
    exact am_pcall 8 (fun n => (if_pos c1).trans (rfl)) (am_ln (am_ln (am_ln (am_l0)))) h
  · replace h := h.2 c1
    exact am_pret 4 (fun n => (if_neg c1).trans (rfl)) h
theorem bk_83_47 {L : Nat} {xs : Nat → Int32} {d : Nat} {P : Option Value → am_I → am_J → Prop} (s0 : Int32) (I : am_I) (J : am_J)  (h : P (some (.int s0)) I J) : am_To (am_XX L xs) d 83 47 [none, none, none] [.int s0] I J P := by
  exact am_pret 1 (fun n => rfl) h
theorem bk_84_0 {L : Nat} {xs : Nat → Int32} {d : Nat} {P : Option Value → am_I → am_J → Prop}  (I : am_I) (J : am_J)  (h : P (some (.int (((1 : Int32) <<< ((I 3 1) &&& 31)) - (1 : Int32)))) I J) : am_To (am_XX L xs) d 84 0 [some (.ref 3)] [] I J P := by
  exact am_pret 7 (fun n => rfl) h
theorem bk_85_0 {L : Nat} {xs : Nat → Int32} {d : Nat} {P : Option Value → am_I → am_J → Prop} (x1 : Int32) (I : am_I) (J : am_J)  (h : am_To (am_XX L xs) d 86 0 [some (.ref 75), some (.int x1), none] [] I J (fun r I2 J2 => am_To (am_XX L xs) (d + 1) 85 5 [some (.ref 75), none, some (.ref 9), none, none] (r.toList ++ []) I2 J2 P)) : am_To (am_XX L xs) (d + 1) 85 0 [some (.ref 75), some (.int x1), some (.ref 9), none, none] [] I J P := by
  exact am_pcall 3 (fun n => rfl) (am_lv (am_ln (am_lv (am_ln (am_ln (am_l0)))))) h
theorem bk_85_5 {L : Nat} {xs : Nat → Int32} {d : Nat} {P : Option Value → am_I → am_J → Prop}  (I : am_I) (J : am_J)  (h : am_To (am_XX L xs) d 58 0 [some (.ref 78), some (.int (0 : Int32)), none, none] [] I J (fun r I2 J2 => am_To (am_XX L xs) (d + 1) 85 13 [some (.ref 75), none, some (.ref 9), none, none] (r.toList ++ []) I2 J2 P)) : am_To (am_XX L xs) (d + 1) 85 5 [some (.ref 75), none, some (.ref 9), none, none] [] I J P := by
  exact am_pcall 4 (fun n => rfl) (am_lv (am_ln (am_lv (am_ln (am_ln (am_l0)))))) h
theorem bk_85_13 {L : Nat} {xs : Nat → Int32} {d : Nat} {P : Option Value → am_I → am_J → Prop}  (I : am_I) (J : am_J)  (h : am_To (am_XX L xs) d 85 15 [some (.ref 75), none, some (.ref 9), some (.int (0 : Int32)), none] [] I J P) : am_To (am_XX L xs) d 85 13 [some (.ref 75), none, some (.ref 9), none, none] [] I J P := by
  exact am_path 2 (fun n => rfl) (am_lv (am_ln (am_lv (am_lv (am_ln (am_l0)))))) h
theorem bk_85_15 {L : Nat} {xs : Nat → Int32} {d : Nat} {P : Option Value → am_I → am_J → Prop} (x3 : Int32) (I : am_I) (J : am_J)  (h : am_If ((I 75 5) ≤ x3) (am_To (am_XX L xs) d 87 0 [some (.ref 75), none, none, none] [] I J (fun r I2 J2 => am_To (am_XX L xs) (d + 1) 85 122 [some (.ref 75), none, none, none, none] (r.toList ++ []) I2 J2 P)) (am_To (am_XX L xs) (d + 1) 85 26 [some (.ref 75), none, some (.ref 9), some (.int x3), some (.int (0 : Int32))] [] I J P)) : am_To (am_XX L xs) (d + 1) 85 15 [some (.ref 75), none, some (.ref 9), some (.int x3), none] [] I J P := by
  by_cases c1 : (I 75 5) ≤ x3
  · replace h := h.1 c1
    exact am_pcall 6 (fun n => (if_pos c1).trans (rfl)) (am_lv (am_ln (am_ln (am_ln (am_ln (am_l0)))))) h
  · replace h := h.2 c1
    exact am_path 6 (fun n => (if_neg c1).trans (rfl)) (am_lv (am_ln (am_lv (am_lv (am_lv (am_l0)))))) h
theorem bk_85_122 {L : Nat} {xs : Nat → Int32} {d : Nat} {P : Option Value → am_I → am_J → Prop}  (I : am_I) (J : am_J)  (h : am_To (am_XX L xs) d 57 0 [some (.ref 81)] [] I J (fun r I2 J2 => am_To (am_XX L xs) (d + 1) 85 131 [some (.ref 75), none, none, none, none] (r.toList ++ []) I2 J2 P)) : am_To (am_XX L xs) (d + 1) 85 122 [some (.ref 75), none, none, none, none] [] I J P := by
  exact am_pcall 5 (fun n => rfl) (am_lv (am_ln (am_ln (am_ln (am_ln (am_l0)))))) h
theorem bk_85_26 {L : Nat} {xs : Nat → Int32} {d : Nat} {P : Option Value → am_I → am_J → Prop} (x3 : Int32) (x4 : Int32) (I : am_I) (J : am_J)  (h : am_If ((I 75 5) ≤ x4) (am_To (am_XX L xs) (d + 1) 85 15 [some (.ref 75), none, some (.ref 9), some (.int (x3 + (1 : Int32))), none] [] I J P) (am_Ix x3 6 fun q1 => am_Ix x4 6 fun q2 => am_To (am_XX L xs) d 26 0 [some (.int (0 : Int32)), some (.int (I 76 q1)), some (.int (I 76 q2)), none, none, none] [] I J (fun r I2 J2 => am_To (am_XX L xs) (d + 1) 85 67 [some (.ref 75), none, some (.ref 9), some (.int x3), some (.int x4)] (r.toList ++ [.ref 64, .int ((x3 * (6 : Int32)) + x4), .ref 77]) I2 J2 P))) : am_To (am_XX L xs) (d + 1) 85 26 [some (.ref 75), none, some (.ref 9), some (.int x3), some (.int x4)] [] I J P := by
  by_cases c1 : (I 75 5) ≤ x4
  · replace h := h.1 c1
    exact am_path 6 (fun n => (if_pos c1).trans (rfl)) (am_lv (am_ln (am_lv (am_lv (am_ln (am_l0)))))) h
  · replace h := h.2 c1
    obtain ⟨q1, j2, h⟩ := h
    obtain ⟨q2, j3, h⟩ := h
    exact am_pcall 23 (fun n => (if_neg c1).trans ((am_bs j2).trans ((am_bs j3).trans (rfl)))) (am_lv (am_ln (am_lv (am_lv (am_lv (am_l0)))))) h
theorem bk_85_131 {L : Nat} {xs : Nat → Int32} {d : Nat} {P : Option Value → am_I → am_J → Prop}  (I : am_I) (J : am_J)  (h : am_To (am_XX L xs) d 89 0 [some (.ref 75), some (.int (0 : Int32)), some (.int (0 : Int32)), none, none] [] (am_up I 75 6 (0 : Int32)) J (fun r I2 J2 => am_To (am_XX L xs) (d + 1) 85 142 [some (.ref 75), none, none, none, none] (r.toList ++ []) I2 J2 P)) : am_To (am_XX L xs) (d + 1) 85 131 [some (.ref 75), none, none, none, none] [] I J P := by
  exact am_pcall 7 (fun n => rfl) (am_lv (am_ln (am_ln (am_ln (am_ln (am_l0)))))) h
theorem bk_85_67 {L : Nat} {xs : Nat → Int32} {d : Nat} {P : Option Value → am_I → am_J → Prop} (x3 : Int32) (x4 : Int32) (s1 : Int32) (s3 : Int32) (I : am_I) (J : am_J)  (h : am_Ix s3 1728 fun q1 => am_Ix s1 36 fun q2 => am_Ix x4 6 fun q3 => am_Ix ((am_up I 77 q2 (I 64 q1)) 76 q3) 24 fun q4 => am_Ix x3 6 fun q5 => am_To (am_XX L xs) d 62 0 [some (.int ((am_up I 77 q2 (I 64 q1)) 65 q4)), some (.int ((am_up I 77 q2 (I 64 q1)) 76 q5))] [] (am_up I 77 q2 (I 64 q1)) J (fun r I2 J2 => am_To (am_XX L xs) (d + 1) 85 90 [some (.ref 75), none, some (.ref 9), some (.int x3), some (.int x4)] (r.toList ++ []) I2 J2 P)) : am_To (am_XX L xs) (d + 1) 85 67 [some (.ref 75), none, some (.ref 9), some (.int x3), some (.int x4)] [.int s3, .ref 64, .int s1, .ref 77] I J P := by
  obtain ⟨q1, j1, h⟩ := h
  obtain ⟨q2, j2, h⟩ := h
  obtain ⟨q3, j3, h⟩ := h
  obtain ⟨q4, j4, h⟩ := h
  obtain ⟨q5, j5, h⟩ := h
  exact am_pcall 14 (fun n => (am_bs j1).trans ((am_bs j2).trans ((am_bs j3).trans ((am_bs j4).trans ((am_bs j5).trans (rfl)))))) (am_lv (am_ln (am_lv (am_lv (am_lv (am_l0)))))) h
theorem bk_85_142 {L : Nat} {xs : Nat → Int32} {d : Nat} {P : Option Value → am_I → am_J → Prop}  (I : am_I) (J : am_J)  (h : P (some (.int (I 75 6))) I J) : am_To (am_XX L xs) d 85 142 [some (.ref 75), none, none, none, none] [] I J P := by
  exact am_pret 3 (fun n => rfl) h
theorem bk_85_90 {L : Nat} {xs : Nat → Int32} {d : Nat} {P : Option Value → am_I → am_J → Prop} (x3 : Int32) (x4 : Int32) (s0 : Int32) (I : am_I) (J : am_J)  (h : am_If (s0 = 0) (am_To (am_XX L xs) d 85 26 [some (.ref 75), none, some (.ref 9), some (.int x3), some (.int (x4 + (1 : Int32)))] [] I J P) (am_Ix x4 6 fun q1 => am_Ix x4 6 fun q2 => am_To (am_XX L xs) d 85 26 [some (.ref 75), none, some (.ref 9), some (.int x3), some (.int (x4 + (1 : Int32)))] [] (am_up I 78 q2 ((I 78 q1) ||| ((1 : Int32) <<< (x3 &&& 31)))) J P)) : am_To (am_XX L xs) d 85 90 [some (.ref 75), none, some (.ref 9), some (.int x3), some (.int x4)] [.int s0] I J P := by
  by_cases c1 : s0 = 0
  · replace h := h.1 c1
    exact am_path 3 (fun n => (if_pos c1).trans (rfl)) (am_lv (am_ln (am_lv (am_lv (am_lv (am_l0)))))) h
  · replace h := h.2 c1
    obtain ⟨q1, j2, h⟩ := h
    obtain ⟨q2, j3, h⟩ := h
    exact am_path 13 (fun n => (if_neg c1).trans ((am_bs j2).trans ((am_bs j3).trans (rfl)))) (am_lv (am_ln (am_lv (am_lv (am_lv (am_l0)))))) h
theorem bk_86_0 {L : Nat} {xs : Nat → Int32} {d : Nat} {P : Option Value → am_I → am_J → Prop} (x1 : Int32) (I : am_I) (J : am_J)  (h : am_To (am_XX L xs) d 86 7 [some (.ref 75), some (.int x1), some (.int (0 : Int32))] [] (am_up I 75 5 (0 : Int32)) J P) : am_To (am_XX L xs) d 86 0 [some (.ref 75), some (.int x1), none] [] I J P := by
  exact am_path 5 (fun n => rfl) (am_lv (am_lv (am_lv (am_l0)))) h
theorem bk_86_7 {L : Nat} {xs : Nat → Int32} {d : Nat} {P : Option Value → am_I → am_J → Prop} (x1 : Int32) (x2 : Int32) (I : am_I) (J : am_J)  (h : am_If ((24 : Int32) ≤ x2) (P none I J) (am_To (am_XX L xs) d 62 0 [some (.int x1), some (.int x2)] [] I J (fun r I2 J2 => am_To (am_XX L xs) (d + 1) 86 18 [some (.ref 75), some (.int x1), some (.int x2)] (r.toList ++ []) I2 J2 P))) : am_To (am_XX L xs) (d + 1) 86 7 [some (.ref 75), some (.int x1), some (.int x2)] [] I J P := by
  by_cases c1 : (24 : Int32) ≤ x2
  · replace h := h.1 c1
    exact am_pret 4 (fun n => (if_pos c1).trans (rfl)) h
  · replace h := h.2 c1
    exact am_pcall 6 (fun n => (if_neg c1).trans (rfl)) (am_lv (am_lv (am_lv (am_l0)))) h
theorem bk_86_18 {L : Nat} {xs : Nat → Int32} {d : Nat} {P : Option Value → am_I → am_J → Prop} (x1 : Int32) (x2 : Int32) (s0 : Int32) (I : am_I) (J : am_J)  (h : am_If (s0 = 0) (am_To (am_XX L xs) d 86 7 [some (.ref 75), some (.int x1), some (.int (x2 + (1 : Int32)))] [] I J P) (am_If ((6 : Int32) ≤ (I 75 5)) (am_To (am_XX L xs) d 86 7 [some (.ref 75), some (.int x1), some (.int (x2 + (1 : Int32)))] [] I J P) (am_Ix (I 75 5) 6 fun q1 => am_To (am_XX L xs) d 86 7 [some (.ref 75), some (.int x1), some (.int (x2 + (1 : Int32)))] [] (am_up (am_up I 76 q1 x2) 75 5 (((am_up I 76 q1 x2) 75 5) + (1 : Int32))) J P))) : am_To (am_XX L xs) d 86 18 [some (.ref 75), some (.int x1), some (.int x2)] [.int s0] I J P := by
  by_cases c1 : s0 = 0
  · replace h := h.1 c1
    exact am_path 3 (fun n => (if_pos c1).trans (rfl)) (am_lv (am_lv (am_lv (am_l0)))) h
  · replace h := h.2 c1
    by_cases c2 : (6 : Int32) ≤ (I 75 5)
    · replace h := h.1 c2
      exact am_path 7 (fun n => (if_neg c1).trans ((if_pos c2).trans (rfl))) (am_lv (am_lv (am_lv (am_l0)))) h
    · replace h := h.2 c2
      obtain ⟨q1, j3, h⟩ := h
      exact am_path 19 (fun n => (if_neg c1).trans ((if_neg c2).trans ((am_bs j3).trans (rfl)))) (am_lv (am_lv (am_lv (am_l0)))) h
theorem bk_87_0 {L : Nat} {xs : Nat → Int32} {d : Nat} {P : Option Value → am_I → am_J → Prop}  (I : am_I) (J : am_J)  (h : am_Ix (I 75 5) 7 fun q1 => am_To (am_XX L xs) d 87 17 [some (.ref 75), some (.int (((am_up I 79 q1 (0 : Int32)) 75 5) - (1 : Int32))), none, none] [] (am_up I 79 q1 (0 : Int32)) J P) : am_To (am_XX L xs) d 87 0 [some (.ref 75), none, none, none] [] I J P := by
  obtain ⟨q1, j1, h⟩ := h
  exact am_path 11 (fun n => (am_bs j1).trans (rfl)) (am_lv (am_lv (am_ln (am_ln (am_l0))))) h
theorem bk_87_17 {L : Nat} {xs : Nat → Int32} {d : Nat} {P : Option Value → am_I → am_J → Prop} (x1 : Int32) (I : am_I) (J : am_J)  (h : am_If (x1 < 0) (P none I J) (am_To (am_XX L xs) d 87 25 [some (.ref 75), some (.int x1), some (.int (0 : Int32)), some (.int (0 : Int32))] [] I J P)) : am_To (am_XX L xs) d 87 17 [some (.ref 75), some (.int x1), none, none] [] I J P := by
  by_cases c1 : x1 < 0
  · replace h := h.1 c1
    exact am_pret 3 (fun n => (if_pos c1).trans (rfl)) h
  · replace h := h.2 c1
    exact am_path 6 (fun n => (if_neg c1).trans (rfl)) (am_lv (am_lv (am_lv (am_lv (am_l0))))) h
theorem bk_87_25 {L : Nat} {xs : Nat → Int32} {d : Nat} {P : Option Value → am_I → am_J → Prop} (x1 : Int32) (x2 : Int32) (x3 : Int32) (I : am_I) (J : am_J)  (h : am_If ((I 75 5) ≤ x3) (am_Ix (x1 + (1 : Int32)) 7 fun q1 => am_Ix x1 7 fun q2 => am_To (am_XX L xs) (d + 1) 87 17 [some (.ref 75), some (.int (x1 + (-1 : Int32))), none, none] [] (am_up I 79 q2 ((I 79 q1) + x2)) J P) (am_Ix ((x3 * (6 : Int32)) + x1) 36 fun q3 => am_To (am_XX L xs) (d + 1) 87 25 [some (.ref 75), some (.int x1), some (.int (if x2 < (I 77 q3) then (I 77 q3) else x2)), some (.int (x3 + (1 : Int32)))] [] I J P)) : am_To (am_XX L xs) (d + 1) 87 25 [some (.ref 75), some (.int x1), some (.int x2), some (.int x3)] [] I J P := by
  by_cases c1 : (I 75 5) ≤ x3
  · replace h := h.1 c1
    obtain ⟨q1, j2, h⟩ := h
    obtain ⟨q2, j3, h⟩ := h
    exact am_path 18 (fun n => (if_pos c1).trans ((am_bs j2).trans ((am_bs j3).trans (rfl)))) (am_lv (am_lv (am_ln (am_ln (am_l0))))) h
  · replace h := h.2 c1
    obtain ⟨q3, j4, h⟩ := h
    exact am_path 17 (fun n => (if_neg c1).trans ((am_bs j4).trans (rfl))) (am_lv (am_lv (am_lv (am_lv (am_l0))))) h
theorem bk_89_0 {L : Nat} {xs : Nat → Int32} {d : Nat} {P : Option Value → am_I → am_J → Prop} (x1 : Int32) (x2 : Int32) (I : am_I) (J : am_J)  (h : am_If (((am_up I 75 6 (if (I 75 6) < x2 then x2 else (I 75 6))) 75 5) ≤ x1) (P none (am_up I 75 6 (if (I 75 6) < x2 then x2 else (I 75 6))) J) (am_If ((6 : Int32) ≤ x1) (P none (am_up I 75 6 (if (I 75 6) < x2 then x2 else (I 75 6))) J) (am_Ix x1 7 fun q1 => am_If (((am_up I 75 6 (if (I 75 6) < x2 then x2 else (I 75 6))) 75 6) < (x2 + ((am_up I 75 6 (if (I 75 6) < x2 then x2 else (I 75 6))) 79 q1))) (am_To (am_XX L xs) (d + 1) 89 44 [some (.ref 75), some (.int x1), some (.int x2), some (.int (0 : Int32)), none] [] (am_up I 75 6 (if (I 75 6) < x2 then x2 else (I 75 6))) J P) (P none (am_up I 75 6 (if (I 75 6) < x2 then x2 else (I 75 6))) J)))) : am_To (am_XX L xs) (d + 1) 89 0 [some (.ref 75), some (.int x1), some (.int x2), none, none] [] I J P := by
  by_cases c1 : ((am_up I 75 6 (if (I 75 6) < x2 then x2 else (I 75 6))) 75 5) ≤ x1
  · replace h := h.1 c1
    exact am_pret 11 (fun n => (if_pos c1).trans (rfl)) h
  · replace h := h.2 c1
    by_cases c2 : (6 : Int32) ≤ x1
    · replace h := h.1 c2
      exact am_pret 14 (fun n => (if_neg c1).trans ((if_pos c2).trans (rfl))) h
    · replace h := h.2 c2
      obtain ⟨q1, j3, h⟩ := h
      by_cases c4 : ((am_up I 75 6 (if (I 75 6) < x2 then x2 else (I 75 6))) 75 6) < (x2 + ((am_up I 75 6 (if (I 75 6) < x2 then x2 else (I 75 6))) 79 q1))
      · replace h := h.1 c4
        exact am_path 24 (fun n => (if_neg c1).trans ((if_neg c2).trans ((am_bs j3).trans ((if_pos c4).trans (rfl))))) (am_lv (am_lv (am_lv (am_lv (am_ln (am_l0)))))) h
      · replace h := h.2 c4
        exact am_pret 23 (fun n => (if_neg c1).trans ((if_neg c2).trans ((am_bs j3).trans ((if_neg c4).trans (rfl))))) h
theorem bk_89_44 {L : Nat} {xs : Nat → Int32} {d : Nat} {P : Option Value → am_I → am_J → Prop} (x1 : Int32) (x2 : Int32) (x3 : Int32) (I : am_I) (J : am_J)  (h : am_If ((I 75 5) ≤ x3) (am_Ix (x1 + (1 : Int32)) 7 fun q1 => am_To (am_XX L xs) d 89 143 [some (.ref 75), some (.int x1), some (.int x2), none, none] [(am_rf (am_vL.getD q1 none))] I J P) (am_Ix ((x3 * (6 : Int32)) + x1) 36 fun q2 => am_If ((I 77 q2) ≤ 0) (am_To (am_XX L xs) d 89 44 [some (.ref 75), some (.int x1), some (.int x2), some (.int (x3 + (1 : Int32))), none] [] I J P) (am_Ix x1 7 fun q3 => am_To (am_XX L xs) d 89 76 [some (.ref 75), some (.int x1), some (.int x2), some (.int x3), some (.int (I 77 q2))] [(am_rf (am_vL.getD q3 none))] I J P))) : am_To (am_XX L xs) d 89 44 [some (.ref 75), some (.int x1), some (.int x2), some (.int x3), none] [] I J P := by
  by_cases c1 : (I 75 5) ≤ x3
  · replace h := h.1 c1
    obtain ⟨q1, j2, h⟩ := h
    exact am_path 10 (fun n => (if_pos c1).trans ((am_bs j2).trans (rfl))) (am_lv (am_lv (am_lv (am_ln (am_ln (am_l0)))))) h
  · replace h := h.2 c1
    obtain ⟨q2, j3, h⟩ := h
    by_cases c4 : (I 77 q2) ≤ 0
    · replace h := h.1 c4
      exact am_path 17 (fun n => (if_neg c1).trans ((am_bs j3).trans ((if_pos c4).trans (rfl)))) (am_lv (am_lv (am_lv (am_lv (am_ln (am_l0)))))) h
    · replace h := h.2 c4
      obtain ⟨q3, j5, h⟩ := h
      exact am_path 19 (fun n => (if_neg c1).trans ((am_bs j3).trans ((if_neg c4).trans ((am_bs j5).trans (rfl))))) (am_lv (am_lv (am_lv (am_lv (am_lv (am_l0)))))) h
theorem bk_89_143 {L : Nat} {xs : Nat → Int32} {d : Nat} {P : Option Value → am_I → am_J → Prop} (x1 : Int32) (x2 : Int32) (I : am_I) (J : am_J) (q : Nat) (hq : q < 7) (h : am_Ix x1 7 fun q1 => am_To (am_XX L xs) d 89 149 [some (.ref 75), some (.int x1), some (.int x2), none, none] [(am_rf (am_vL.getD q1 none)), .ref (fH q)] I J P) : am_To (am_XX L xs) d 89 143 [some (.ref 75), some (.int x1), some (.int x2), none, none] [.ref (fH q)] I J P := by
  obtain ⟨q1, j1, h⟩ := h
  exact am_path 4 (fun n => (am_bs j1).trans (rfl)) (am_lv (am_lv (am_lv (am_ln (am_ln (am_l0)))))) h
theorem bk_89_76 {L : Nat} {xs : Nat → Int32} {d : Nat} {P : Option Value → am_I → am_J → Prop} (x1 : Int32) (x2 : Int32) (x3 : Int32) (x4 : Int32) (I : am_I) (J : am_J) (q : Nat) (hq : q < 7) (h : am_To (am_XX L xs) d 61 0 [some (.ref (fH q)), some (.int x3), some (.int x1), some (.ref 78), none, none] [] I J (fun r I2 J2 => am_To (am_XX L xs) (d + 1) 89 85 [some (.ref 75), some (.int x1), some (.int x2), some (.int x3), some (.int x4)] (r.toList ++ []) I2 J2 P)) : am_To (am_XX L xs) (d + 1) 89 76 [some (.ref 75), some (.int x1), some (.int x2), some (.int x3), some (.int x4)] [.ref (fH q)] I J P := by
  match q, hq, h with
  | 0, _, h =>
    exact am_pcall 5 (fun n => rfl) (am_lv (am_lv (am_lv (am_lv (am_lv (am_l0)))))) h
  | 1, _, h =>
    exact am_pcall 5 (fun n => rfl) (am_lv (am_lv (am_lv (am_lv (am_lv (am_l0)))))) h
  | 2, _, h =>
    exact am_pcall 5 (fun n => rfl) (am_lv (am_lv (am_lv (am_lv (am_lv (am_l0)))))) h
  | 3, _, h =>
    exact am_pcall 5 (fun n => rfl) (am_lv (am_lv (am_lv (am_lv (am_lv (am_l0)))))) h
  | 4, _, h =>
    exact am_pcall 5 (fun n => rfl) (am_lv (am_lv (am_lv (am_lv (am_lv (am_l0)))))) h
  | 5, _, h =>
    exact am_pcall 5 (fun n => rfl) (am_lv (am_lv (am_lv (am_lv (am_lv (am_l0)))))) h
  | 6, _, h =>
    exact am_pcall 5 (fun n => rfl) (am_lv (am_lv (am_lv (am_lv (am_lv (am_l0)))))) h
  | q + 7, h0, _ => exact absurd h0 (by omega)
theorem bk_89_149 {L : Nat} {xs : Nat → Int32} {d : Nat} {P : Option Value → am_I → am_J → Prop} (x1 : Int32) (x2 : Int32) (I : am_I) (J : am_J) (q : Nat) (hq : q < 7) (h : am_To (am_XX L xs) d 90 0 [some (.ref (fH q)), some (.ref (fH q)), none] [] I J (fun r I2 J2 => am_To (am_XX L xs) (d + 1) 89 152 [some (.ref 75), some (.int x1), some (.int x2), none, none] (r.toList ++ []) I2 J2 P)) : am_To (am_XX L xs) (d + 1) 89 149 [some (.ref 75), some (.int x1), some (.int x2), none, none] [.ref (fH q), .ref (fH q)] I J P := by
  match q, hq, h with
  | 0, _, h =>
    exact am_pcall 1 (fun n => rfl) (am_lv (am_lv (am_lv (am_ln (am_ln (am_l0)))))) h
  | 1, _, h =>
    exact am_pcall 1 (fun n => rfl) (am_lv (am_lv (am_lv (am_ln (am_ln (am_l0)))))) h
  | 2, _, h =>
    exact am_pcall 1 (fun n => rfl) (am_lv (am_lv (am_lv (am_ln (am_ln (am_l0)))))) h
  | 3, _, h =>
    exact am_pcall 1 (fun n => rfl) (am_lv (am_lv (am_lv (am_ln (am_ln (am_l0)))))) h
  | 4, _, h =>
    exact am_pcall 1 (fun n => rfl) (am_lv (am_lv (am_lv (am_ln (am_ln (am_l0)))))) h
  | 5, _, h =>
    exact am_pcall 1 (fun n => rfl) (am_lv (am_lv (am_lv (am_ln (am_ln (am_l0)))))) h
  | 6, _, h =>
    exact am_pcall 1 (fun n => rfl) (am_lv (am_lv (am_lv (am_ln (am_ln (am_l0)))))) h
  | q + 7, h0, _ => exact absurd h0 (by omega)
theorem bk_89_85 {L : Nat} {xs : Nat → Int32} {d : Nat} {P : Option Value → am_I → am_J → Prop} (x1 : Int32) (x2 : Int32) (x3 : Int32) (x4 : Int32) (s0 : Int32) (I : am_I) (J : am_J)  (h : am_If (s0 = 0) (am_Ix (x1 + (1 : Int32)) 7 fun q1 => am_To (am_XX L xs) d 89 96 [some (.ref 75), some (.int x1), some (.int x2), some (.int x3), some (.int x4)] [(am_rf (am_vL.getD q1 none))] I J P) (am_To (am_XX L xs) d 89 44 [some (.ref 75), some (.int x1), some (.int x2), some (.int (x3 + (1 : Int32))), none] [] I J P)) : am_To (am_XX L xs) d 89 85 [some (.ref 75), some (.int x1), some (.int x2), some (.int x3), some (.int x4)] [.int s0] I J P := by
  by_cases c1 : s0 = 0
  · replace h := h.1 c1
    obtain ⟨q1, j2, h⟩ := h
    exact am_path 7 (fun n => (if_pos c1).trans ((am_bs j2).trans (rfl))) (am_lv (am_lv (am_lv (am_lv (am_lv (am_l0)))))) h
  · replace h := h.2 c1
    exact am_path 3 (fun n => (if_neg c1).trans (rfl)) (am_lv (am_lv (am_lv (am_lv (am_ln (am_l0)))))) h
theorem bk_89_152 {L : Nat} {xs : Nat → Int32} {d : Nat} {P : Option Value → am_I → am_J → Prop} (x1 : Int32) (x2 : Int32) (I : am_I) (J : am_J)  (h : am_To (am_XX L xs) d 89 0 [some (.ref 75), some (.int (x1 + (1 : Int32))), some (.int x2), none, none] [] I J (fun r I2 J2 => am_To (am_XX L xs) (d + 1) 89 160 [none, none, none, none, none] (r.toList ++ []) I2 J2 P)) : am_To (am_XX L xs) (d + 1) 89 152 [some (.ref 75), some (.int x1), some (.int x2), none, none] [] I J P := by
  exact am_pcall 6 (fun n => rfl) (am_ln (am_ln (am_ln (am_ln (am_ln (am_l0)))))) h
theorem bk_89_96 {L : Nat} {xs : Nat → Int32} {d : Nat} {P : Option Value → am_I → am_J → Prop} (x1 : Int32) (x2 : Int32) (x3 : Int32) (x4 : Int32) (I : am_I) (J : am_J) (q : Nat) (hq : q < 7) (h : am_Ix x1 7 fun q1 => am_To (am_XX L xs) d 89 102 [some (.ref 75), some (.int x1), some (.int x2), some (.int x3), some (.int x4)] [(am_rf (am_vL.getD q1 none)), .ref (fH q)] I J P) : am_To (am_XX L xs) d 89 96 [some (.ref 75), some (.int x1), some (.int x2), some (.int x3), some (.int x4)] [.ref (fH q)] I J P := by
  obtain ⟨q1, j1, h⟩ := h
  exact am_path 4 (fun n => (am_bs j1).trans (rfl)) (am_lv (am_lv (am_lv (am_lv (am_lv (am_l0)))))) h
theorem bk_89_160 {L : Nat} {xs : Nat → Int32} {d : Nat} {P : Option Value → am_I → am_J → Prop}  (I : am_I) (J : am_J)  (h : P none I J) : am_To (am_XX L xs) d 89 160 [none, none, none, none, none] [] I J P := by
  exact am_pret 1 (fun n => rfl) h
theorem bk_89_102 {L : Nat} {xs : Nat → Int32} {d : Nat} {P : Option Value → am_I → am_J → Prop} (x1 : Int32) (x2 : Int32) (x3 : Int32) (x4 : Int32) (I : am_I) (J : am_J) (q : Nat) (hq : q < 7) (h : am_To (am_XX L xs) d 90 0 [some (.ref (fH q)), some (.ref (fH q)), none] [] I J (fun r I2 J2 => am_To (am_XX L xs) (d + 1) 89 105 [some (.ref 75), some (.int x1), some (.int x2), some (.int x3), some (.int x4)] (r.toList ++ []) I2 J2 P)) : am_To (am_XX L xs) (d + 1) 89 102 [some (.ref 75), some (.int x1), some (.int x2), some (.int x3), some (.int x4)] [.ref (fH q), .ref (fH q)] I J P := by
  match q, hq, h with
  | 0, _, h =>
    exact am_pcall 1 (fun n => rfl) (am_lv (am_lv (am_lv (am_lv (am_lv (am_l0)))))) h
  | 1, _, h =>
    exact am_pcall 1 (fun n => rfl) (am_lv (am_lv (am_lv (am_lv (am_lv (am_l0)))))) h
  | 2, _, h =>
    exact am_pcall 1 (fun n => rfl) (am_lv (am_lv (am_lv (am_lv (am_lv (am_l0)))))) h
  | 3, _, h =>
    exact am_pcall 1 (fun n => rfl) (am_lv (am_lv (am_lv (am_lv (am_lv (am_l0)))))) h
  | 4, _, h =>
    exact am_pcall 1 (fun n => rfl) (am_lv (am_lv (am_lv (am_lv (am_lv (am_l0)))))) h
  | 5, _, h =>
    exact am_pcall 1 (fun n => rfl) (am_lv (am_lv (am_lv (am_lv (am_lv (am_l0)))))) h
  | 6, _, h =>
    exact am_pcall 1 (fun n => rfl) (am_lv (am_lv (am_lv (am_lv (am_lv (am_l0)))))) h
  | q + 7, h0, _ => exact absurd h0 (by omega)
theorem bk_89_105 {L : Nat} {xs : Nat → Int32} {d : Nat} {P : Option Value → am_I → am_J → Prop} (x1 : Int32) (x2 : Int32) (x3 : Int32) (x4 : Int32) (I : am_I) (J : am_J)  (h : am_Ix (x1 + (1 : Int32)) 7 fun q1 => am_To (am_XX L xs) d 89 113 [some (.ref 75), some (.int x1), some (.int x2), some (.int x3), some (.int x4)] [(am_rf (am_vL.getD q1 none))] I J P) : am_To (am_XX L xs) d 89 105 [some (.ref 75), some (.int x1), some (.int x2), some (.int x3), some (.int x4)] [] I J P := by
  obtain ⟨q1, j1, h⟩ := h
  exact am_path 6 (fun n => (am_bs j1).trans (rfl)) (am_lv (am_lv (am_lv (am_lv (am_lv (am_l0)))))) h
theorem bk_89_113 {L : Nat} {xs : Nat → Int32} {d : Nat} {P : Option Value → am_I → am_J → Prop} (x1 : Int32) (x2 : Int32) (x3 : Int32) (x4 : Int32) (I : am_I) (J : am_J) (q : Nat) (hq : q < 7) (h : am_To (am_XX L xs) d 64 0 [some (.ref (fH q)), some (.int x3), some (.int x1), none, none] [] I J (fun r I2 J2 => am_To (am_XX L xs) (d + 1) 89 118 [some (.ref 75), some (.int x1), some (.int x2), some (.int x3), some (.int x4)] (r.toList ++ []) I2 J2 P)) : am_To (am_XX L xs) (d + 1) 89 113 [some (.ref 75), some (.int x1), some (.int x2), some (.int x3), some (.int x4)] [.ref (fH q)] I J P := by
  match q, hq, h with
  | 0, _, h =>
    exact am_pcall 3 (fun n => rfl) (am_lv (am_lv (am_lv (am_lv (am_lv (am_l0)))))) h
  | 1, _, h =>
    exact am_pcall 3 (fun n => rfl) (am_lv (am_lv (am_lv (am_lv (am_lv (am_l0)))))) h
  | 2, _, h =>
    exact am_pcall 3 (fun n => rfl) (am_lv (am_lv (am_lv (am_lv (am_lv (am_l0)))))) h
  | 3, _, h =>
    exact am_pcall 3 (fun n => rfl) (am_lv (am_lv (am_lv (am_lv (am_lv (am_l0)))))) h
  | 4, _, h =>
    exact am_pcall 3 (fun n => rfl) (am_lv (am_lv (am_lv (am_lv (am_lv (am_l0)))))) h
  | 5, _, h =>
    exact am_pcall 3 (fun n => rfl) (am_lv (am_lv (am_lv (am_lv (am_lv (am_l0)))))) h
  | 6, _, h =>
    exact am_pcall 3 (fun n => rfl) (am_lv (am_lv (am_lv (am_lv (am_lv (am_l0)))))) h
  | q + 7, h0, _ => exact absurd h0 (by omega)
theorem bk_89_118 {L : Nat} {xs : Nat → Int32} {d : Nat} {P : Option Value → am_I → am_J → Prop} (x1 : Int32) (x2 : Int32) (x3 : Int32) (x4 : Int32) (I : am_I) (J : am_J)  (h : am_To (am_XX L xs) d 89 0 [some (.ref 75), some (.int (x1 + (1 : Int32))), some (.int (x2 + x4)), none, none] [] I J (fun r I2 J2 => am_To (am_XX L xs) (d + 1) 89 129 [some (.ref 75), some (.int x1), some (.int x2), some (.int x3), none] (r.toList ++ []) I2 J2 P)) : am_To (am_XX L xs) (d + 1) 89 118 [some (.ref 75), some (.int x1), some (.int x2), some (.int x3), some (.int x4)] [] I J P := by
  exact am_pcall 8 (fun n => rfl) (am_lv (am_lv (am_lv (am_lv (am_ln (am_l0)))))) h
theorem bk_89_129 {L : Nat} {xs : Nat → Int32} {d : Nat} {P : Option Value → am_I → am_J → Prop} (x1 : Int32) (x2 : Int32) (x3 : Int32) (I : am_I) (J : am_J)  (h : am_To (am_XX L xs) d 89 44 [some (.ref 75), some (.int x1), some (.int x2), some (.int (x3 + (1 : Int32))), none] [] I J P) : am_To (am_XX L xs) d 89 129 [some (.ref 75), some (.int x1), some (.int x2), some (.int x3), none] [] I J P := by
  exact am_path 2 (fun n => rfl) (am_lv (am_lv (am_lv (am_lv (am_ln (am_l0)))))) h
theorem bk_90_0 {L : Nat} {xs : Nat → Int32} {d : Nat} {P : Option Value → am_I → am_J → Prop}  (I : am_I) (J : am_J) (t : Nat) (ht : t < 6) (h : am_To (am_XX L xs) d 90 2 [some (.ref (fH (t + 1))), some (.ref (fH t)), some (.int (0 : Int32))] [] I J P) : am_To (am_XX L xs) d 90 0 [some (.ref (fH (t + 1))), some (.ref (fH t)), none] [] I J P := by
  exact am_path 2 (fun n => rfl) (am_lv (am_lv (am_lv (am_l0)))) h
theorem bk_90_2 {L : Nat} {xs : Nat → Int32} {d : Nat} {P : Option Value → am_I → am_J → Prop} (x2 : Int32) (I : am_I) (J : am_J) (t : Nat) (ht : t < 6) (h : am_If ((Int32.ofNat (fN (t + 1))) ≤ x2) (P none I J) (am_If ((Int32.ofNat (fN t)) ≤ x2) (P none I J) (am_Ix x2 (fN t) fun q1 => am_Ix x2 (fN (t + 1)) fun q2 => am_To (am_XX L xs) d 90 2 [some (.ref (fH (t + 1))), some (.ref (fH t)), some (.int (x2 + (1 : Int32)))] [] (am_up I (fA (t + 1)) q2 (I (fA t) q1)) J P))) : am_To (am_XX L xs) d 90 2 [some (.ref (fH (t + 1))), some (.ref (fH t)), some (.int x2)] [] I J P := by
  match t, ht, h with
  | 0, _, h =>
    by_cases c1 : (Int32.ofNat (fN (0 + 1))) ≤ x2
    · replace h := h.1 c1
      exact am_pret 6 (fun n => (if_pos c1).trans (rfl)) h
    · replace h := h.2 c1
      by_cases c2 : (Int32.ofNat (fN 0)) ≤ x2
      · replace h := h.1 c2
        exact am_pret 11 (fun n => (if_neg c1).trans ((if_pos c2).trans (rfl))) h
      · replace h := h.2 c2
        obtain ⟨q1, j3, h⟩ := h
        obtain ⟨q2, j4, h⟩ := h
        exact am_path 20 (fun n => (if_neg c1).trans ((if_neg c2).trans ((am_bs j3).trans ((am_bs j4).trans (rfl))))) (am_lv (am_lv (am_lv (am_l0)))) h
  | 1, _, h =>
    by_cases c1 : (Int32.ofNat (fN (1 + 1))) ≤ x2
    · replace h := h.1 c1
      exact am_pret 6 (fun n => (if_pos c1).trans (rfl)) h
    · replace h := h.2 c1
      by_cases c2 : (Int32.ofNat (fN 1)) ≤ x2
      · replace h := h.1 c2
        exact am_pret 11 (fun n => (if_neg c1).trans ((if_pos c2).trans (rfl))) h
      · replace h := h.2 c2
        obtain ⟨q1, j3, h⟩ := h
        obtain ⟨q2, j4, h⟩ := h
        exact am_path 20 (fun n => (if_neg c1).trans ((if_neg c2).trans ((am_bs j3).trans ((am_bs j4).trans (rfl))))) (am_lv (am_lv (am_lv (am_l0)))) h
  | 2, _, h =>
    by_cases c1 : (Int32.ofNat (fN (2 + 1))) ≤ x2
    · replace h := h.1 c1
      exact am_pret 6 (fun n => (if_pos c1).trans (rfl)) h
    · replace h := h.2 c1
      by_cases c2 : (Int32.ofNat (fN 2)) ≤ x2
      · replace h := h.1 c2
        exact am_pret 11 (fun n => (if_neg c1).trans ((if_pos c2).trans (rfl))) h
      · replace h := h.2 c2
        obtain ⟨q1, j3, h⟩ := h
        obtain ⟨q2, j4, h⟩ := h
        exact am_path 20 (fun n => (if_neg c1).trans ((if_neg c2).trans ((am_bs j3).trans ((am_bs j4).trans (rfl))))) (am_lv (am_lv (am_lv (am_l0)))) h
  | 3, _, h =>
    by_cases c1 : (Int32.ofNat (fN (3 + 1))) ≤ x2
    · replace h := h.1 c1
      exact am_pret 6 (fun n => (if_pos c1).trans (rfl)) h
    · replace h := h.2 c1
      by_cases c2 : (Int32.ofNat (fN 3)) ≤ x2
      · replace h := h.1 c2
        exact am_pret 11 (fun n => (if_neg c1).trans ((if_pos c2).trans (rfl))) h
      · replace h := h.2 c2
        obtain ⟨q1, j3, h⟩ := h
        obtain ⟨q2, j4, h⟩ := h
        exact am_path 20 (fun n => (if_neg c1).trans ((if_neg c2).trans ((am_bs j3).trans ((am_bs j4).trans (rfl))))) (am_lv (am_lv (am_lv (am_l0)))) h
  | 4, _, h =>
    by_cases c1 : (Int32.ofNat (fN (4 + 1))) ≤ x2
    · replace h := h.1 c1
      exact am_pret 6 (fun n => (if_pos c1).trans (rfl)) h
    · replace h := h.2 c1
      by_cases c2 : (Int32.ofNat (fN 4)) ≤ x2
      · replace h := h.1 c2
        exact am_pret 11 (fun n => (if_neg c1).trans ((if_pos c2).trans (rfl))) h
      · replace h := h.2 c2
        obtain ⟨q1, j3, h⟩ := h
        obtain ⟨q2, j4, h⟩ := h
        exact am_path 20 (fun n => (if_neg c1).trans ((if_neg c2).trans ((am_bs j3).trans ((am_bs j4).trans (rfl))))) (am_lv (am_lv (am_lv (am_l0)))) h
  | 5, _, h =>
    by_cases c1 : (Int32.ofNat (fN (5 + 1))) ≤ x2
    · replace h := h.1 c1
      exact am_pret 6 (fun n => (if_pos c1).trans (rfl)) h
    · replace h := h.2 c1
      by_cases c2 : (Int32.ofNat (fN 5)) ≤ x2
      · replace h := h.1 c2
        exact am_pret 11 (fun n => (if_neg c1).trans ((if_pos c2).trans (rfl))) h
      · replace h := h.2 c2
        obtain ⟨q1, j3, h⟩ := h
        obtain ⟨q2, j4, h⟩ := h
        exact am_path 20 (fun n => (if_neg c1).trans ((if_neg c2).trans ((am_bs j3).trans ((am_bs j4).trans (rfl))))) (am_lv (am_lv (am_lv (am_l0)))) h
  | t + 6, h0, _ => exact absurd h0 (by omega)
theorem bk_91_0 {L : Nat} {xs : Nat → Int32} {d : Nat} {P : Option Value → am_I → am_J → Prop}  (I : am_I) (J : am_J)  (h : am_To (am_XX L xs) d 54 0 [some (.ref 0)] [] I J (fun r I2 J2 => am_To (am_XX L xs) (d + 1) 91 8 [some (.ref 0)] (r.toList ++ [.ref 73]) I2 J2 P)) : am_To (am_XX L xs) (d + 1) 91 0 [some (.ref 0)] [] I J P := by
  exact am_pcall 4 (fun n => rfl) (am_lv (am_l0)) h
theorem bk_91_8 {L : Nat} {xs : Nat → Int32} {d : Nat} {P : Option Value → am_I → am_J → Prop}  (I : am_I) (J : am_J)  (h : am_To (am_XX L xs) d 92 0 [some (.ref 73), some (.ref 66), none] [] I J (fun r I2 J2 => am_To (am_XX L xs) (d + 1) 91 11 [some (.ref 0)] (r.toList ++ []) I2 J2 P)) : am_To (am_XX L xs) (d + 1) 91 8 [some (.ref 0)] [.ref 66, .ref 73] I J P := by
  exact am_pcall 1 (fun n => rfl) (am_lv (am_l0)) h
theorem bk_91_11 {L : Nat} {xs : Nat → Int32} {d : Nat} {P : Option Value → am_I → am_J → Prop}  (I : am_I) (J : am_J)  (h : am_To (am_XX L xs) d 54 0 [some (.ref 0)] [] I J (fun r I2 J2 => am_To (am_XX L xs) (d + 1) 91 15 [none] (r.toList ++ []) I2 J2 P)) : am_To (am_XX L xs) (d + 1) 91 11 [some (.ref 0)] [] I J P := by
  exact am_pcall 2 (fun n => rfl) (am_ln (am_l0)) h
theorem bk_91_15 {L : Nat} {xs : Nat → Int32} {d : Nat} {P : Option Value → am_I → am_J → Prop}  (I : am_I) (J : am_J)  (h : P (some (.int (I 66 6))) I J) : am_To (am_XX L xs) d 91 15 [none] [.ref 66] I J P := by
  exact am_pret 2 (fun n => rfl) h
theorem bk_92_0 {L : Nat} {xs : Nat → Int32} {d : Nat} {P : Option Value → am_I → am_J → Prop}  (I : am_I) (J : am_J)  (h : am_To (am_XX L xs) d 92 2 [some (.ref 73), some (.ref 66), some (.int (0 : Int32))] [] I J P) : am_To (am_XX L xs) d 92 0 [some (.ref 73), some (.ref 66), none] [] I J P := by
  exact am_path 2 (fun n => rfl) (am_lv (am_lv (am_lv (am_l0)))) h
theorem bk_92_2 {L : Nat} {xs : Nat → Int32} {d : Nat} {P : Option Value → am_I → am_J → Prop} (x2 : Int32) (I : am_I) (J : am_J)  (h : am_If ((24 : Int32) ≤ x2) (P none (am_up I 73 1 (1 : Int32)) J) (am_Ix x2 24 fun q1 => am_Ix x2 24 fun q2 => am_To (am_XX L xs) d 92 2 [some (.ref 73), some (.ref 66), some (.int (x2 + (1 : Int32)))] [] (am_up I 74 q2 (I 69 q1)) J P)) : am_To (am_XX L xs) d 92 2 [some (.ref 73), some (.ref 66), some (.int x2)] [] I J P := by
  by_cases c1 : (24 : Int32) ≤ x2
  · replace h := h.1 c1
    exact am_pret 7 (fun n => (if_pos c1).trans (rfl)) h
  · replace h := h.2 c1
    obtain ⟨q1, j2, h⟩ := h
    obtain ⟨q2, j3, h⟩ := h
    exact am_path 13 (fun n => (if_neg c1).trans ((am_bs j2).trans ((am_bs j3).trans (rfl)))) (am_lv (am_lv (am_lv (am_l0)))) h
