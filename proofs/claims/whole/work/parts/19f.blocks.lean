set_option maxRecDepth 100000
set_option maxHeartbeats 4000000
theorem bk_93_0 {L : Nat} {xs : Nat → Int32} {d : Nat} {P : Option Value → am_I → am_J → Prop} (x1 : Int32) (I : am_I) (J : am_J)  (h : am_If ((I 73 1) = 0) (P (some (.int (-1 : Int32))) I J) (am_To (am_XX L xs) d 54 0 [some (.ref 0)] [] I J (fun r I2 J2 => am_To (am_XX L xs) (d + 1) 93 18 [none, some (.int x1)] (r.toList ++ [.ref 73]) I2 J2 P))) : am_To (am_XX L xs) (d + 1) 93 0 [some (.ref 0), some (.int x1)] [] I J P := by
  by_cases c1 : (I 73 1) = 0
  · replace h := h.1 c1
    exact am_pret 6 (fun n => (if_pos c1).trans (rfl)) h
  · replace h := h.2 c1
    exact am_pcall 8 (fun n => (if_neg c1).trans (rfl)) (am_ln (am_lv (am_l0))) h
theorem bk_93_18 {L : Nat} {xs : Nat → Int32} {d : Nat} {P : Option Value → am_I → am_J → Prop} (x1 : Int32) (I : am_I) (J : am_J)  (h : am_To (am_XX L xs) d 94 0 [some (.ref 73), some (.ref 66), some (.int x1), none, none] [] I J (fun r I2 J2 => am_To (am_XX L xs) (d + 1) 93 22 [none, none] (r.toList ++ []) I2 J2 P)) : am_To (am_XX L xs) (d + 1) 93 18 [none, some (.int x1)] [.ref 66, .ref 73] I J P := by
  exact am_pcall 2 (fun n => rfl) (am_ln (am_ln (am_l0))) h
theorem bk_93_22 {L : Nat} {xs : Nat → Int32} {d : Nat} {P : Option Value → am_I → am_J → Prop} (s0 : Int32) (I : am_I) (J : am_J)  (h : P (some (.int s0)) I J) : am_To (am_XX L xs) d 93 22 [none, none] [.int s0] I J P := by
  exact am_pret 2 (fun n => rfl) h
theorem bk_94_0 {L : Nat} {xs : Nat → Int32} {d : Nat} {P : Option Value → am_I → am_J → Prop} (x2 : Int32) (I : am_I) (J : am_J)  (h : am_If (x2 < 0) (P (some (.int (-1 : Int32))) I J) (am_If (x2 ≤ (3 : Int32)) (am_To (am_XX L xs) d 94 16 [some (.ref 73), some (.ref 66), some (.int x2), some (.int (0 : Int32)), some (.int (0 : Int32))] [] I J P) (P (some (.int (-1 : Int32))) I J))) : am_To (am_XX L xs) d 94 0 [some (.ref 73), some (.ref 66), some (.int x2), none, none] [] I J P := by
  by_cases c1 : x2 < 0
  · replace h := h.1 c1
    exact am_pret 4 (fun n => (if_pos c1).trans (rfl)) h
  · replace h := h.2 c1
    by_cases c2 : x2 ≤ (3 : Int32)
    · replace h := h.1 c2
      exact am_path 9 (fun n => (if_neg c1).trans ((if_pos c2).trans (rfl))) (am_lv (am_lv (am_lv (am_lv (am_lv (am_l0)))))) h
    · replace h := h.2 c2
      exact am_pret 7 (fun n => (if_neg c1).trans ((if_neg c2).trans (rfl))) h
theorem bk_94_16 {L : Nat} {xs : Nat → Int32} {d : Nat} {P : Option Value → am_I → am_J → Prop} (x2 : Int32) (x3 : Int32) (x4 : Int32) (I : am_I) (J : am_J)  (h : am_If ((24 : Int32) ≤ x4) (P (some (.int x3)) I J) (am_To (am_XX L xs) d 95 0 [some (.ref 73), some (.ref 66), some (.int x2), some (.int x4), none, none] [] I J (fun r I2 J2 => am_To (am_XX L xs) (d + 1) 94 31 [some (.ref 73), some (.ref 66), some (.int x2), some (.int x3), some (.int x4)] (r.toList ++ []) I2 J2 P))) : am_To (am_XX L xs) (d + 1) 94 16 [some (.ref 73), some (.ref 66), some (.int x2), some (.int x3), some (.int x4)] [] I J P := by
  by_cases c1 : (24 : Int32) ≤ x4
  · replace h := h.1 c1
    exact am_pret 5 (fun n => (if_pos c1).trans (rfl)) h
  · replace h := h.2 c1
    exact am_pcall 8 (fun n => (if_neg c1).trans (rfl)) (am_lv (am_lv (am_lv (am_lv (am_lv (am_l0)))))) h
theorem bk_94_31 {L : Nat} {xs : Nat → Int32} {d : Nat} {P : Option Value → am_I → am_J → Prop} (x2 : Int32) (x3 : Int32) (x4 : Int32) (s0 : Int32) (I : am_I) (J : am_J)  (h : am_If (s0 = 0) (am_To (am_XX L xs) d 94 16 [some (.ref 73), some (.ref 66), some (.int x2), some (.int x3), some (.int (x4 + (1 : Int32)))] [] I J P) (am_To (am_XX L xs) d 94 16 [some (.ref 73), some (.ref 66), some (.int x2), some (.int (x3 + (1 : Int32))), some (.int (x4 + (1 : Int32)))] [] I J P)) : am_To (am_XX L xs) d 94 31 [some (.ref 73), some (.ref 66), some (.int x2), some (.int x3), some (.int x4)] [.int s0] I J P := by
  by_cases c1 : s0 = 0
  · replace h := h.1 c1
    exact am_path 3 (fun n => (if_pos c1).trans (rfl)) (am_lv (am_lv (am_lv (am_lv (am_lv (am_l0)))))) h
  · replace h := h.2 c1
    exact am_path 4 (fun n => (if_neg c1).trans (rfl)) (am_lv (am_lv (am_lv (am_lv (am_lv (am_l0)))))) h
theorem bk_95_0 {L : Nat} {xs : Nat → Int32} {d : Nat} {P : Option Value → am_I → am_J → Prop} (x2 : Int32) (x3 : Int32) (I : am_I) (J : am_J)  (h : am_Ix x3 24 fun q1 => am_Ix x3 24 fun q2 => am_To (am_XX L xs) d 95 (am_sw 101 x2 [(0, 44), (1, 63), (2, 82)]) [none, some (.ref 66), none, some (.int x3), some (.int (I 74 q1)), some (.int (I 69 q2))] [] I J P) : am_To (am_XX L xs) d 95 0 [some (.ref 73), some (.ref 66), some (.int x2), some (.int x3), none, none] [] I J P := by
  obtain ⟨q1, j1, h⟩ := h
  obtain ⟨q2, j2, h⟩ := h
  exact am_path 12 (fun n => (am_bs j1).trans ((am_bs j2).trans (rfl))) (am_ln (am_lv (am_ln (am_lv (am_lv (am_lv (am_l0))))))) h
theorem bk_95_44 {L : Nat} {xs : Nat → Int32} {d : Nat} {P : Option Value → am_I → am_J → Prop} (x4 : Int32) (x5 : Int32) (I : am_I) (J : am_J)  (h : am_If (x4 = (-1 : Int32)) (P (some (.int (0 : Int32))) I J) (am_If (x4 = x5) (P (some (.int (1 : Int32))) I J) (P (some (.int (0 : Int32))) I J))) : am_To (am_XX L xs) d 95 44 [none, none, none, none, some (.int x4), some (.int x5)] [] I J P := by
  by_cases c1 : x4 = (-1 : Int32)
  · replace h := h.1 c1
    exact am_pret 5 (fun n => (if_pos c1).trans (rfl)) h
  · replace h := h.2 c1
    by_cases c2 : x4 = x5
    · replace h := h.1 c2
      exact am_pret 9 (fun n => (if_neg c1).trans ((if_pos c2).trans (rfl))) h
    · replace h := h.2 c2
      exact am_pret 8 (fun n => (if_neg c1).trans ((if_neg c2).trans (rfl))) h
theorem bk_95_63 {L : Nat} {xs : Nat → Int32} {d : Nat} {P : Option Value → am_I → am_J → Prop} (x4 : Int32) (x5 : Int32) (I : am_I) (J : am_J)  (h : am_If (x4 = (-1 : Int32)) (P (some (.int (0 : Int32))) I J) (am_If (x4 = x5) (P (some (.int (0 : Int32))) I J) (P (some (.int (1 : Int32))) I J))) : am_To (am_XX L xs) d 95 63 [none, none, none, none, some (.int x4), some (.int x5)] [] I J P := by
  by_cases c1 : x4 = (-1 : Int32)
  · replace h := h.1 c1
    exact am_pret 5 (fun n => (if_pos c1).trans (rfl)) h
  · replace h := h.2 c1
    by_cases c2 : x4 = x5
    · replace h := h.1 c2
      exact am_pret 8 (fun n => (if_neg c1).trans ((if_pos c2).trans (rfl))) h
    · replace h := h.2 c2
      exact am_pret 9 (fun n => (if_neg c1).trans ((if_neg c2).trans (rfl))) h
theorem bk_95_82 {L : Nat} {xs : Nat → Int32} {d : Nat} {P : Option Value → am_I → am_J → Prop} (x4 : Int32) (x5 : Int32) (I : am_I) (J : am_J)  (h : am_If (x5 = (-1 : Int32)) (P (some (.int (0 : Int32))) I J) (am_If (x4 = x5) (P (some (.int (0 : Int32))) I J) (P (some (.int (1 : Int32))) I J))) : am_To (am_XX L xs) d 95 82 [none, none, none, none, some (.int x4), some (.int x5)] [] I J P := by
  by_cases c1 : x5 = (-1 : Int32)
  · replace h := h.1 c1
    exact am_pret 5 (fun n => (if_pos c1).trans (rfl)) h
  · replace h := h.2 c1
    by_cases c2 : x4 = x5
    · replace h := h.1 c2
      exact am_pret 8 (fun n => (if_neg c1).trans ((if_pos c2).trans (rfl))) h
    · replace h := h.2 c2
      exact am_pret 9 (fun n => (if_neg c1).trans ((if_neg c2).trans (rfl))) h
theorem bk_95_101 {L : Nat} {xs : Nat → Int32} {d : Nat} {P : Option Value → am_I → am_J → Prop} (x3 : Int32) (x4 : Int32) (I : am_I) (J : am_J)  (h : am_If (x4 = (-1 : Int32)) (P (some (.int (0 : Int32))) I J) (am_Ix x4 24 fun q1 => am_To (am_XX L xs) d 62 0 [some (.int (I 68 q1)), some (.int x3)] [] I J (fun r I2 J2 => am_To (am_XX L xs) (d + 1) 95 121 [none, none, none, none, none, none] (r.toList ++ []) I2 J2 P))) : am_To (am_XX L xs) (d + 1) 95 101 [none, some (.ref 66), none, some (.int x3), some (.int x4), none] [] I J P := by
  by_cases c1 : x4 = (-1 : Int32)
  · replace h := h.1 c1
    exact am_pret 5 (fun n => (if_pos c1).trans (rfl)) h
  · replace h := h.2 c1
    obtain ⟨q1, j2, h⟩ := h
    exact am_pcall 10 (fun n => (if_neg c1).trans ((am_bs j2).trans (rfl))) (am_ln (am_ln (am_ln (am_ln (am_ln (am_ln (am_l0))))))) h
theorem bk_95_121 {L : Nat} {xs : Nat → Int32} {d : Nat} {P : Option Value → am_I → am_J → Prop} (s0 : Int32) (I : am_I) (J : am_J)  (h : am_If (s0 = 0) (P (some (.int (0 : Int32))) I J) (P (some (.int (1 : Int32))) I J)) : am_To (am_XX L xs) d 95 121 [none, none, none, none, none, none] [.int s0] I J P := by
  by_cases c1 : s0 = 0
  · replace h := h.1 c1
    exact am_pret 3 (fun n => (if_pos c1).trans (rfl)) h
  · replace h := h.2 c1
    exact am_pret 4 (fun n => (if_neg c1).trans (rfl)) h
theorem bk_96_0 {L : Nat} {xs : Nat → Int32} {d : Nat} {P : Option Value → am_I → am_J → Prop} (x1 : Int32) (I : am_I) (J : am_J)  (h : am_To (am_XX L xs) d 96 (am_sw 91 x1 [(0, 40), (1, 48), (2, 56), (3, 67), (4, 75), (5, 83)]) [some (.ref 0), none] [] I J P) : am_To (am_XX L xs) d 96 0 [some (.ref 0), some (.int x1)] [] I J P := by
  exact am_path 2 (fun n => rfl) (am_lv (am_ln (am_l0))) h
theorem bk_96_40 {L : Nat} {xs : Nat → Int32} {d : Nat} {P : Option Value → am_I → am_J → Prop}  (I : am_I) (J : am_J)  (h : P (some (.int (I 3 1))) I J) : am_To (am_XX L xs) d 96 40 [some (.ref 0), none] [] I J P := by
  exact am_pret 4 (fun n => rfl) h
theorem bk_96_48 {L : Nat} {xs : Nat → Int32} {d : Nat} {P : Option Value → am_I → am_J → Prop}  (I : am_I) (J : am_J)  (h : am_To (am_XX L xs) d 97 0 [some (.ref 9), none, none, none, none, none] [] I J (fun r I2 J2 => am_To (am_XX L xs) (d + 1) 96 55 [none, none] (r.toList ++ []) I2 J2 P)) : am_To (am_XX L xs) (d + 1) 96 48 [some (.ref 0), none] [] I J P := by
  exact am_pcall 3 (fun n => rfl) (am_ln (am_ln (am_l0))) h
theorem bk_96_56 {L : Nat} {xs : Nat → Int32} {d : Nat} {P : Option Value → am_I → am_J → Prop}  (I : am_I) (J : am_J)  (h : P (some (.int (I 60 3))) I J) : am_To (am_XX L xs) d 96 56 [some (.ref 0), none] [] I J P := by
  exact am_pret 5 (fun n => rfl) h
theorem bk_96_67 {L : Nat} {xs : Nat → Int32} {d : Nat} {P : Option Value → am_I → am_J → Prop}  (I : am_I) (J : am_J)  (h : P (some (.int (I 1 1))) I J) : am_To (am_XX L xs) d 96 67 [some (.ref 0), none] [] I J P := by
  exact am_pret 4 (fun n => rfl) h
theorem bk_96_75 {L : Nat} {xs : Nat → Int32} {d : Nat} {P : Option Value → am_I → am_J → Prop}  (I : am_I) (J : am_J)  (h : am_To (am_XX L xs) d 54 0 [some (.ref 0)] [] I J (fun r I2 J2 => am_To (am_XX L xs) (d + 1) 96 79 [none, none] (r.toList ++ []) I2 J2 P)) : am_To (am_XX L xs) (d + 1) 96 75 [some (.ref 0), none] [] I J P := by
  exact am_pcall 2 (fun n => rfl) (am_ln (am_ln (am_l0))) h
theorem bk_96_83 {L : Nat} {xs : Nat → Int32} {d : Nat} {P : Option Value → am_I → am_J → Prop}  (I : am_I) (J : am_J)  (h : am_To (am_XX L xs) d 54 0 [some (.ref 0)] [] I J (fun r I2 J2 => am_To (am_XX L xs) (d + 1) 96 87 [none, none] (r.toList ++ []) I2 J2 P)) : am_To (am_XX L xs) (d + 1) 96 83 [some (.ref 0), none] [] I J P := by
  exact am_pcall 2 (fun n => rfl) (am_ln (am_ln (am_l0))) h
theorem bk_96_91 {L : Nat} {xs : Nat → Int32} {d : Nat} {P : Option Value → am_I → am_J → Prop}  (I : am_I) (J : am_J)  (h : P (some (.int (-1 : Int32))) I J) : am_To (am_XX L xs) d 96 91 [none, none] [] I J P := by
  exact am_pret 2 (fun n => rfl) h
theorem bk_96_55 {L : Nat} {xs : Nat → Int32} {d : Nat} {P : Option Value → am_I → am_J → Prop} (s0 : Int32) (I : am_I) (J : am_J)  (h : P (some (.int s0)) I J) : am_To (am_XX L xs) d 96 55 [none, none] [.int s0] I J P := by
  exact am_pret 1 (fun n => rfl) h
theorem bk_96_79 {L : Nat} {xs : Nat → Int32} {d : Nat} {P : Option Value → am_I → am_J → Prop}  (I : am_I) (J : am_J)  (h : P (some (.int (I 66 6))) I J) : am_To (am_XX L xs) d 96 79 [none, none] [.ref 66] I J P := by
  exact am_pret 2 (fun n => rfl) h
theorem bk_96_87 {L : Nat} {xs : Nat → Int32} {d : Nat} {P : Option Value → am_I → am_J → Prop}  (I : am_I) (J : am_J)  (h : P (some (.int (I 66 5))) I J) : am_To (am_XX L xs) d 96 87 [none, none] [.ref 66] I J P := by
  exact am_pret 2 (fun n => rfl) h
theorem bk_97_0 {L : Nat} {xs : Nat → Int32} {d : Nat} {P : Option Value → am_I → am_J → Prop}  (I : am_I) (J : am_J)  (h : am_To (am_XX L xs) d 97 13 [none, some (.int (0 : Int32)), some (.ref 59), some (.int (Int32.ofNat 12)), some (.int (0 : Int32)), none] [] I J P) : am_To (am_XX L xs) d 97 0 [some (.ref 9), none, none, none, none, none] [] I J P := by
  exact am_path 10 (fun n => rfl) (am_ln (am_lv (am_lv (am_lv (am_lv (am_ln (am_l0))))))) h
theorem bk_97_13 {L : Nat} {xs : Nat → Int32} {d : Nat} {P : Option Value → am_I → am_J → Prop} (x1 : Int32) (x3 : Int32) (x4 : Int32) (I : am_I) (J : am_J)  (h : am_If (x3 ≤ x4) (P (some (.int x1)) I J) (am_Ix x4 12 fun q1 => am_If ((I 59 q1) = 0) (am_To (am_XX L xs) d 97 13 [none, some (.int x1), some (.ref 59), some (.int x3), some (.int (x4 + (1 : Int32))), none] [] I J P) (am_To (am_XX L xs) d 97 13 [none, some (.int (x1 + (1 : Int32))), some (.ref 59), some (.int x3), some (.int (x4 + (1 : Int32))), none] [] I J P))) : am_To (am_XX L xs) d 97 13 [none, some (.int x1), some (.ref 59), some (.int x3), some (.int x4), none] [] I J P := by
  by_cases c1 : x3 ≤ x4
  · replace h := h.1 c1
    exact am_pret 5 (fun n => (if_pos c1).trans (rfl)) h
  · replace h := h.2 c1
    obtain ⟨q1, j2, h⟩ := h
    by_cases c3 : (I 59 q1) = 0
    · replace h := h.1 c3
      exact am_path 11 (fun n => (if_neg c1).trans ((am_bs j2).trans ((if_pos c3).trans (rfl)))) (am_ln (am_lv (am_lv (am_lv (am_lv (am_ln (am_l0))))))) h
    · replace h := h.2 c3
      exact am_path 12 (fun n => (if_neg c1).trans ((am_bs j2).trans ((if_neg c3).trans (rfl)))) (am_ln (am_lv (am_lv (am_lv (am_lv (am_ln (am_l0))))))) h
theorem bk_99_0 {L : Nat} {xs : Nat → Int32} {d : Nat} {P : Option Value → am_I → am_J → Prop} (x1 : Int32) (x2 : Int32) (x3 : Int32) (x4 : Int32) (x5 : Int32) (I : am_I) (J : am_J)  (h : am_If (((I 95 1) + (20 : Int32)) ≤ (200 : Int32)) (am_To (am_XX L xs) d 100 0 [some (.ref 95), some (.int x1), none] [] I J (fun r I2 J2 => am_To (am_XX L xs) (d + 1) 99 20 [some (.ref 95), none, some (.int x2), some (.int x3), some (.int x4), some (.int x5)] (r.toList ++ []) I2 J2 P)) (P (some (.int (-1 : Int32))) I J)) : am_To (am_XX L xs) (d + 1) 99 0 [some (.ref 95), some (.int x1), some (.int x2), some (.int x3), some (.int x4), some (.int x5)] [] I J P := by
  by_cases c1 : ((I 95 1) + (20 : Int32)) ≤ (200 : Int32)
  · replace h := h.1 c1
    exact am_pcall 9 (fun n => (if_pos c1).trans (rfl)) (am_lv (am_ln (am_lv (am_lv (am_lv (am_lv (am_l0))))))) h
  · replace h := h.2 c1
    exact am_pret 8 (fun n => (if_neg c1).trans (rfl)) h
theorem bk_99_20 {L : Nat} {xs : Nat → Int32} {d : Nat} {P : Option Value → am_I → am_J → Prop} (x2 : Int32) (x3 : Int32) (x4 : Int32) (x5 : Int32) (I : am_I) (J : am_J)  (h : am_To (am_XX L xs) d 100 0 [some (.ref 95), some (.int x2), none] [] I J (fun r I2 J2 => am_To (am_XX L xs) (d + 1) 99 25 [some (.ref 95), none, none, some (.int x3), some (.int x4), some (.int x5)] (r.toList ++ []) I2 J2 P)) : am_To (am_XX L xs) (d + 1) 99 20 [some (.ref 95), none, some (.int x2), some (.int x3), some (.int x4), some (.int x5)] [] I J P := by
  exact am_pcall 3 (fun n => rfl) (am_lv (am_ln (am_ln (am_lv (am_lv (am_lv (am_l0))))))) h
theorem bk_99_25 {L : Nat} {xs : Nat → Int32} {d : Nat} {P : Option Value → am_I → am_J → Prop} (x3 : Int32) (x4 : Int32) (x5 : Int32) (I : am_I) (J : am_J)  (h : am_To (am_XX L xs) d 100 0 [some (.ref 95), some (.int x3), none] [] I J (fun r I2 J2 => am_To (am_XX L xs) (d + 1) 99 30 [some (.ref 95), none, none, none, some (.int x4), some (.int x5)] (r.toList ++ []) I2 J2 P)) : am_To (am_XX L xs) (d + 1) 99 25 [some (.ref 95), none, none, some (.int x3), some (.int x4), some (.int x5)] [] I J P := by
  exact am_pcall 3 (fun n => rfl) (am_lv (am_ln (am_ln (am_ln (am_lv (am_lv (am_l0))))))) h
theorem bk_99_30 {L : Nat} {xs : Nat → Int32} {d : Nat} {P : Option Value → am_I → am_J → Prop} (x4 : Int32) (x5 : Int32) (I : am_I) (J : am_J)  (h : am_To (am_XX L xs) d 100 0 [some (.ref 95), some (.int x4), none] [] I J (fun r I2 J2 => am_To (am_XX L xs) (d + 1) 99 36 [some (.ref 95), none, none, none, none, some (.int x5)] (r.toList ++ []) I2 J2 P)) : am_To (am_XX L xs) (d + 1) 99 30 [some (.ref 95), none, none, none, some (.int x4), some (.int x5)] [] I J P := by
  exact am_pcall 3 (fun n => rfl) (am_lv (am_ln (am_ln (am_ln (am_ln (am_lv (am_l0))))))) h
theorem bk_99_36 {L : Nat} {xs : Nat → Int32} {d : Nat} {P : Option Value → am_I → am_J → Prop} (x5 : Int32) (I : am_I) (J : am_J)  (h : am_To (am_XX L xs) d 100 0 [some (.ref 95), some (.int x5), none] [] I J (fun r I2 J2 => am_To (am_XX L xs) (d + 1) 99 42 [some (.ref 95), none, none, none, none, none] (r.toList ++ []) I2 J2 P)) : am_To (am_XX L xs) (d + 1) 99 36 [some (.ref 95), none, none, none, none, some (.int x5)] [] I J P := by
  exact am_pcall 3 (fun n => rfl) (am_lv (am_ln (am_ln (am_ln (am_ln (am_ln (am_l0))))))) h
theorem bk_99_42 {L : Nat} {xs : Nat → Int32} {d : Nat} {P : Option Value → am_I → am_J → Prop}  (I : am_I) (J : am_J)  (h : P (some (.int (I 95 1))) I J) : am_To (am_XX L xs) d 99 42 [some (.ref 95), none, none, none, none, none] [] I J P := by
  exact am_pret 3 (fun n => rfl) h
theorem bk_100_0 {L : Nat} {xs : Nat → Int32} {d : Nat} {P : Option Value → am_I → am_J → Prop} (x1 : Int32) (I : am_I) (J : am_J)  (h : am_To (am_XX L xs) d 100 3 [some (.ref 95), some (.int x1), some (.int (24 : Int32))] [] I J P) : am_To (am_XX L xs) d 100 0 [some (.ref 95), some (.int x1), none] [] I J P := by
  exact am_path 2 (fun n => rfl) (am_lv (am_lv (am_lv (am_l0)))) h
theorem bk_100_3 {L : Nat} {xs : Nat → Int32} {d : Nat} {P : Option Value → am_I → am_J → Prop} (x1 : Int32) (x2 : Int32) (I : am_I) (J : am_J)  (h : am_If (x2 < 0) (P none I J) (am_Ix (I 95 1) 200 fun q1 => am_To (am_XX L xs) d 100 3 [some (.ref 95), some (.int x1), some (.int (x2 + (-8 : Int32)))] [] (am_up (am_up I 96 q1 (vp_nar .byte ((x1 >>> (x2 &&& 31)).toInt8.toInt32))) 95 1 (((am_up I 96 q1 (vp_nar .byte ((x1 >>> (x2 &&& 31)).toInt8.toInt32))) 95 1) + (1 : Int32))) J P)) : am_To (am_XX L xs) d 100 3 [some (.ref 95), some (.int x1), some (.int x2)] [] I J P := by
  by_cases c1 : x2 < 0
  · replace h := h.1 c1
    exact am_pret 3 (fun n => (if_pos c1).trans (rfl)) h
  · replace h := h.2 c1
    obtain ⟨q1, j2, h⟩ := h
    exact am_path 19 (fun n => (if_neg c1).trans ((am_bs j2).trans (rfl))) (am_lv (am_lv (am_lv (am_l0)))) h
theorem bk_101_0 {L : Nat} {xs : Nat → Int32} {d : Nat} {P : Option Value → am_I → am_J → Prop} (x1 : Int32) (I : am_I) (J : am_J)  (h : am_To (am_XX L xs) d 101 2 [some (.ref 95), some (.int x1), some (.int (0 : Int32)), none, none, none, none, none, none, none] [] I J P) : am_To (am_XX L xs) d 101 0 [some (.ref 95), some (.int x1), none, none, none, none, none, none, none, none] [] I J P := by
  exact am_path 2 (fun n => rfl) (am_lv (am_lv (am_lv (am_ln (am_ln (am_ln (am_ln (am_ln (am_ln (am_ln (am_l0))))))))))) h
theorem bk_101_2 {L : Nat} {xs : Nat → Int32} {d : Nat} {P : Option Value → am_I → am_J → Prop} (x1 : Int32) (x2 : Int32) (I : am_I) (J : am_J)  (h : am_If ((12 : Int32) ≤ x2) (am_To (am_XX L xs) d 101 23 [some (.ref 95), some (.int x1), some (.int x2), none, none, none, none, none, none, none] [] I J P) (am_Ix x2 12 fun q1 => am_If ((I 98 q1) = 0) (am_To (am_XX L xs) d 101 23 [some (.ref 95), some (.int x1), some (.int x2), none, none, none, none, none, none, none] [] I J P) (am_To (am_XX L xs) d 101 2 [some (.ref 95), some (.int x1), some (.int (x2 + (1 : Int32))), none, none, none, none, none, none, none] [] I J P))) : am_To (am_XX L xs) d 101 2 [some (.ref 95), some (.int x1), some (.int x2), none, none, none, none, none, none, none] [] I J P := by
  by_cases c1 : (12 : Int32) ≤ x2
  · replace h := h.1 c1
    exact am_path 3 (fun n => (if_pos c1).trans (rfl)) (am_lv (am_lv (am_lv (am_ln (am_ln (am_ln (am_ln (am_ln (am_ln (am_ln (am_l0))))))))))) h
  · replace h := h.2 c1
    obtain ⟨q1, j2, h⟩ := h
    by_cases c3 : (I 98 q1) = 0
    · replace h := h.1 c3
      exact am_path 8 (fun n => (if_neg c1).trans ((am_bs j2).trans ((if_pos c3).trans (rfl)))) (am_lv (am_lv (am_lv (am_ln (am_ln (am_ln (am_ln (am_ln (am_ln (am_ln (am_l0))))))))))) h
    · replace h := h.2 c3
      exact am_path 10 (fun n => (if_neg c1).trans ((am_bs j2).trans ((if_neg c3).trans (rfl)))) (am_lv (am_lv (am_lv (am_ln (am_ln (am_ln (am_ln (am_ln (am_ln (am_ln (am_l0))))))))))) h
theorem bk_101_23 {L : Nat} {xs : Nat → Int32} {d : Nat} {P : Option Value → am_I → am_J → Prop} (x1 : Int32) (x2 : Int32) (I : am_I) (J : am_J)  (h : am_To (am_XX L xs) d 102 0 [some (.int x1), some (.int (0 : Int32)), some (.int (I 95 1))] [] I J (fun r I2 J2 => am_To (am_XX L xs) (d + 1) 101 32 [some (.ref 95), some (.int x1), some (.int x2), none, none, none, none, none, none, none] (r.toList ++ []) I2 J2 P)) : am_To (am_XX L xs) (d + 1) 101 23 [some (.ref 95), some (.int x1), some (.int x2), none, none, none, none, none, none, none] [] I J P := by
  exact am_pcall 5 (fun n => rfl) (am_lv (am_lv (am_lv (am_ln (am_ln (am_ln (am_ln (am_ln (am_ln (am_ln (am_l0))))))))))) h
theorem bk_101_32 {L : Nat} {xs : Nat → Int32} {d : Nat} {P : Option Value → am_I → am_J → Prop} (x1 : Int32) (x2 : Int32) (s0 : Int32) (I : am_I) (J : am_J)  (h : am_If (s0 = 0) (P (some (.int (-1 : Int32))) I J) (am_If (x2 = (12 : Int32)) (P (some (.int (-1 : Int32))) I J) (am_To (am_XX L xs) d 103 0 [some (.ref 95), some (.int x1), none] [] I J (fun r I2 J2 => am_To (am_XX L xs) (d + 1) 101 48 [some (.ref 95), none, some (.int x2), none, none, none, none, none, none, none] (r.toList ++ []) I2 J2 P)))) : am_To (am_XX L xs) (d + 1) 101 32 [some (.ref 95), some (.int x1), some (.int x2), none, none, none, none, none, none, none] [.int s0] I J P := by
  by_cases c1 : s0 = 0
  · replace h := h.1 c1
    exact am_pret 3 (fun n => (if_pos c1).trans (rfl)) h
  · replace h := h.2 c1
    by_cases c2 : x2 = (12 : Int32)
    · replace h := h.1 c2
      exact am_pret 6 (fun n => (if_neg c1).trans ((if_pos c2).trans (rfl))) h
    · replace h := h.2 c2
      exact am_pcall 7 (fun n => (if_neg c1).trans ((if_neg c2).trans (rfl))) (am_lv (am_ln (am_lv (am_ln (am_ln (am_ln (am_ln (am_ln (am_ln (am_ln (am_l0))))))))))) h
theorem bk_101_48 {L : Nat} {xs : Nat → Int32} {d : Nat} {P : Option Value → am_I → am_J → Prop} (x2 : Int32) (I : am_I) (J : am_J)  (h : am_Ix x2 12 fun q1 => am_Ix x2 12 fun q2 => am_To (am_XX L xs) d 101 69 [some (.ref 95), none, some (.int x2), some (.int (0 : Int32)), none, none, none, none, none, none] [] (am_up (am_up (am_up I 95 1 (0 : Int32)) 98 q1 (vp_nar .boolean (1 : Int32))) 99 q2 (0 : Int32)) J P) : am_To (am_XX L xs) d 101 48 [some (.ref 95), none, some (.int x2), none, none, none, none, none, none, none] [] I J P := by
  obtain ⟨q1, j1, h⟩ := h
  obtain ⟨q2, j2, h⟩ := h
  exact am_path 15 (fun n => (am_bs j1).trans ((am_bs j2).trans (rfl))) (am_lv (am_ln (am_lv (am_lv (am_ln (am_ln (am_ln (am_ln (am_ln (am_ln (am_l0))))))))))) h
theorem bk_101_69 {L : Nat} {xs : Nat → Int32} {d : Nat} {P : Option Value → am_I → am_J → Prop} (x2 : Int32) (x3 : Int32) (I : am_I) (J : am_J)  (h : am_If ((I 95 20) ≤ x3) (P (some (.int x2)) I J) (am_To (am_XX L xs) d 101 80 [some (.ref 95), none, some (.int x2), some (.int x3), some (.int (0 : Int32)), none, none, none, none, none] [] I J P)) : am_To (am_XX L xs) d 101 69 [some (.ref 95), none, some (.int x2), some (.int x3), none, none, none, none, none, none] [] I J P := by
  by_cases c1 : (I 95 20) ≤ x3
  · replace h := h.1 c1
    exact am_pret 6 (fun n => (if_pos c1).trans (rfl)) h
  · replace h := h.2 c1
    exact am_path 6 (fun n => (if_neg c1).trans (rfl)) (am_lv (am_ln (am_lv (am_lv (am_lv (am_ln (am_ln (am_ln (am_ln (am_ln (am_l0))))))))))) h
theorem bk_101_80 {L : Nat} {xs : Nat → Int32} {d : Nat} {P : Option Value → am_I → am_J → Prop} (x2 : Int32) (x3 : Int32) (x4 : Int32) (I : am_I) (J : am_J)  (h : am_If ((5 : Int32) ≤ x4) (am_To (am_XX L xs) (d + 1) 101 69 [some (.ref 95), none, some (.int x2), some (.int (x3 + (1 : Int32))), none, none, none, none, none, none] [] I J P) (am_Ix x3 101 fun q1 => am_To (am_XX L xs) d 105 0 [some (.long (J 111 q1)), none] [] I J (fun r I2 J2 => am_To (am_XX L xs) (d + 1) 101 95 [some (.ref 95), none, some (.int x2), some (.int x3), some (.int x4), none, none, none, none, none] (r.toList ++ []) I2 J2 P))) : am_To (am_XX L xs) (d + 1) 101 80 [some (.ref 95), none, some (.int x2), some (.int x3), some (.int x4), none, none, none, none, none] [] I J P := by
  by_cases c1 : (5 : Int32) ≤ x4
  · replace h := h.1 c1
    exact am_path 5 (fun n => (if_pos c1).trans (rfl)) (am_lv (am_ln (am_lv (am_lv (am_ln (am_ln (am_ln (am_ln (am_ln (am_ln (am_l0))))))))))) h
  · replace h := h.2 c1
    obtain ⟨q1, j2, h⟩ := h
    exact am_pcall 8 (fun n => (if_neg c1).trans ((am_bs j2).trans (rfl))) (am_lv (am_ln (am_lv (am_lv (am_lv (am_ln (am_ln (am_ln (am_ln (am_ln (am_l0))))))))))) h
theorem bk_101_95 {L : Nat} {xs : Nat → Int32} {d : Nat} {P : Option Value → am_I → am_J → Prop} (x2 : Int32) (x3 : Int32) (x4 : Int32) (s0 : Int32) (I : am_I) (J : am_J)  (h : am_If (s0 = 0) (am_To (am_XX L xs) (d + 1) 101 69 [some (.ref 95), none, some (.int x2), some (.int (x3 + (1 : Int32))), none, none, none, none, none, none] [] I J P) (am_To (am_XX L xs) d 106 0 [some (.ref 95), some (.int x3), some (.int x4), none, none] [] I J (fun r I2 J2 => am_To (am_XX L xs) (d + 1) 101 105 [some (.ref 95), none, some (.int x2), some (.int x3), some (.int x4), none, none, none, none, none] (r.toList ++ []) I2 J2 P))) : am_To (am_XX L xs) (d + 1) 101 95 [some (.ref 95), none, some (.int x2), some (.int x3), some (.int x4), none, none, none, none, none] [.int s0] I J P := by
  by_cases c1 : s0 = 0
  · replace h := h.1 c1
    exact am_path 3 (fun n => (if_pos c1).trans (rfl)) (am_lv (am_ln (am_lv (am_lv (am_ln (am_ln (am_ln (am_ln (am_ln (am_ln (am_l0))))))))))) h
  · replace h := h.2 c1
    exact am_pcall 5 (fun n => (if_neg c1).trans (rfl)) (am_lv (am_ln (am_lv (am_lv (am_lv (am_ln (am_ln (am_ln (am_ln (am_ln (am_l0))))))))))) h
theorem bk_101_105 {L : Nat} {xs : Nat → Int32} {d : Nat} {P : Option Value → am_I → am_J → Prop} (x2 : Int32) (x3 : Int32) (x4 : Int32) (s0 : Int32) (I : am_I) (J : am_J)  (h : am_If (s0 = (-1 : Int32)) (am_To (am_XX L xs) (d + 1) 101 80 [some (.ref 95), none, some (.int x2), some (.int x3), some (.int (x4 + (1 : Int32))), none, none, none, none, none] [] I J P) (am_Ix x3 101 fun q1 => am_To (am_XX L xs) d 108 0 [some (.ref 95), some (.long (J 111 q1)), none, none] [] I J (fun r I2 J2 => am_To (am_XX L xs) (d + 1) 101 126 [some (.ref 95), none, some (.int x2), some (.int x3), some (.int x4), some (.int s0), none, none, none, none] (r.toList ++ []) I2 J2 P))) : am_To (am_XX L xs) (d + 1) 101 105 [some (.ref 95), none, some (.int x2), some (.int x3), some (.int x4), none, none, none, none, none] [.int s0] I J P := by
  by_cases c1 : s0 = (-1 : Int32)
  · replace h := h.1 c1
    exact am_path 7 (fun n => (if_pos c1).trans (rfl)) (am_lv (am_ln (am_lv (am_lv (am_lv (am_ln (am_ln (am_ln (am_ln (am_ln (am_l0))))))))))) h
  · replace h := h.2 c1
    obtain ⟨q1, j2, h⟩ := h
    exact am_pcall 10 (fun n => (if_neg c1).trans ((am_bs j2).trans (rfl))) (am_lv (am_ln (am_lv (am_lv (am_lv (am_lv (am_ln (am_ln (am_ln (am_ln (am_l0))))))))))) h
theorem bk_101_126 {L : Nat} {xs : Nat → Int32} {d : Nat} {P : Option Value → am_I → am_J → Prop} (x2 : Int32) (x3 : Int32) (x4 : Int32) (x5 : Int32) (s0 : Int32) (I : am_I) (J : am_J)  (h : am_If (s0 = (-1 : Int32)) (am_To (am_XX L xs) (d + 1) 101 149 [some (.ref 95), none, some (.int x2), some (.int x3), some (.int x4), none, some (.int s0), none, none, none] [.int (-1 : Int32)] I J P) (am_Ix x5 101 fun q1 => am_To (am_XX L xs) d 108 0 [some (.ref 95), some (.long (J 111 q1)), none, none] [] I J (fun r I2 J2 => am_To (am_XX L xs) (d + 1) 101 149 [some (.ref 95), none, some (.int x2), some (.int x3), some (.int x4), none, some (.int s0), none, none, none] (r.toList ++ []) I2 J2 P))) : am_To (am_XX L xs) (d + 1) 101 126 [some (.ref 95), none, some (.int x2), some (.int x3), some (.int x4), some (.int x5), none, none, none, none] [.int s0] I J P := by
  by_cases c1 : s0 = (-1 : Int32)
  · replace h := h.1 c1
    exact am_path 6 (fun n => (if_pos c1).trans (rfl)) (am_lv (am_ln (am_lv (am_lv (am_lv (am_ln (am_lv (am_ln (am_ln (am_ln (am_l0))))))))))) h
  · replace h := h.2 c1
    obtain ⟨q1, j2, h⟩ := h
    exact am_pcall 10 (fun n => (if_neg c1).trans ((am_bs j2).trans (rfl))) (am_lv (am_ln (am_lv (am_lv (am_lv (am_ln (am_lv (am_ln (am_ln (am_ln (am_l0))))))))))) h
theorem bk_101_149 {L : Nat} {xs : Nat → Int32} {d : Nat} {P : Option Value → am_I → am_J → Prop} (x2 : Int32) (x3 : Int32) (x4 : Int32) (x6 : Int32) (s0 : Int32) (I : am_I) (J : am_J)  (h : am_If (s0 = (-1 : Int32)) (am_To (am_XX L xs) d 101 80 [some (.ref 95), none, some (.int x2), some (.int x3), some (.int (x4 + (1 : Int32))), none, none, none, none, none] [] I J P) (am_Ix x2 12 fun q1 => am_If (x4 = (1 : Int32)) (am_To (am_XX L xs) d 101 185 [some (.ref 95), none, some (.int x2), some (.int x3), some (.int x4), none, some (.int x6), some (.int s0), some (.int (((100 : Int32) * x2) + (I 99 q1))), none] [] I J P) (am_If (x4 = (2 : Int32)) (am_To (am_XX L xs) d 101 185 [some (.ref 95), none, some (.int x2), some (.int x3), some (.int x4), none, some (.int x6), some (.int s0), some (.int (((100 : Int32) * x2) + (I 99 q1))), none] [] I J P) (am_To (am_XX L xs) d 101 190 [some (.ref 95), none, some (.int x2), some (.int x3), some (.int x4), none, some (.int x6), some (.int s0), some (.int (((100 : Int32) * x2) + (I 99 q1))), none] [.int (0 : Int32)] I J P)))) : am_To (am_XX L xs) d 101 149 [some (.ref 95), none, some (.int x2), some (.int x3), some (.int x4), none, some (.int x6), none, none, none] [.int s0] I J P := by
  by_cases c1 : s0 = (-1 : Int32)
  · replace h := h.1 c1
    exact am_path 7 (fun n => (if_pos c1).trans (rfl)) (am_lv (am_ln (am_lv (am_lv (am_lv (am_ln (am_ln (am_ln (am_ln (am_ln (am_l0))))))))))) h
  · replace h := h.2 c1
    obtain ⟨q1, j2, h⟩ := h
    by_cases c3 : x4 = (1 : Int32)
    · replace h := h.1 c3
      exact am_path 16 (fun n => (if_neg c1).trans ((am_bs j2).trans ((if_pos c3).trans (rfl)))) (am_lv (am_ln (am_lv (am_lv (am_lv (am_ln (am_lv (am_lv (am_lv (am_ln (am_l0))))))))))) h
    · replace h := h.2 c3
      by_cases c4 : x4 = (2 : Int32)
      · replace h := h.1 c4
        exact am_path 19 (fun n => (if_neg c1).trans ((am_bs j2).trans ((if_neg c3).trans ((if_pos c4).trans (rfl))))) (am_lv (am_ln (am_lv (am_lv (am_lv (am_ln (am_lv (am_lv (am_lv (am_ln (am_l0))))))))))) h
      · replace h := h.2 c4
        exact am_path 20 (fun n => (if_neg c1).trans ((am_bs j2).trans ((if_neg c3).trans ((if_neg c4).trans (rfl))))) (am_lv (am_ln (am_lv (am_lv (am_lv (am_ln (am_lv (am_lv (am_lv (am_ln (am_l0))))))))))) h
theorem bk_101_185 {L : Nat} {xs : Nat → Int32} {d : Nat} {P : Option Value → am_I → am_J → Prop} (x2 : Int32) (x3 : Int32) (x4 : Int32) (x6 : Int32) (x7 : Int32) (x8 : Int32) (I : am_I) (J : am_J)  (h : am_To (am_XX L xs) d 101 190 [some (.ref 95), none, some (.int x2), some (.int x3), some (.int x4), none, some (.int x6), some (.int x7), some (.int x8), none] [.int (1 : Int32)] I J P) : am_To (am_XX L xs) d 101 185 [some (.ref 95), none, some (.int x2), some (.int x3), some (.int x4), none, some (.int x6), some (.int x7), some (.int x8), none] [] I J P := by
  exact am_path 2 (fun n => rfl) (am_lv (am_ln (am_lv (am_lv (am_lv (am_ln (am_lv (am_lv (am_lv (am_ln (am_l0))))))))))) h
theorem bk_101_190 {L : Nat} {xs : Nat → Int32} {d : Nat} {P : Option Value → am_I → am_J → Prop} (x2 : Int32) (x3 : Int32) (x4 : Int32) (x6 : Int32) (x7 : Int32) (x8 : Int32) (s0 : Int32) (I : am_I) (J : am_J)  (h : am_If ((3 : Int32) ≤ x4) (am_To (am_XX L xs) d 101 212 [some (.ref 95), none, some (.int x2), some (.int x3), some (.int x4), none, some (.int x6), some (.int x7), some (.int x8), some (.int s0)] [.int (x4 - (2 : Int32)), .int x8, .ref 100] I J P) (am_To (am_XX L xs) d 101 212 [some (.ref 95), none, some (.int x2), some (.int x3), some (.int x4), none, some (.int x6), some (.int x7), some (.int x8), some (.int s0)] [.int (0 : Int32), .int x8, .ref 100] I J P)) : am_To (am_XX L xs) d 101 190 [some (.ref 95), none, some (.int x2), some (.int x3), some (.int x4), none, some (.int x6), some (.int x7), some (.int x8), none] [.int s0] I J P := by
  by_cases c1 : (3 : Int32) ≤ x4
  · replace h := h.1 c1
    exact am_path 10 (fun n => (if_pos c1).trans (rfl)) (am_lv (am_ln (am_lv (am_lv (am_lv (am_ln (am_lv (am_lv (am_lv (am_lv (am_l0))))))))))) h
  · replace h := h.2 c1
    exact am_path 9 (fun n => (if_neg c1).trans (rfl)) (am_lv (am_ln (am_lv (am_lv (am_lv (am_ln (am_lv (am_lv (am_lv (am_lv (am_l0))))))))))) h
theorem bk_101_212 {L : Nat} {xs : Nat → Int32} {d : Nat} {P : Option Value → am_I → am_J → Prop} (x2 : Int32) (x3 : Int32) (x4 : Int32) (x6 : Int32) (x7 : Int32) (x8 : Int32) (x9 : Int32) (s1 : Int32) (s2 : Int32) (I : am_I) (J : am_J)  (h : am_Ix s1 1200 fun q1 => am_If (x9 = 0) (am_To (am_XX L xs) d 101 231 [some (.ref 95), none, some (.int x2), some (.int x3), some (.int x4), none, some (.int x6), some (.int x7), some (.int x8), some (.int x9)] [.int x6, .int x8, .ref 101] (am_up I 100 q1 s2) J P) (am_To (am_XX L xs) d 101 231 [some (.ref 95), none, some (.int x2), some (.int x3), some (.int x4), none, some (.int x6), some (.int x7), some (.int x8), some (.int x9)] [.int x7, .int x8, .ref 101] (am_up I 100 q1 s2) J P)) : am_To (am_XX L xs) d 101 212 [some (.ref 95), none, some (.int x2), some (.int x3), some (.int x4), none, some (.int x6), some (.int x7), some (.int x8), some (.int x9)] [.int s2, .int s1, .ref 100] I J P := by
  obtain ⟨q1, j1, h⟩ := h
  by_cases c2 : x9 = 0
  · replace h := h.1 c2
    exact am_path 7 (fun n => (am_bs j1).trans ((if_pos c2).trans (rfl))) (am_lv (am_ln (am_lv (am_lv (am_lv (am_ln (am_lv (am_lv (am_lv (am_lv (am_l0))))))))))) h
  · replace h := h.2 c2
    exact am_path 8 (fun n => (am_bs j1).trans ((if_neg c2).trans (rfl))) (am_lv (am_ln (am_lv (am_lv (am_lv (am_ln (am_lv (am_lv (am_lv (am_lv (am_l0))))))))))) h
theorem bk_101_231 {L : Nat} {xs : Nat → Int32} {d : Nat} {P : Option Value → am_I → am_J → Prop} (x2 : Int32) (x3 : Int32) (x4 : Int32) (x6 : Int32) (x7 : Int32) (x8 : Int32) (x9 : Int32) (s1 : Int32) (s2 : Int32) (I : am_I) (J : am_J)  (h : am_Ix s1 1200 fun q1 => am_If (x9 = 0) (am_To (am_XX L xs) d 101 250 [some (.ref 95), none, some (.int x2), some (.int x3), some (.int x4), none, none, none, some (.int x8), none] [.int x7, .int x8, .ref 102] (am_up I 101 q1 s2) J P) (am_To (am_XX L xs) d 101 250 [some (.ref 95), none, some (.int x2), some (.int x3), some (.int x4), none, none, none, some (.int x8), none] [.int x6, .int x8, .ref 102] (am_up I 101 q1 s2) J P)) : am_To (am_XX L xs) d 101 231 [some (.ref 95), none, some (.int x2), some (.int x3), some (.int x4), none, some (.int x6), some (.int x7), some (.int x8), some (.int x9)] [.int s2, .int s1, .ref 101] I J P := by
  obtain ⟨q1, j1, h⟩ := h
  by_cases c2 : x9 = 0
  · replace h := h.1 c2
    exact am_path 7 (fun n => (am_bs j1).trans ((if_pos c2).trans (rfl))) (am_lv (am_ln (am_lv (am_lv (am_lv (am_ln (am_ln (am_ln (am_lv (am_ln (am_l0))))))))))) h
  · replace h := h.2 c2
    exact am_path 8 (fun n => (am_bs j1).trans ((if_neg c2).trans (rfl))) (am_lv (am_ln (am_lv (am_lv (am_lv (am_ln (am_ln (am_ln (am_lv (am_ln (am_l0))))))))))) h
theorem bk_101_250 {L : Nat} {xs : Nat → Int32} {d : Nat} {P : Option Value → am_I → am_J → Prop} (x2 : Int32) (x3 : Int32) (x4 : Int32) (x8 : Int32) (s1 : Int32) (s2 : Int32) (I : am_I) (J : am_J)  (h : am_Ix s1 1200 fun q1 => am_If ((2 : Int32) ≤ x4) (am_If (x4 = (2 : Int32)) (am_To (am_XX L xs) d 101 278 [some (.ref 95), none, some (.int x2), some (.int x3), some (.int x4), none, none, none, some (.int x8), none] [.int (3 : Int32), .int x8, .ref 103] (am_up I 102 q1 s2) J P) (am_To (am_XX L xs) d 101 278 [some (.ref 95), none, some (.int x2), some (.int x3), some (.int x4), none, none, none, some (.int x8), none] [.int (1 : Int32), .int x8, .ref 103] (am_up I 102 q1 s2) J P)) (am_To (am_XX L xs) d 101 278 [some (.ref 95), none, some (.int x2), some (.int x3), some (.int x4), none, none, none, some (.int x8), none] [.int (2 : Int32), .int x8, .ref 103] (am_up I 102 q1 s2) J P)) : am_To (am_XX L xs) d 101 250 [some (.ref 95), none, some (.int x2), some (.int x3), some (.int x4), none, none, none, some (.int x8), none] [.int s2, .int s1, .ref 102] I J P := by
  obtain ⟨q1, j1, h⟩ := h
  by_cases c2 : (2 : Int32) ≤ x4
  · replace h := h.1 c2
    by_cases c3 : x4 = (2 : Int32)
    · replace h := h.1 c3
      exact am_path 12 (fun n => (am_bs j1).trans ((if_pos c2).trans ((if_pos c3).trans (rfl)))) (am_lv (am_ln (am_lv (am_lv (am_lv (am_ln (am_ln (am_ln (am_lv (am_ln (am_l0))))))))))) h
    · replace h := h.2 c3
      exact am_path 11 (fun n => (am_bs j1).trans ((if_pos c2).trans ((if_neg c3).trans (rfl)))) (am_lv (am_ln (am_lv (am_lv (am_lv (am_ln (am_ln (am_ln (am_lv (am_ln (am_l0))))))))))) h
  · replace h := h.2 c2
    exact am_path 9 (fun n => (am_bs j1).trans ((if_neg c2).trans (rfl))) (am_lv (am_ln (am_lv (am_lv (am_lv (am_ln (am_ln (am_ln (am_lv (am_ln (am_l0))))))))))) h
theorem bk_101_278 {L : Nat} {xs : Nat → Int32} {d : Nat} {P : Option Value → am_I → am_J → Prop} (x2 : Int32) (x3 : Int32) (x4 : Int32) (x8 : Int32) (s1 : Int32) (s2 : Int32) (I : am_I) (J : am_J)  (h : am_Ix s1 1200 fun q1 => am_Ix x3 101 fun q2 => am_Ix x8 1200 fun q3 => am_Ix x2 12 fun q4 => am_Ix x2 12 fun q5 => am_To (am_XX L xs) d 101 80 [some (.ref 95), none, some (.int x2), some (.int x3), some (.int (x4 + (1 : Int32))), none, none, none, none, none] [] (am_up (am_up (am_up I 103 q1 s2) 104 q3 ((am_up I 103 q1 s2) 110 q2)) 99 q5 (((am_up (am_up I 103 q1 s2) 104 q3 ((am_up I 103 q1 s2) 110 q2)) 99 q4) + (1 : Int32))) J P) : am_To (am_XX L xs) d 101 278 [some (.ref 95), none, some (.int x2), some (.int x3), some (.int x4), none, none, none, some (.int x8), none] [.int s2, .int s1, .ref 103] I J P := by
  obtain ⟨q1, j1, h⟩ := h
  obtain ⟨q2, j2, h⟩ := h
  obtain ⟨q3, j3, h⟩ := h
  obtain ⟨q4, j4, h⟩ := h
  obtain ⟨q5, j5, h⟩ := h
  exact am_path 19 (fun n => (am_bs j1).trans ((am_bs j2).trans ((am_bs j3).trans ((am_bs j4).trans ((am_bs j5).trans (rfl)))))) (am_lv (am_ln (am_lv (am_lv (am_lv (am_ln (am_ln (am_ln (am_ln (am_ln (am_l0))))))))))) h
theorem bk_102_0 {L : Nat} {xs : Nat → Int32} {d : Nat} {P : Option Value → am_I → am_J → Prop} (x0 : Int32) (x1 : Int32) (x2 : Int32) (I : am_I) (J : am_J)  (h : am_If (x0 < x1) (P (some (.int (0 : Int32))) I J) (am_If (x2 < x0) (P (some (.int (0 : Int32))) I J) (P (some (.int (1 : Int32))) I J))) : am_To (am_XX L xs) d 102 0 [some (.int x0), some (.int x1), some (.int x2)] [] I J P := by
  by_cases c1 : x0 < x1
  · replace h := h.1 c1
    exact am_pret 5 (fun n => (if_pos c1).trans (rfl)) h
  · replace h := h.2 c1
    by_cases c2 : x2 < x0
    · replace h := h.1 c2
      exact am_pret 8 (fun n => (if_neg c1).trans ((if_pos c2).trans (rfl))) h
    · replace h := h.2 c2
      exact am_pret 9 (fun n => (if_neg c1).trans ((if_neg c2).trans (rfl))) h
theorem bk_103_0 {L : Nat} {xs : Nat → Int32} {d : Nat} {P : Option Value → am_I → am_J → Prop} (x1 : Int32) (I : am_I) (J : am_J)  (h : am_To (am_XX L xs) d 103 7 [some (.ref 95), some (.int x1), some (.int (0 : Int32))] [] (am_up I 95 20 (0 : Int32)) J P) : am_To (am_XX L xs) d 103 0 [some (.ref 95), some (.int x1), none] [] I J P := by
  exact am_path 5 (fun n => rfl) (am_lv (am_lv (am_lv (am_l0)))) h
theorem bk_103_7 {L : Nat} {xs : Nat → Int32} {d : Nat} {P : Option Value → am_I → am_J → Prop} (x1 : Int32) (x2 : Int32) (I : am_I) (J : am_J)  (h : am_If (x1 ≤ x2) (am_If ((I 95 20) ≤ 0) (P none I J) (am_Ix ((I 95 20) - (1 : Int32)) 101 fun q1 => P none (am_up I 112 q1 (vp_nar .boolean (0 : Int32))) J)) (am_To (am_XX L xs) d 104 0 [some (.ref 95), some (.int x2), some (.int x1)] [] I J (fun r I2 J2 => am_To (am_XX L xs) (d + 1) 103 18 [some (.ref 95), some (.int x1), some (.int x2)] (r.toList ++ []) I2 J2 P))) : am_To (am_XX L xs) (d + 1) 103 7 [some (.ref 95), some (.int x1), some (.int x2)] [] I J P := by
  by_cases c1 : x1 ≤ x2
  · replace h := h.1 c1
    by_cases c2 : (I 95 20) ≤ 0
    · replace h := h.1 c2
      exact am_pret 7 (fun n => (if_pos c1).trans ((if_pos c2).trans (rfl))) h
    · replace h := h.2 c2
      obtain ⟨q1, j3, h⟩ := h
      exact am_pret 15 (fun n => (if_pos c1).trans ((if_neg c2).trans ((am_bs j3).trans (rfl)))) h
  · replace h := h.2 c1
    exact am_pcall 7 (fun n => (if_neg c1).trans (rfl)) (am_lv (am_lv (am_lv (am_l0)))) h
theorem bk_103_18 {L : Nat} {xs : Nat → Int32} {d : Nat} {P : Option Value → am_I → am_J → Prop} (x1 : Int32) (x2 : Int32) (s0 : Int32) (I : am_I) (J : am_J)  (h : am_If (s0 = 0) (am_If ((I 95 20) ≤ 0) (am_To (am_XX L xs) d 103 7 [some (.ref 95), some (.int x1), some (.int (x2 + (1 : Int32)))] [] I J P) (am_Ix x2 200 fun q4 => am_If ((I 96 q4) = (32 : Int32)) (am_To (am_XX L xs) d 103 7 [some (.ref 95), some (.int x1), some (.int (x2 + (1 : Int32)))] [] I J P) (am_Ix x2 200 fun q5 => am_If ((I 96 q5) = (10 : Int32)) (am_To (am_XX L xs) d 103 7 [some (.ref 95), some (.int x1), some (.int (x2 + (1 : Int32)))] [] I J P) (am_Ix ((I 95 20) - (1 : Int32)) 101 fun q6 => am_To (am_XX L xs) d 103 7 [some (.ref 95), some (.int x1), some (.int (x2 + (1 : Int32)))] [] (am_up I 112 q6 (vp_nar .boolean (0 : Int32))) J P)))) (am_Ix (I 95 20) 101 fun q1 => am_Ix ((am_up I 110 q1 x2) 95 20) 101 fun q2 => am_Ix ((am_up (am_up I 110 q1 x2) 112 q2 (vp_nar .boolean (1 : Int32))) 95 20) 101 fun q3 => am_To (am_XX L xs) d 103 98 [some (.ref 95), some (.int x1), some (.int x2)] [] (am_up (am_up I 110 q1 x2) 112 q2 (vp_nar .boolean (1 : Int32))) (am_up J 111 q3 (0 : Int64)) P)) : am_To (am_XX L xs) d 103 18 [some (.ref 95), some (.int x1), some (.int x2)] [.int s0] I J P := by
  by_cases c1 : s0 = 0
  · replace h := h.1 c1
    by_cases c2 : (I 95 20) ≤ 0
    · replace h := h.1 c2
      exact am_path 6 (fun n => (if_pos c1).trans ((if_pos c2).trans (rfl))) (am_lv (am_lv (am_lv (am_l0)))) h
    · replace h := h.2 c2
      obtain ⟨q4, j3, h⟩ := h
      by_cases c4 : (I 96 q4) = (32 : Int32)
      · replace h := h.1 c4
        exact am_path 12 (fun n => (if_pos c1).trans ((if_neg c2).trans ((am_bs j3).trans ((if_pos c4).trans (rfl))))) (am_lv (am_lv (am_lv (am_l0)))) h
      · replace h := h.2 c4
        obtain ⟨q5, j5, h⟩ := h
        by_cases c6 : (I 96 q5) = (10 : Int32)
        · replace h := h.1 c6
          exact am_path 18 (fun n => (if_pos c1).trans ((if_neg c2).trans ((am_bs j3).trans ((if_neg c4).trans ((am_bs j5).trans ((if_pos c6).trans (rfl))))))) (am_lv (am_lv (am_lv (am_l0)))) h
        · replace h := h.2 c6
          obtain ⟨q6, j7, h⟩ := h
          exact am_path 26 (fun n => (if_pos c1).trans ((if_neg c2).trans ((am_bs j3).trans ((if_neg c4).trans ((am_bs j5).trans ((if_neg c6).trans ((am_bs j7).trans (rfl)))))))) (am_lv (am_lv (am_lv (am_l0)))) h
  · replace h := h.2 c1
    obtain ⟨q1, j8, h⟩ := h
    obtain ⟨q2, j9, h⟩ := h
    obtain ⟨q3, j10, h⟩ := h
    exact am_path 19 (fun n => (if_neg c1).trans ((am_bs j8).trans ((am_bs j9).trans ((am_bs j10).trans (rfl))))) (am_lv (am_lv (am_lv (am_l0)))) h
theorem bk_103_98 {L : Nat} {xs : Nat → Int32} {d : Nat} {P : Option Value → am_I → am_J → Prop} (x1 : Int32) (x2 : Int32) (I : am_I) (J : am_J)  (h : am_To (am_XX L xs) d 104 0 [some (.ref 95), some (.int x2), some (.int x1)] [] I J (fun r I2 J2 => am_To (am_XX L xs) (d + 1) 103 104 [some (.ref 95), some (.int x1), some (.int x2)] (r.toList ++ []) I2 J2 P)) : am_To (am_XX L xs) (d + 1) 103 98 [some (.ref 95), some (.int x1), some (.int x2)] [] I J P := by
  exact am_pcall 4 (fun n => rfl) (am_lv (am_lv (am_lv (am_l0)))) h
theorem bk_103_104 {L : Nat} {xs : Nat → Int32} {d : Nat} {P : Option Value → am_I → am_J → Prop} (x1 : Int32) (x2 : Int32) (s0 : Int32) (I : am_I) (J : am_J)  (h : am_If (s0 = 0) (am_Ix (I 95 20) 101 fun q1 => am_If ((x2 - (I 110 q1)) ≤ (8 : Int32)) (am_To (am_XX L xs) d 103 188 [some (.ref 95), some (.int x1), some (.int x2)] [] I J P) (am_Ix (I 95 20) 101 fun q2 => am_To (am_XX L xs) d 103 188 [some (.ref 95), some (.int x1), some (.int x2)] [] I (am_up J 111 q2 (0 : Int64)) P)) (am_Ix (I 95 20) 101 fun q3 => am_If ((8 : Int32) ≤ (x2 - (I 110 q3))) (am_Ix (I 95 20) 101 fun q4 => am_To (am_XX L xs) d 103 98 [some (.ref 95), some (.int x1), some (.int (x2 + (1 : Int32)))] [] I (am_up J 111 q4 (0 : Int64)) P) (am_Ix (I 95 20) 101 fun q5 => am_Ix x2 200 fun q6 => am_Ix (I 95 20) 101 fun q7 => am_To (am_XX L xs) d 103 98 [some (.ref 95), some (.int x1), some (.int (x2 + (1 : Int32)))] [] I (am_up J 111 q7 (((J 111 q5) <<< ((8 : Int32).toInt64 &&& 63)) ||| ((I 96 q6).toInt64))) P))) : am_To (am_XX L xs) d 103 104 [some (.ref 95), some (.int x1), some (.int x2)] [.int s0] I J P := by
  by_cases c1 : s0 = 0
  · replace h := h.1 c1
    obtain ⟨q1, j2, h⟩ := h
    by_cases c3 : (x2 - (I 110 q1)) ≤ (8 : Int32)
    · replace h := h.1 c3
      exact am_path 10 (fun n => (if_pos c1).trans ((am_bs j2).trans ((if_pos c3).trans (rfl)))) (am_lv (am_lv (am_lv (am_l0)))) h
    · replace h := h.2 c3
      obtain ⟨q2, j4, h⟩ := h
      exact am_path 16 (fun n => (if_pos c1).trans ((am_bs j2).trans ((if_neg c3).trans ((am_bs j4).trans (rfl))))) (am_lv (am_lv (am_lv (am_l0)))) h
  · replace h := h.2 c1
    obtain ⟨q3, j5, h⟩ := h
    by_cases c6 : (8 : Int32) ≤ (x2 - (I 110 q3))
    · replace h := h.1 c6
      obtain ⟨q4, j7, h⟩ := h
      exact am_path 18 (fun n => (if_neg c1).trans ((am_bs j5).trans ((if_pos c6).trans ((am_bs j7).trans (rfl))))) (am_lv (am_lv (am_lv (am_l0)))) h
    · replace h := h.2 c6
      obtain ⟨q5, j8, h⟩ := h
      obtain ⟨q6, j9, h⟩ := h
      obtain ⟨q7, j10, h⟩ := h
      exact am_path 31 (fun n => (if_neg c1).trans ((am_bs j5).trans ((if_neg c6).trans ((am_bs j8).trans ((am_bs j9).trans ((am_bs j10).trans (rfl))))))) (am_lv (am_lv (am_lv (am_l0)))) h
theorem bk_103_188 {L : Nat} {xs : Nat → Int32} {d : Nat} {P : Option Value → am_I → am_J → Prop} (x1 : Int32) (x2 : Int32) (I : am_I) (J : am_J)  (h : am_To (am_XX L xs) d 103 7 [some (.ref 95), some (.int x1), some (.int x2)] [] (am_up I 95 20 ((I 95 20) + (1 : Int32))) J P) : am_To (am_XX L xs) d 103 188 [some (.ref 95), some (.int x1), some (.int x2)] [] I J P := by
  exact am_path 7 (fun n => rfl) (am_lv (am_lv (am_lv (am_l0)))) h
