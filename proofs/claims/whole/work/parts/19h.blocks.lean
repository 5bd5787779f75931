set_option maxRecDepth 100000
set_option maxHeartbeats 4000000
theorem bk_114_0 {L : Nat} {xs : Nat → Int32} {d : Nat} {P : Option Value → am_I → am_J → Prop} (x1 : Int32) (I : am_I) (J : am_J)  (h : am_To (am_XX L xs) d 102 0 [some (.int x1), some (.int (0 : Int32)), some (.int ((I 95 2) - (1 : Int32)))] [] I J (fun r I2 J2 => am_To (am_XX L xs) (d + 1) 114 11 [none, none] (r.toList ++ []) I2 J2 P)) : am_To (am_XX L xs) (d + 1) 114 0 [some (.ref 95), some (.int x1)] [] I J P := by
  exact am_pcall 7 (fun n => rfl) (am_ln (am_ln (am_l0))) h
theorem bk_114_11 {L : Nat} {xs : Nat → Int32} {d : Nat} {P : Option Value → am_I → am_J → Prop} (s0 : Int32) (I : am_I) (J : am_J)  (h : (s0 = 0 ∨ s0 = 1) ∧ P (some (.int s0)) I J) : am_To (am_XX L xs) d 114 11 [none, none] [.int s0] I J P := by
  exact am_pret 1 (fun n => (if_pos h.1).trans (rfl)) h.2
theorem bk_115_0 {L : Nat} {xs : Nat → Int32} {d : Nat} {P : Option Value → am_I → am_J → Prop} (x1 : Int32) (x2 : Int32) (x3 : Int32) (x4 : Int32) (x5 : Int32) (I : am_I) (J : am_J)  (h : am_To (am_XX L xs) d 102 0 [some (.int x1), some (.int (0 : Int32)), some (.int (9 : Int32))] [] I J (fun r I2 J2 => am_To (am_XX L xs) (d + 1) 115 7 [some (.ref 95), some (.int x1), some (.int x2), some (.int x3), some (.int x4), some (.int x5)] (r.toList ++ []) I2 J2 P)) : am_To (am_XX L xs) (d + 1) 115 0 [some (.ref 95), some (.int x1), some (.int x2), some (.int x3), some (.int x4), some (.int x5)] [] I J P := by
  exact am_pcall 4 (fun n => rfl) (am_lv (am_lv (am_lv (am_lv (am_lv (am_lv (am_l0))))))) h
theorem bk_115_7 {L : Nat} {xs : Nat → Int32} {d : Nat} {P : Option Value → am_I → am_J → Prop} (x1 : Int32) (x2 : Int32) (x3 : Int32) (x4 : Int32) (x5 : Int32) (s0 : Int32) (I : am_I) (J : am_J)  (h : am_If (s0 = 0) (P (some (.int (-1 : Int32))) I J) (am_To (am_XX L xs) d 102 0 [some (.int x2), some (.int (0 : Int32)), some (.int (3 : Int32))] [] I J (fun r I2 J2 => am_To (am_XX L xs) (d + 1) 115 16 [some (.ref 95), some (.int x1), some (.int x2), some (.int x3), some (.int x4), some (.int x5)] (r.toList ++ []) I2 J2 P))) : am_To (am_XX L xs) (d + 1) 115 7 [some (.ref 95), some (.int x1), some (.int x2), some (.int x3), some (.int x4), some (.int x5)] [.int s0] I J P := by
  by_cases c1 : s0 = 0
  · replace h := h.1 c1
    exact am_pret 3 (fun n => (if_pos c1).trans (rfl)) h
  · replace h := h.2 c1
    exact am_pcall 5 (fun n => (if_neg c1).trans (rfl)) (am_lv (am_lv (am_lv (am_lv (am_lv (am_lv (am_l0))))))) h
theorem bk_115_16 {L : Nat} {xs : Nat → Int32} {d : Nat} {P : Option Value → am_I → am_J → Prop} (x1 : Int32) (x2 : Int32) (x3 : Int32) (x4 : Int32) (x5 : Int32) (s0 : Int32) (I : am_I) (J : am_J)  (h : am_If (s0 = 0) (P (some (.int (-1 : Int32))) I J) (am_To (am_XX L xs) d 116 0 [some (.ref 95), some (.int x3), some (.int x4)] [] I J (fun r I2 J2 => am_To (am_XX L xs) (d + 1) 115 26 [some (.ref 95), some (.int x1), some (.int x2), some (.int x3), some (.int x4), some (.int x5)] (r.toList ++ []) I2 J2 P))) : am_To (am_XX L xs) (d + 1) 115 16 [some (.ref 95), some (.int x1), some (.int x2), some (.int x3), some (.int x4), some (.int x5)] [.int s0] I J P := by
  by_cases c1 : s0 = 0
  · replace h := h.1 c1
    exact am_pret 3 (fun n => (if_pos c1).trans (rfl)) h
  · replace h := h.2 c1
    exact am_pcall 5 (fun n => (if_neg c1).trans (rfl)) (am_lv (am_lv (am_lv (am_lv (am_lv (am_lv (am_l0))))))) h
theorem bk_115_26 {L : Nat} {xs : Nat → Int32} {d : Nat} {P : Option Value → am_I → am_J → Prop} (x1 : Int32) (x2 : Int32) (x3 : Int32) (x4 : Int32) (x5 : Int32) (s0 : Int32) (I : am_I) (J : am_J)  (h : am_If (s0 = 0) (P (some (.int (-1 : Int32))) I J) (am_If (x3 = x4) (P (some (.int (-1 : Int32))) I J) (am_If ((3 : Int32) ≤ x2) (am_To (am_XX L xs) (d + 1) 115 51 [some (.ref 95), some (.int x1), some (.int x2), some (.int x3), some (.int x4), some (.int x5)] [] I J P) (am_To (am_XX L xs) d 102 0 [some (.int x5), some (.int (1 : Int32)), some (.int (9 : Int32))] [] I J (fun r I2 J2 => am_To (am_XX L xs) (d + 1) 115 48 [some (.ref 95), some (.int x1), some (.int x2), some (.int x3), some (.int x4), some (.int x5)] (r.toList ++ []) I2 J2 P))))) : am_To (am_XX L xs) (d + 1) 115 26 [some (.ref 95), some (.int x1), some (.int x2), some (.int x3), some (.int x4), some (.int x5)] [.int s0] I J P := by
  by_cases c1 : s0 = 0
  · replace h := h.1 c1
    exact am_pret 3 (fun n => (if_pos c1).trans (rfl)) h
  · replace h := h.2 c1
    by_cases c2 : x3 = x4
    · replace h := h.1 c2
      exact am_pret 6 (fun n => (if_neg c1).trans ((if_pos c2).trans (rfl))) h
    · replace h := h.2 c2
      by_cases c3 : (3 : Int32) ≤ x2
      · replace h := h.1 c3
        exact am_path 7 (fun n => (if_neg c1).trans ((if_neg c2).trans ((if_pos c3).trans (rfl)))) (am_lv (am_lv (am_lv (am_lv (am_lv (am_lv (am_l0))))))) h
      · replace h := h.2 c3
        exact am_pcall 11 (fun n => (if_neg c1).trans ((if_neg c2).trans ((if_neg c3).trans (rfl)))) (am_lv (am_lv (am_lv (am_lv (am_lv (am_lv (am_l0))))))) h
theorem bk_115_51 {L : Nat} {xs : Nat → Int32} {d : Nat} {P : Option Value → am_I → am_J → Prop} (x1 : Int32) (x2 : Int32) (x3 : Int32) (x4 : Int32) (x5 : Int32) (I : am_I) (J : am_J)  (h : am_If ((I 95 3) = (60 : Int32)) (P (some (.int (-1 : Int32))) I J) (am_Ix (I 95 3) 60 fun q1 => am_Ix ((am_up I 105 q1 x1) 95 3) 60 fun q2 => am_Ix ((am_up (am_up I 105 q1 x1) 106 q2 x2) 95 3) 60 fun q3 => am_Ix ((am_up (am_up (am_up I 105 q1 x1) 106 q2 x2) 107 q3 x3) 95 3) 60 fun q4 => am_Ix ((am_up (am_up (am_up (am_up I 105 q1 x1) 106 q2 x2) 107 q3 x3) 108 q4 x4) 95 3) 60 fun q5 => P (some (.int (((am_up (am_up (am_up (am_up (am_up (am_up I 105 q1 x1) 106 q2 x2) 107 q3 x3) 108 q4 x4) 109 q5 x5) 95 3 (((am_up (am_up (am_up (am_up (am_up I 105 q1 x1) 106 q2 x2) 107 q3 x3) 108 q4 x4) 109 q5 x5) 95 3) + (1 : Int32))) 95 3) - (1 : Int32)))) (am_up (am_up (am_up (am_up (am_up (am_up I 105 q1 x1) 106 q2 x2) 107 q3 x3) 108 q4 x4) 109 q5 x5) 95 3 (((am_up (am_up (am_up (am_up (am_up I 105 q1 x1) 106 q2 x2) 107 q3 x3) 108 q4 x4) 109 q5 x5) 95 3) + (1 : Int32))) J)) : am_To (am_XX L xs) d 115 51 [some (.ref 95), some (.int x1), some (.int x2), some (.int x3), some (.int x4), some (.int x5)] [] I J P := by
  by_cases c1 : (I 95 3) = (60 : Int32)
  · replace h := h.1 c1
    exact am_pret 6 (fun n => (if_pos c1).trans (rfl)) h
  · replace h := h.2 c1
    obtain ⟨q1, j2, h⟩ := h
    obtain ⟨q2, j3, h⟩ := h
    obtain ⟨q3, j4, h⟩ := h
    obtain ⟨q4, j5, h⟩ := h
    obtain ⟨q5, j6, h⟩ := h
    exact am_pret 45 (fun n => (if_neg c1).trans ((am_bs j2).trans ((am_bs j3).trans ((am_bs j4).trans ((am_bs j5).trans ((am_bs j6).trans (rfl))))))) h
theorem bk_115_48 {L : Nat} {xs : Nat → Int32} {d : Nat} {P : Option Value → am_I → am_J → Prop} (x1 : Int32) (x2 : Int32) (x3 : Int32) (x4 : Int32) (x5 : Int32) (s0 : Int32) (I : am_I) (J : am_J)  (h : am_If (s0 = 0) (P (some (.int (-1 : Int32))) I J) (am_To (am_XX L xs) d 115 51 [some (.ref 95), some (.int x1), some (.int x2), some (.int x3), some (.int x4), some (.int x5)] [] I J P)) : am_To (am_XX L xs) d 115 48 [some (.ref 95), some (.int x1), some (.int x2), some (.int x3), some (.int x4), some (.int x5)] [.int s0] I J P := by
  by_cases c1 : s0 = 0
  · replace h := h.1 c1
    exact am_pret 3 (fun n => (if_pos c1).trans (rfl)) h
  · replace h := h.2 c1
    exact am_path 1 (fun n => (if_neg c1).trans (rfl)) (am_lv (am_lv (am_lv (am_lv (am_lv (am_lv (am_l0))))))) h
theorem bk_116_0 {L : Nat} {xs : Nat → Int32} {d : Nat} {P : Option Value → am_I → am_J → Prop} (x1 : Int32) (x2 : Int32) (I : am_I) (J : am_J)  (h : am_To (am_XX L xs) d 114 0 [some (.ref 95), some (.int x1)] [] I J (fun r I2 J2 => am_To (am_XX L xs) (d + 1) 116 5 [some (.ref 95), none, some (.int x2)] (r.toList ++ []) I2 J2 P)) : am_To (am_XX L xs) (d + 1) 116 0 [some (.ref 95), some (.int x1), some (.int x2)] [] I J P := by
  exact am_pcall 3 (fun n => rfl) (am_lv (am_ln (am_lv (am_l0)))) h
theorem bk_116_5 {L : Nat} {xs : Nat → Int32} {d : Nat} {P : Option Value → am_I → am_J → Prop} (x2 : Int32) (s0 : Int32) (I : am_I) (J : am_J)  (h : am_If (s0 = 0) (P (some (.int (0 : Int32))) I J) (am_To (am_XX L xs) d 114 0 [some (.ref 95), some (.int x2)] [] I J (fun r I2 J2 => am_To (am_XX L xs) (d + 1) 116 13 [none, none, none] (r.toList ++ []) I2 J2 P))) : am_To (am_XX L xs) (d + 1) 116 5 [some (.ref 95), none, some (.int x2)] [.int s0] I J P := by
  by_cases c1 : s0 = 0
  · replace h := h.1 c1
    exact am_pret 3 (fun n => (if_pos c1).trans (rfl)) h
  · replace h := h.2 c1
    exact am_pcall 4 (fun n => (if_neg c1).trans (rfl)) (am_ln (am_ln (am_ln (am_l0)))) h
theorem bk_116_13 {L : Nat} {xs : Nat → Int32} {d : Nat} {P : Option Value → am_I → am_J → Prop} (s0 : Int32) (I : am_I) (J : am_J)  (h : am_If (s0 = 0) (P (some (.int (0 : Int32))) I J) (P (some (.int (1 : Int32))) I J)) : am_To (am_XX L xs) d 116 13 [none, none, none] [.int s0] I J P := by
  by_cases c1 : s0 = 0
  · replace h := h.1 c1
    exact am_pret 3 (fun n => (if_pos c1).trans (rfl)) h
  · replace h := h.2 c1
    exact am_pret 4 (fun n => (if_neg c1).trans (rfl)) h
theorem bk_117_0 {L : Nat} {xs : Nat → Int32} {d : Nat} {P : Option Value → am_I → am_J → Prop} (x1 : Int32) (x2 : Int32) (x3 : Int32) (I : am_I) (J : am_J)  (h : am_To (am_XX L xs) d 118 0 [some (.ref 95), some (.int x1), some (.int x2), some (.int x3)] [] I J (fun r I2 J2 => am_To (am_XX L xs) (d + 1) 117 7 [some (.ref 95), some (.int x1), some (.int x2), some (.int x3)] (r.toList ++ []) I2 J2 P)) : am_To (am_XX L xs) (d + 1) 117 0 [some (.ref 95), some (.int x1), some (.int x2), some (.int x3)] [] I J P := by
  exact am_pcall 5 (fun n => rfl) (am_lv (am_lv (am_lv (am_lv (am_l0))))) h
theorem bk_117_7 {L : Nat} {xs : Nat → Int32} {d : Nat} {P : Option Value → am_I → am_J → Prop} (x1 : Int32) (x2 : Int32) (x3 : Int32) (s0 : Int32) (I : am_I) (J : am_J)  (h : am_If (s0 = 0) (P (some (.int (-1 : Int32))) I J) (am_To (am_XX L xs) d 119 0 [some (.ref 95), some (.int x1), some (.int x2), some (.int x3), none, none, none] [] I J (fun r I2 J2 => am_To (am_XX L xs) (d + 1) 117 17 [none, none, none, none] (r.toList ++ []) I2 J2 P))) : am_To (am_XX L xs) (d + 1) 117 7 [some (.ref 95), some (.int x1), some (.int x2), some (.int x3)] [.int s0] I J P := by
  by_cases c1 : s0 = 0
  · replace h := h.1 c1
    exact am_pret 3 (fun n => (if_pos c1).trans (rfl)) h
  · replace h := h.2 c1
    exact am_pcall 6 (fun n => (if_neg c1).trans (rfl)) (am_ln (am_ln (am_ln (am_ln (am_l0))))) h
theorem bk_117_17 {L : Nat} {xs : Nat → Int32} {d : Nat} {P : Option Value → am_I → am_J → Prop} (s0 : Int32) (I : am_I) (J : am_J)  (h : P (some (.int s0)) I J) : am_To (am_XX L xs) d 117 17 [none, none, none, none] [.int s0] I J P := by
  exact am_pret 2 (fun n => rfl) h
theorem bk_118_0 {L : Nat} {xs : Nat → Int32} {d : Nat} {P : Option Value → am_I → am_J → Prop} (x1 : Int32) (x2 : Int32) (x3 : Int32) (I : am_I) (J : am_J)  (h : am_To (am_XX L xs) d 102 0 [some (.int x1), some (.int (0 : Int32)), some (.int (2 : Int32))] [] I J (fun r I2 J2 => am_To (am_XX L xs) (d + 1) 118 6 [some (.ref 95), none, some (.int x2), some (.int x3)] (r.toList ++ []) I2 J2 P)) : am_To (am_XX L xs) (d + 1) 118 0 [some (.ref 95), some (.int x1), some (.int x2), some (.int x3)] [] I J P := by
  exact am_pcall 4 (fun n => rfl) (am_lv (am_ln (am_lv (am_lv (am_l0))))) h
theorem bk_118_6 {L : Nat} {xs : Nat → Int32} {d : Nat} {P : Option Value → am_I → am_J → Prop} (x2 : Int32) (x3 : Int32) (s0 : Int32) (I : am_I) (J : am_J)  (h : am_If (s0 = 0) (P (some (.int (0 : Int32))) I J) (am_To (am_XX L xs) d 116 0 [some (.ref 95), some (.int x2), some (.int x3)] [] I J (fun r I2 J2 => am_To (am_XX L xs) (d + 1) 118 15 [none, none, some (.int x2), some (.int x3)] (r.toList ++ []) I2 J2 P))) : am_To (am_XX L xs) (d + 1) 118 6 [some (.ref 95), none, some (.int x2), some (.int x3)] [.int s0] I J P := by
  by_cases c1 : s0 = 0
  · replace h := h.1 c1
    exact am_pret 3 (fun n => (if_pos c1).trans (rfl)) h
  · replace h := h.2 c1
    exact am_pcall 5 (fun n => (if_neg c1).trans (rfl)) (am_ln (am_ln (am_lv (am_lv (am_l0))))) h
theorem bk_118_15 {L : Nat} {xs : Nat → Int32} {d : Nat} {P : Option Value → am_I → am_J → Prop} (x2 : Int32) (x3 : Int32) (s0 : Int32) (I : am_I) (J : am_J)  (h : am_If (s0 = 0) (P (some (.int (0 : Int32))) I J) (am_If (x2 = x3) (P (some (.int (0 : Int32))) I J) (P (some (.int (1 : Int32))) I J))) : am_To (am_XX L xs) d 118 15 [none, none, some (.int x2), some (.int x3)] [.int s0] I J P := by
  by_cases c1 : s0 = 0
  · replace h := h.1 c1
    exact am_pret 3 (fun n => (if_pos c1).trans (rfl)) h
  · replace h := h.2 c1
    by_cases c2 : x2 = x3
    · replace h := h.1 c2
      exact am_pret 6 (fun n => (if_neg c1).trans ((if_pos c2).trans (rfl))) h
    · replace h := h.2 c2
      exact am_pret 7 (fun n => (if_neg c1).trans ((if_neg c2).trans (rfl))) h
theorem bk_119_0 {L : Nat} {xs : Nat → Int32} {d : Nat} {P : Option Value → am_I → am_J → Prop} (x1 : Int32) (x2 : Int32) (x3 : Int32) (I : am_I) (J : am_J)  (h : am_To (am_XX L xs) d 119 6 [some (.ref 95), some (.int x1), some (.int x2), some (.int x3), some (.int (0 : Int32)), some (.int (0 : Int32)), none] [] I J P) : am_To (am_XX L xs) d 119 0 [some (.ref 95), some (.int x1), some (.int x2), some (.int x3), none, none, none] [] I J P := by
  exact am_path 4 (fun n => rfl) (am_lv (am_lv (am_lv (am_lv (am_lv (am_lv (am_ln (am_l0)))))))) h
theorem bk_119_6 {L : Nat} {xs : Nat → Int32} {d : Nat} {P : Option Value → am_I → am_J → Prop} (x1 : Int32) (x2 : Int32) (x3 : Int32) (x4 : Int32) (x5 : Int32) (I : am_I) (J : am_J)  (h : am_If ((12 : Int32) ≤ x5) (am_To (am_XX L xs) d 119 112 [some (.ref 95), some (.int x1), some (.int x2), some (.int x3), some (.int x4), some (.int (0 : Int32)), none] [] I J P) (am_Ix x5 12 fun q1 => am_If ((I 98 q1) = 0) (am_To (am_XX L xs) d 119 6 [some (.ref 95), some (.int x1), some (.int x2), some (.int x3), some (.int x4), some (.int (x5 + (1 : Int32))), none] [] I J P) (am_To (am_XX L xs) d 119 33 [some (.ref 95), some (.int x1), some (.int x2), some (.int x3), some (.int x4), some (.int x5), some (.int ((100 : Int32) * x5))] [] I J P))) : am_To (am_XX L xs) d 119 6 [some (.ref 95), some (.int x1), some (.int x2), some (.int x3), some (.int x4), some (.int x5), none] [] I J P := by
  by_cases c1 : (12 : Int32) ≤ x5
  · replace h := h.1 c1
    exact am_path 5 (fun n => (if_pos c1).trans (rfl)) (am_lv (am_lv (am_lv (am_lv (am_lv (am_lv (am_ln (am_l0)))))))) h
  · replace h := h.2 c1
    obtain ⟨q1, j2, h⟩ := h
    by_cases c3 : (I 98 q1) = 0
    · replace h := h.1 c3
      exact am_path 11 (fun n => (if_neg c1).trans ((am_bs j2).trans ((if_pos c3).trans (rfl)))) (am_lv (am_lv (am_lv (am_lv (am_lv (am_lv (am_ln (am_l0)))))))) h
    · replace h := h.2 c3
      exact am_path 12 (fun n => (if_neg c1).trans ((am_bs j2).trans ((if_neg c3).trans (rfl)))) (am_lv (am_lv (am_lv (am_lv (am_lv (am_lv (am_lv (am_l0)))))))) h
theorem bk_119_112 {L : Nat} {xs : Nat → Int32} {d : Nat} {P : Option Value → am_I → am_J → Prop} (x1 : Int32) (x2 : Int32) (x3 : Int32) (x4 : Int32) (x5 : Int32) (I : am_I) (J : am_J)  (h : am_If ((I 95 3) ≤ x5) (P (some (.int x4)) I J) (am_Ix x5 60 fun q1 => am_Ix x5 60 fun q2 => am_Ix x5 60 fun q3 => am_To (am_XX L xs) d 120 0 [some (.int x1), some (.int x2), some (.int x3), some (.int (I 106 q1)), some (.int (I 107 q2)), some (.int (I 108 q3))] [] I J (fun r I2 J2 => am_To (am_XX L xs) (d + 1) 119 150 [some (.ref 95), some (.int x1), some (.int x2), some (.int x3), none, some (.int x5), none] (r.toList ++ [.int x4]) I2 J2 P))) : am_To (am_XX L xs) (d + 1) 119 112 [some (.ref 95), some (.int x1), some (.int x2), some (.int x3), some (.int x4), some (.int x5), none] [] I J P := by
  by_cases c1 : (I 95 3) ≤ x5
  · replace h := h.1 c1
    exact am_pret 6 (fun n => (if_pos c1).trans (rfl)) h
  · replace h := h.2 c1
    obtain ⟨q1, j2, h⟩ := h
    obtain ⟨q2, j3, h⟩ := h
    obtain ⟨q3, j4, h⟩ := h
    exact am_pcall 21 (fun n => (if_neg c1).trans ((am_bs j2).trans ((am_bs j3).trans ((am_bs j4).trans (rfl))))) (am_lv (am_lv (am_lv (am_lv (am_ln (am_lv (am_ln (am_l0)))))))) h
theorem bk_119_33 {L : Nat} {xs : Nat → Int32} {d : Nat} {P : Option Value → am_I → am_J → Prop} (x1 : Int32) (x2 : Int32) (x3 : Int32) (x4 : Int32) (x5 : Int32) (x6 : Int32) (I : am_I) (J : am_J)  (h : am_Ix x5 12 fun q1 => am_If ((((100 : Int32) * x5) + (I 99 q1)) ≤ x6) (am_To (am_XX L xs) (d + 1) 119 6 [some (.ref 95), some (.int x1), some (.int x2), some (.int x3), some (.int x4), some (.int (x5 + (1 : Int32))), none] [] I J P) (am_Ix x6 1200 fun q2 => am_Ix x6 1200 fun q3 => am_Ix x6 1200 fun q4 => am_To (am_XX L xs) d 120 0 [some (.int x1), some (.int x2), some (.int x3), some (.int (I 100 q2)), some (.int (I 101 q3)), some (.int (I 102 q4))] [] I J (fun r I2 J2 => am_To (am_XX L xs) (d + 1) 119 80 [some (.ref 95), some (.int x1), some (.int x2), some (.int x3), none, some (.int x5), some (.int x6)] (r.toList ++ [.int x4]) I2 J2 P))) : am_To (am_XX L xs) (d + 1) 119 33 [some (.ref 95), some (.int x1), some (.int x2), some (.int x3), some (.int x4), some (.int x5), some (.int x6)] [] I J P := by
  obtain ⟨q1, j1, h⟩ := h
  by_cases c2 : (((100 : Int32) * x5) + (I 99 q1)) ≤ x6
  · replace h := h.1 c2
    exact am_path 12 (fun n => (am_bs j1).trans ((if_pos c2).trans (rfl))) (am_lv (am_lv (am_lv (am_lv (am_lv (am_lv (am_ln (am_l0)))))))) h
  · replace h := h.2 c2
    obtain ⟨q2, j3, h⟩ := h
    obtain ⟨q3, j4, h⟩ := h
    obtain ⟨q4, j5, h⟩ := h
    exact am_pcall 27 (fun n => (am_bs j1).trans ((if_neg c2).trans ((am_bs j3).trans ((am_bs j4).trans ((am_bs j5).trans (rfl)))))) (am_lv (am_lv (am_lv (am_lv (am_ln (am_lv (am_lv (am_l0)))))))) h
theorem bk_119_150 {L : Nat} {xs : Nat → Int32} {d : Nat} {P : Option Value → am_I → am_J → Prop} (x1 : Int32) (x2 : Int32) (x3 : Int32) (x5 : Int32) (s0 : Int32) (s1 : Int32) (I : am_I) (J : am_J)  (h : am_If (s1 = 0) (am_To (am_XX L xs) d 119 164 [some (.ref 95), some (.int x1), some (.int x2), some (.int x3), none, some (.int x5), none] [.int (0 : Int32), .int s0] I J P) (am_Ix x5 60 fun q1 => am_To (am_XX L xs) d 119 164 [some (.ref 95), some (.int x1), some (.int x2), some (.int x3), none, some (.int x5), none] [.int (I 109 q1), .int s0] I J P)) : am_To (am_XX L xs) d 119 150 [some (.ref 95), some (.int x1), some (.int x2), some (.int x3), none, some (.int x5), none] [.int s1, .int s0] I J P := by
  by_cases c1 : s1 = 0
  · replace h := h.1 c1
    exact am_path 2 (fun n => (if_pos c1).trans (rfl)) (am_lv (am_lv (am_lv (am_lv (am_ln (am_lv (am_ln (am_l0)))))))) h
  · replace h := h.2 c1
    obtain ⟨q1, j2, h⟩ := h
    exact am_path 6 (fun n => (if_neg c1).trans ((am_bs j2).trans (rfl))) (am_lv (am_lv (am_lv (am_lv (am_ln (am_lv (am_ln (am_l0)))))))) h
theorem bk_119_80 {L : Nat} {xs : Nat → Int32} {d : Nat} {P : Option Value → am_I → am_J → Prop} (x1 : Int32) (x2 : Int32) (x3 : Int32) (x5 : Int32) (x6 : Int32) (s0 : Int32) (s1 : Int32) (I : am_I) (J : am_J)  (h : am_If (s1 = 0) (am_To (am_XX L xs) d 119 94 [some (.ref 95), some (.int x1), some (.int x2), some (.int x3), none, some (.int x5), some (.int x6)] [.int (0 : Int32), .int s0] I J P) (am_Ix x6 1200 fun q1 => am_To (am_XX L xs) d 119 94 [some (.ref 95), some (.int x1), some (.int x2), some (.int x3), none, some (.int x5), some (.int x6)] [.int (I 103 q1), .int s0] I J P)) : am_To (am_XX L xs) d 119 80 [some (.ref 95), some (.int x1), some (.int x2), some (.int x3), none, some (.int x5), some (.int x6)] [.int s1, .int s0] I J P := by
  by_cases c1 : s1 = 0
  · replace h := h.1 c1
    exact am_path 2 (fun n => (if_pos c1).trans (rfl)) (am_lv (am_lv (am_lv (am_lv (am_ln (am_lv (am_lv (am_l0)))))))) h
  · replace h := h.2 c1
    obtain ⟨q1, j2, h⟩ := h
    exact am_path 6 (fun n => (if_neg c1).trans ((am_bs j2).trans (rfl))) (am_lv (am_lv (am_lv (am_lv (am_ln (am_lv (am_lv (am_l0)))))))) h
theorem bk_119_164 {L : Nat} {xs : Nat → Int32} {d : Nat} {P : Option Value → am_I → am_J → Prop} (x1 : Int32) (x2 : Int32) (x3 : Int32) (x5 : Int32) (s0 : Int32) (s1 : Int32) (I : am_I) (J : am_J)  (h : am_To (am_XX L xs) d 119 112 [some (.ref 95), some (.int x1), some (.int x2), some (.int x3), some (.int (s0 + s1)), some (.int (x5 + (1 : Int32))), none] [] I J P) : am_To (am_XX L xs) d 119 164 [some (.ref 95), some (.int x1), some (.int x2), some (.int x3), none, some (.int x5), none] [.int s1, .int s0] I J P := by
  exact am_path 4 (fun n => rfl) (am_lv (am_lv (am_lv (am_lv (am_lv (am_lv (am_ln (am_l0)))))))) h
theorem bk_119_94 {L : Nat} {xs : Nat → Int32} {d : Nat} {P : Option Value → am_I → am_J → Prop} (x1 : Int32) (x2 : Int32) (x3 : Int32) (x5 : Int32) (x6 : Int32) (s0 : Int32) (s1 : Int32) (I : am_I) (J : am_J)  (h : am_To (am_XX L xs) d 119 33 [some (.ref 95), some (.int x1), some (.int x2), some (.int x3), some (.int (s0 + s1)), some (.int x5), some (.int (x6 + (1 : Int32)))] [] I J P) : am_To (am_XX L xs) d 119 94 [some (.ref 95), some (.int x1), some (.int x2), some (.int x3), none, some (.int x5), some (.int x6)] [.int s1, .int s0] I J P := by
  exact am_path 4 (fun n => rfl) (am_lv (am_lv (am_lv (am_lv (am_lv (am_lv (am_lv (am_l0)))))))) h
theorem bk_120_0 {L : Nat} {xs : Nat → Int32} {d : Nat} {P : Option Value → am_I → am_J → Prop} (x0 : Int32) (x1 : Int32) (x2 : Int32) (x3 : Int32) (x4 : Int32) (x5 : Int32) (I : am_I) (J : am_J)  (h : am_If (x0 = x3) (am_If (x1 = x4) (am_If (x2 = x5) (P (some (.int (1 : Int32))) I J) (am_To (am_XX L xs) d 120 17 [some (.int x0), some (.int x1), some (.int x2), none, some (.int x4), some (.int x5)] [] I J P)) (am_To (am_XX L xs) d 120 17 [some (.int x0), some (.int x1), some (.int x2), none, some (.int x4), some (.int x5)] [] I J P)) (P (some (.int (0 : Int32))) I J)) : am_To (am_XX L xs) d 120 0 [some (.int x0), some (.int x1), some (.int x2), some (.int x3), some (.int x4), some (.int x5)] [] I J P := by
  by_cases c1 : x0 = x3
  · replace h := h.1 c1
    by_cases c2 : x1 = x4
    · replace h := h.1 c2
      by_cases c3 : x2 = x5
      · replace h := h.1 c3
        exact am_pret 12 (fun n => (if_pos c1).trans ((if_pos c2).trans ((if_pos c3).trans (rfl)))) h
      · replace h := h.2 c3
        exact am_path 9 (fun n => (if_pos c1).trans ((if_pos c2).trans ((if_neg c3).trans (rfl)))) (am_lv (am_lv (am_lv (am_ln (am_lv (am_lv (am_l0))))))) h
    · replace h := h.2 c2
      exact am_path 6 (fun n => (if_pos c1).trans ((if_neg c2).trans (rfl))) (am_lv (am_lv (am_lv (am_ln (am_lv (am_lv (am_l0))))))) h
  · replace h := h.2 c1
    exact am_pret 5 (fun n => (if_neg c1).trans (rfl)) h
theorem bk_120_17 {L : Nat} {xs : Nat → Int32} {d : Nat} {P : Option Value → am_I → am_J → Prop} (x0 : Int32) (x1 : Int32) (x2 : Int32) (x4 : Int32) (x5 : Int32) (I : am_I) (J : am_J)  (h : am_If (x0 = (2 : Int32)) (am_If (x1 = x5) (am_If (x2 = x4) (P (some (.int (1 : Int32))) I J) (P (some (.int (0 : Int32))) I J)) (P (some (.int (0 : Int32))) I J)) (P (some (.int (0 : Int32))) I J)) : am_To (am_XX L xs) d 120 17 [some (.int x0), some (.int x1), some (.int x2), none, some (.int x4), some (.int x5)] [] I J P := by
  by_cases c1 : x0 = (2 : Int32)
  · replace h := h.1 c1
    by_cases c2 : x1 = x5
    · replace h := h.1 c2
      by_cases c3 : x2 = x4
      · replace h := h.1 c3
        exact am_pret 12 (fun n => (if_pos c1).trans ((if_pos c2).trans ((if_pos c3).trans (rfl)))) h
      · replace h := h.2 c3
        exact am_pret 11 (fun n => (if_pos c1).trans ((if_pos c2).trans ((if_neg c3).trans (rfl)))) h
    · replace h := h.2 c2
      exact am_pret 8 (fun n => (if_pos c1).trans ((if_neg c2).trans (rfl))) h
  · replace h := h.2 c1
    exact am_pret 5 (fun n => (if_neg c1).trans (rfl)) h
theorem bk_121_0 {L : Nat} {xs : Nat → Int32} {d : Nat} {P : Option Value → am_I → am_J → Prop} (x1 : Int32) (x2 : Int32) (x3 : Int32) (x4 : Int32) (x5 : Int32) (I : am_I) (J : am_J)  (h : am_To (am_XX L xs) d 118 0 [some (.ref 95), some (.int x1), some (.int x2), some (.int x3)] [] I J (fun r I2 J2 => am_To (am_XX L xs) (d + 1) 121 7 [some (.ref 95), some (.int x1), some (.int x2), some (.int x3), some (.int x4), some (.int x5), none, none, none, none] (r.toList ++ []) I2 J2 P)) : am_To (am_XX L xs) (d + 1) 121 0 [some (.ref 95), some (.int x1), some (.int x2), some (.int x3), some (.int x4), some (.int x5), none, none, none, none] [] I J P := by
  exact am_pcall 5 (fun n => rfl) (am_lv (am_lv (am_lv (am_lv (am_lv (am_lv (am_ln (am_ln (am_ln (am_ln (am_l0))))))))))) h
theorem bk_121_7 {L : Nat} {xs : Nat → Int32} {d : Nat} {P : Option Value → am_I → am_J → Prop} (x1 : Int32) (x2 : Int32) (x3 : Int32) (x4 : Int32) (x5 : Int32) (s0 : Int32) (I : am_I) (J : am_J)  (h : am_If (s0 = 0) (P (some (.int (-1 : Int32))) I J) (am_If (x4 < 0) (P (some (.int (-1 : Int32))) I J) (am_To (am_XX L xs) d 102 0 [some (.int x5), some (.int (0 : Int32)), some (.int (3 : Int32))] [] I J (fun r I2 J2 => am_To (am_XX L xs) (d + 1) 121 22 [some (.ref 95), some (.int x1), some (.int x2), some (.int x3), some (.int x4), some (.int x5), none, none, none, none] (r.toList ++ []) I2 J2 P)))) : am_To (am_XX L xs) (d + 1) 121 7 [some (.ref 95), some (.int x1), some (.int x2), some (.int x3), some (.int x4), some (.int x5), none, none, none, none] [.int s0] I J P := by
  by_cases c1 : s0 = 0
  · replace h := h.1 c1
    exact am_pret 3 (fun n => (if_pos c1).trans (rfl)) h
  · replace h := h.2 c1
    by_cases c2 : x4 < 0
    · replace h := h.1 c2
      exact am_pret 5 (fun n => (if_neg c1).trans ((if_pos c2).trans (rfl))) h
    · replace h := h.2 c2
      exact am_pcall 7 (fun n => (if_neg c1).trans ((if_neg c2).trans (rfl))) (am_lv (am_lv (am_lv (am_lv (am_lv (am_lv (am_ln (am_ln (am_ln (am_ln (am_l0))))))))))) h
theorem bk_121_22 {L : Nat} {xs : Nat → Int32} {d : Nat} {P : Option Value → am_I → am_J → Prop} (x1 : Int32) (x2 : Int32) (x3 : Int32) (x4 : Int32) (x5 : Int32) (s0 : Int32) (I : am_I) (J : am_J)  (h : am_If (s0 = 0) (P (some (.int (-1 : Int32))) I J) (am_To (am_XX L xs) d 121 34 [some (.ref 95), some (.int x1), some (.int x2), some (.int x3), none, some (.int x5), some (.int x4), some (.int (0 : Int32)), none, none] [] I J P)) : am_To (am_XX L xs) d 121 22 [some (.ref 95), some (.int x1), some (.int x2), some (.int x3), some (.int x4), some (.int x5), none, none, none, none] [.int s0] I J P := by
  by_cases c1 : s0 = 0
  · replace h := h.1 c1
    exact am_pret 3 (fun n => (if_pos c1).trans (rfl)) h
  · replace h := h.2 c1
    exact am_path 5 (fun n => (if_neg c1).trans (rfl)) (am_lv (am_lv (am_lv (am_lv (am_ln (am_lv (am_lv (am_lv (am_ln (am_ln (am_l0))))))))))) h
theorem bk_121_34 {L : Nat} {xs : Nat → Int32} {d : Nat} {P : Option Value → am_I → am_J → Prop} (x1 : Int32) (x2 : Int32) (x3 : Int32) (x5 : Int32) (x6 : Int32) (x7 : Int32) (I : am_I) (J : am_J)  (h : am_If ((12 : Int32) ≤ x7) (am_To (am_XX L xs) d 121 188 [some (.ref 95), some (.int x1), some (.int x2), some (.int x3), none, some (.int x5), some (.int x6), some (.int (0 : Int32)), none, none] [] I J P) (am_To (am_XX L xs) d 121 51 [some (.ref 95), some (.int x1), some (.int x2), some (.int x3), none, some (.int x5), some (.int x6), some (.int x7), some (.int (0 : Int32)), some (.int ((100 : Int32) * x7))] [] I J P)) : am_To (am_XX L xs) d 121 34 [some (.ref 95), some (.int x1), some (.int x2), some (.int x3), none, some (.int x5), some (.int x6), some (.int x7), none, none] [] I J P := by
  by_cases c1 : (12 : Int32) ≤ x7
  · replace h := h.1 c1
    exact am_path 5 (fun n => (if_pos c1).trans (rfl)) (am_lv (am_lv (am_lv (am_lv (am_ln (am_lv (am_lv (am_lv (am_ln (am_ln (am_l0))))))))))) h
  · replace h := h.2 c1
    exact am_path 9 (fun n => (if_neg c1).trans (rfl)) (am_lv (am_lv (am_lv (am_lv (am_ln (am_lv (am_lv (am_lv (am_lv (am_lv (am_l0))))))))))) h
theorem bk_121_188 {L : Nat} {xs : Nat → Int32} {d : Nat} {P : Option Value → am_I → am_J → Prop} (x1 : Int32) (x2 : Int32) (x3 : Int32) (x5 : Int32) (x6 : Int32) (x7 : Int32) (I : am_I) (J : am_J)  (h : am_If ((I 95 3) ≤ x7) (P (some (.int (-1 : Int32))) I J) (am_Ix x7 60 fun q1 => am_Ix x7 60 fun q2 => am_Ix x7 60 fun q3 => am_To (am_XX L xs) d 120 0 [some (.int x1), some (.int x2), some (.int x3), some (.int (I 106 q1)), some (.int (I 107 q2)), some (.int (I 108 q3))] [] I J (fun r I2 J2 => am_To (am_XX L xs) (d + 1) 121 224 [some (.ref 95), some (.int x1), some (.int x2), some (.int x3), none, some (.int x5), some (.int x6), some (.int x7), none, none] (r.toList ++ []) I2 J2 P))) : am_To (am_XX L xs) (d + 1) 121 188 [some (.ref 95), some (.int x1), some (.int x2), some (.int x3), none, some (.int x5), some (.int x6), some (.int x7), none, none] [] I J P := by
  by_cases c1 : (I 95 3) ≤ x7
  · replace h := h.1 c1
    exact am_pret 6 (fun n => (if_pos c1).trans (rfl)) h
  · replace h := h.2 c1
    obtain ⟨q1, j2, h⟩ := h
    obtain ⟨q2, j3, h⟩ := h
    obtain ⟨q3, j4, h⟩ := h
    exact am_pcall 20 (fun n => (if_neg c1).trans ((am_bs j2).trans ((am_bs j3).trans ((am_bs j4).trans (rfl))))) (am_lv (am_lv (am_lv (am_lv (am_ln (am_lv (am_lv (am_lv (am_ln (am_ln (am_l0))))))))))) h
theorem bk_121_51 {L : Nat} {xs : Nat → Int32} {d : Nat} {P : Option Value → am_I → am_J → Prop} (x1 : Int32) (x2 : Int32) (x3 : Int32) (x5 : Int32) (x6 : Int32) (x7 : Int32) (x8 : Int32) (x9 : Int32) (I : am_I) (J : am_J)  (h : am_Ix x7 12 fun q1 => am_If ((((100 : Int32) * x7) + (I 99 q1)) ≤ x9) (am_To (am_XX L xs) (d + 1) 121 34 [some (.ref 95), some (.int x1), some (.int x2), some (.int x3), none, some (.int x5), some (.int x6), some (.int (x7 + (1 : Int32))), none, none] [] I J P) (am_Ix x7 12 fun q2 => am_If ((I 98 q2) = 0) (am_To (am_XX L xs) (d + 1) 121 34 [some (.ref 95), some (.int x1), some (.int x2), some (.int x3), none, some (.int x5), some (.int x6), some (.int (x7 + (1 : Int32))), none, none] [] I J P) (am_Ix x9 1200 fun q3 => am_Ix x9 1200 fun q4 => am_Ix x9 1200 fun q5 => am_To (am_XX L xs) d 120 0 [some (.int x1), some (.int x2), some (.int x3), some (.int (I 100 q3)), some (.int (I 101 q4)), some (.int (I 102 q5))] [] I J (fun r I2 J2 => am_To (am_XX L xs) (d + 1) 121 106 [some (.ref 95), some (.int x1), some (.int x2), some (.int x3), none, some (.int x5), some (.int x6), some (.int x7), some (.int x8), some (.int x9)] (r.toList ++ []) I2 J2 P)))) : am_To (am_XX L xs) (d + 1) 121 51 [some (.ref 95), some (.int x1), some (.int x2), some (.int x3), none, some (.int x5), some (.int x6), some (.int x7), some (.int x8), some (.int x9)] [] I J P := by
  obtain ⟨q1, j1, h⟩ := h
  by_cases c2 : (((100 : Int32) * x7) + (I 99 q1)) ≤ x9
  · replace h := h.1 c2
    exact am_path 12 (fun n => (am_bs j1).trans ((if_pos c2).trans (rfl))) (am_lv (am_lv (am_lv (am_lv (am_ln (am_lv (am_lv (am_lv (am_ln (am_ln (am_l0))))))))))) h
  · replace h := h.2 c2
    obtain ⟨q2, j3, h⟩ := h
    by_cases c4 : (I 98 q2) = 0
    · replace h := h.1 c4
      exact am_path 17 (fun n => (am_bs j1).trans ((if_neg c2).trans ((am_bs j3).trans ((if_pos c4).trans (rfl))))) (am_lv (am_lv (am_lv (am_lv (am_ln (am_lv (am_lv (am_lv (am_ln (am_ln (am_l0))))))))))) h
    · replace h := h.2 c4
      obtain ⟨q3, j5, h⟩ := h
      obtain ⟨q4, j6, h⟩ := h
      obtain ⟨q5, j7, h⟩ := h
      exact am_pcall 31 (fun n => (am_bs j1).trans ((if_neg c2).trans ((am_bs j3).trans ((if_neg c4).trans ((am_bs j5).trans ((am_bs j6).trans ((am_bs j7).trans (rfl)))))))) (am_lv (am_lv (am_lv (am_lv (am_ln (am_lv (am_lv (am_lv (am_lv (am_lv (am_l0))))))))))) h
theorem bk_121_224 {L : Nat} {xs : Nat → Int32} {d : Nat} {P : Option Value → am_I → am_J → Prop} (x1 : Int32) (x2 : Int32) (x3 : Int32) (x5 : Int32) (x6 : Int32) (x7 : Int32) (s0 : Int32) (I : am_I) (J : am_J)  (h : am_If (s0 = 0) (am_To (am_XX L xs) d 121 188 [some (.ref 95), some (.int x1), some (.int x2), some (.int x3), none, some (.int x5), some (.int x6), some (.int (x7 + (1 : Int32))), none, none] [] I J P) (am_If (x6 = 0) (am_If ((2 : Int32) ≤ x5) (am_If (x5 = (2 : Int32)) (am_Ix x7 60 fun q2 => P (some (.int (I 105 q2))) I J) (am_Ix x7 60 fun q1 => P (some (.int (I 109 q1))) I J)) (P (some (.int (-1 : Int32))) I J)) (am_To (am_XX L xs) d 121 188 [some (.ref 95), some (.int x1), some (.int x2), some (.int x3), none, some (.int x5), some (.int (x6 + (-1 : Int32))), some (.int (x7 + (1 : Int32))), none, none] [] I J P))) : am_To (am_XX L xs) d 121 224 [some (.ref 95), some (.int x1), some (.int x2), some (.int x3), none, some (.int x5), some (.int x6), some (.int x7), none, none] [.int s0] I J P := by
  by_cases c1 : s0 = 0
  · replace h := h.1 c1
    exact am_path 4 (fun n => (if_pos c1).trans (rfl)) (am_lv (am_lv (am_lv (am_lv (am_ln (am_lv (am_lv (am_lv (am_ln (am_ln (am_l0))))))))))) h
  · replace h := h.2 c1
    by_cases c2 : x6 = 0
    · replace h := h.1 c2
      by_cases c3 : (2 : Int32) ≤ x5
      · replace h := h.1 c3
        by_cases c4 : x5 = (2 : Int32)
        · replace h := h.1 c4
          obtain ⟨q2, j5, h⟩ := h
          exact am_pret 15 (fun n => (if_neg c1).trans ((if_pos c2).trans ((if_pos c3).trans ((if_pos c4).trans ((am_bs j5).trans (rfl)))))) h
        · replace h := h.2 c4
          obtain ⟨q1, j6, h⟩ := h
          exact am_pret 14 (fun n => (if_neg c1).trans ((if_pos c2).trans ((if_pos c3).trans ((if_neg c4).trans ((am_bs j6).trans (rfl)))))) h
      · replace h := h.2 c3
        exact am_pret 9 (fun n => (if_neg c1).trans ((if_pos c2).trans ((if_neg c3).trans (rfl)))) h
    · replace h := h.2 c2
      exact am_path 6 (fun n => (if_neg c1).trans ((if_neg c2).trans (rfl))) (am_lv (am_lv (am_lv (am_lv (am_ln (am_lv (am_lv (am_lv (am_ln (am_ln (am_l0))))))))))) h
theorem bk_121_106 {L : Nat} {xs : Nat → Int32} {d : Nat} {P : Option Value → am_I → am_J → Prop} (x1 : Int32) (x2 : Int32) (x3 : Int32) (x5 : Int32) (x6 : Int32) (x7 : Int32) (x8 : Int32) (x9 : Int32) (s0 : Int32) (I : am_I) (J : am_J)  (h : am_If (s0 = 0) (am_To (am_XX L xs) d 121 51 [some (.ref 95), some (.int x1), some (.int x2), some (.int x3), none, some (.int x5), some (.int x6), some (.int x7), some (.int x8), some (.int (x9 + (1 : Int32)))] [] I J P) (am_If (x6 = 0) (am_If (x5 = 0) (P (some (.int (((100 : Int32) * x7) + x8))) I J) (am_If (x5 = (1 : Int32)) (am_Ix x9 1200 fun q2 => P (some (.int (I 104 q2))) I J) (am_If (x5 = (2 : Int32)) (P (some (.int (-1 : Int32))) I J) (am_Ix x9 1200 fun q1 => P (some (.int (I 103 q1))) I J)))) (am_To (am_XX L xs) d 121 51 [some (.ref 95), some (.int x1), some (.int x2), some (.int x3), none, some (.int x5), some (.int (x6 + (-1 : Int32))), some (.int x7), some (.int (x8 + (1 : Int32))), some (.int (x9 + (1 : Int32)))] [] I J P))) : am_To (am_XX L xs) d 121 106 [some (.ref 95), some (.int x1), some (.int x2), some (.int x3), none, some (.int x5), some (.int x6), some (.int x7), some (.int x8), some (.int x9)] [.int s0] I J P := by
  by_cases c1 : s0 = 0
  · replace h := h.1 c1
    exact am_path 4 (fun n => (if_pos c1).trans (rfl)) (am_lv (am_lv (am_lv (am_lv (am_ln (am_lv (am_lv (am_lv (am_lv (am_lv (am_l0))))))))))) h
  · replace h := h.2 c1
    by_cases c2 : x6 = 0
    · replace h := h.1 c2
      by_cases c3 : x5 = 0
      · replace h := h.1 c3
        exact am_pret 12 (fun n => (if_neg c1).trans ((if_pos c2).trans ((if_pos c3).trans (rfl)))) h
      · replace h := h.2 c3
        by_cases c4 : x5 = (1 : Int32)
        · replace h := h.1 c4
          obtain ⟨q2, j5, h⟩ := h
          exact am_pret 14 (fun n => (if_neg c1).trans ((if_pos c2).trans ((if_neg c3).trans ((if_pos c4).trans ((am_bs j5).trans (rfl)))))) h
        · replace h := h.2 c4
          by_cases c6 : x5 = (2 : Int32)
          · replace h := h.1 c6
            exact am_pret 14 (fun n => (if_neg c1).trans ((if_pos c2).trans ((if_neg c3).trans ((if_neg c4).trans ((if_pos c6).trans (rfl)))))) h
          · replace h := h.2 c6
            obtain ⟨q1, j7, h⟩ := h
            exact am_pret 16 (fun n => (if_neg c1).trans ((if_pos c2).trans ((if_neg c3).trans ((if_neg c4).trans ((if_neg c6).trans ((am_bs j7).trans (rfl))))))) h
    · replace h := h.2 c2
      exact am_path 7 (fun n => (if_neg c1).trans ((if_neg c2).trans (rfl))) (am_lv (am_lv (am_lv (am_lv (am_ln (am_lv (am_lv (am_lv (am_lv (am_lv (am_l0))))))))))) h
theorem bk_122_0 {L : Nat} {xs : Nat → Int32} {d : Nat} {P : Option Value → am_I → am_J → Prop} (x1 : Int32) (I : am_I) (J : am_J)  (h : am_To (am_XX L xs) d 114 0 [some (.ref 95), some (.int x1)] [] I J (fun r I2 J2 => am_To (am_XX L xs) (d + 1) 122 5 [some (.ref 95), some (.int x1)] (r.toList ++ []) I2 J2 P)) : am_To (am_XX L xs) (d + 1) 122 0 [some (.ref 95), some (.int x1)] [] I J P := by
  exact am_pcall 3 (fun n => rfl) (am_lv (am_lv (am_l0))) h
theorem bk_122_5 {L : Nat} {xs : Nat → Int32} {d : Nat} {P : Option Value → am_I → am_J → Prop} (x1 : Int32) (s0 : Int32) (I : am_I) (J : am_J)  (h : am_If (s0 = 0) (P (some (.int (-1 : Int32))) I J) (am_To (am_XX L xs) d 123 0 [some (.ref 95), none, none, none] [] I J (fun r I2 J2 => am_To (am_XX L xs) (d + 1) 122 14 [some (.ref 95), some (.int x1)] (r.toList ++ []) I2 J2 P))) : am_To (am_XX L xs) (d + 1) 122 5 [some (.ref 95), some (.int x1)] [.int s0] I J P := by
  by_cases c1 : s0 = 0
  · replace h := h.1 c1
    exact am_pret 3 (fun n => (if_pos c1).trans (rfl)) h
  · replace h := h.2 c1
    exact am_pcall 3 (fun n => (if_neg c1).trans (rfl)) (am_lv (am_lv (am_l0))) h
theorem bk_122_14 {L : Nat} {xs : Nat → Int32} {d : Nat} {P : Option Value → am_I → am_J → Prop} (x1 : Int32) (I : am_I) (J : am_J)  (h : am_Ix x1 24 fun q1 => P (some (.int (I 115 q1))) I J) : am_To (am_XX L xs) d 122 14 [some (.ref 95), some (.int x1)] [] I J P := by
  obtain ⟨q1, j1, h⟩ := h
  exact am_pret 5 (fun n => (am_bs j1).trans (rfl)) h
theorem bk_123_0 {L : Nat} {xs : Nat → Int32} {d : Nat} {P : Option Value → am_I → am_J → Prop}  (I : am_I) (J : am_J)  (h : am_To (am_XX L xs) d 124 0 [some (.ref 95), none, none] [] I J (fun r I2 J2 => am_To (am_XX L xs) (d + 1) 123 4 [some (.ref 95), none, none, none] (r.toList ++ []) I2 J2 P)) : am_To (am_XX L xs) (d + 1) 123 0 [some (.ref 95), none, none, none] [] I J P := by
  exact am_pcall 2 (fun n => rfl) (am_lv (am_ln (am_ln (am_ln (am_l0))))) h
theorem bk_123_4 {L : Nat} {xs : Nat → Int32} {d : Nat} {P : Option Value → am_I → am_J → Prop}  (I : am_I) (J : am_J)  (h : am_To (am_XX L xs) d 123 16 [some (.ref 95), some (.int (0 : Int32)), none, none] [] (am_up (am_up I 95 26 (0 : Int32)) 95 27 (0 : Int32)) J P) : am_To (am_XX L xs) d 123 4 [some (.ref 95), none, none, none] [] I J P := by
  exact am_path 8 (fun n => rfl) (am_lv (am_lv (am_ln (am_ln (am_l0))))) h
theorem bk_123_16 {L : Nat} {xs : Nat → Int32} {d : Nat} {P : Option Value → am_I → am_J → Prop} (x1 : Int32) (I : am_I) (J : am_J)  (h : am_If ((24 : Int32) ≤ x1) (am_To (am_XX L xs) d 123 37 [some (.ref 95), some (.int (0 : Int32)), none, none] [] I J P) (am_Ix x1 24 fun q1 => am_To (am_XX L xs) d 123 16 [some (.ref 95), some (.int (x1 + (1 : Int32))), none, none] [] (am_up I 115 q1 (-1 : Int32)) J P)) : am_To (am_XX L xs) d 123 16 [some (.ref 95), some (.int x1), none, none] [] I J P := by
  by_cases c1 : (24 : Int32) ≤ x1
  · replace h := h.1 c1
    exact am_path 5 (fun n => (if_pos c1).trans (rfl)) (am_lv (am_lv (am_ln (am_ln (am_l0))))) h
  · replace h := h.2 c1
    obtain ⟨q1, j2, h⟩ := h
    exact am_path 10 (fun n => (if_neg c1).trans ((am_bs j2).trans (rfl))) (am_lv (am_lv (am_ln (am_ln (am_l0))))) h
theorem bk_123_37 {L : Nat} {xs : Nat → Int32} {d : Nat} {P : Option Value → am_I → am_J → Prop} (x1 : Int32) (I : am_I) (J : am_J)  (h : am_If ((576 : Int32) ≤ x1) (am_To (am_XX L xs) d 126 0 [some (.ref 95), none, none] [] I J (fun r I2 J2 => am_To (am_XX L xs) (d + 1) 123 81 [some (.ref 95), none, none, none] (r.toList ++ []) I2 J2 P)) (am_Ix x1 576 fun q1 => am_Ix x1 576 fun q2 => am_If (((am_up I 116 q1 (1 : Int32)) 113 q2) = 0) (am_Ix x1 576 fun q4 => am_To (am_XX L xs) (d + 1) 123 37 [some (.ref 95), some (.int (x1 + (1 : Int32))), none, none] [] (am_up (am_up I 116 q1 (1 : Int32)) 117 q4 (vp_nar .boolean (1 : Int32))) J P) (am_Ix x1 576 fun q3 => am_To (am_XX L xs) (d + 1) 123 37 [some (.ref 95), some (.int (x1 + (1 : Int32))), none, none] [] (am_up (am_up I 116 q1 (1 : Int32)) 117 q3 (vp_nar .boolean (0 : Int32))) J P))) : am_To (am_XX L xs) (d + 1) 123 37 [some (.ref 95), some (.int x1), none, none] [] I J P := by
  by_cases c1 : (576 : Int32) ≤ x1
  · replace h := h.1 c1
    exact am_pcall 5 (fun n => (if_pos c1).trans (rfl)) (am_lv (am_ln (am_ln (am_ln (am_l0))))) h
  · replace h := h.2 c1
    obtain ⟨q1, j2, h⟩ := h
    obtain ⟨q2, j3, h⟩ := h
    by_cases c4 : ((am_up I 116 q1 (1 : Int32)) 113 q2) = 0
    · replace h := h.1 c4
      obtain ⟨q4, j5, h⟩ := h
      exact am_path 21 (fun n => (if_neg c1).trans ((am_bs j2).trans ((am_bs j3).trans ((if_pos c4).trans ((am_bs j5).trans (rfl)))))) (am_lv (am_lv (am_ln (am_ln (am_l0))))) h
    · replace h := h.2 c4
      obtain ⟨q3, j6, h⟩ := h
      exact am_path 20 (fun n => (if_neg c1).trans ((am_bs j2).trans ((am_bs j3).trans ((if_neg c4).trans ((am_bs j6).trans (rfl)))))) (am_lv (am_lv (am_ln (am_ln (am_l0))))) h
theorem bk_123_81 {L : Nat} {xs : Nat → Int32} {d : Nat} {P : Option Value → am_I → am_J → Prop} (s0 : Int32) (I : am_I) (J : am_J)  (h : am_To (am_XX L xs) d 123 82 [some (.ref 95), some (.int s0), none, none] [] I J P) : am_To (am_XX L xs) d 123 81 [some (.ref 95), none, none, none] [.int s0] I J P := by
  exact am_path 1 (fun n => rfl) (am_lv (am_lv (am_ln (am_ln (am_l0))))) h
theorem bk_123_82 {L : Nat} {xs : Nat → Int32} {d : Nat} {P : Option Value → am_I → am_J → Prop} (x1 : Int32) (I : am_I) (J : am_J)  (h : am_If (x1 = (-1 : Int32)) (P none I J) (am_Ix x1 576 fun q1 => am_To (am_XX L xs) d 127 0 [some (.ref 95), some (.int (x1 / (24 : Int32))), some (.int (x1 - x1 / (24 : Int32) * (24 : Int32))), none] [] (am_up I 117 q1 (vp_nar .boolean (1 : Int32))) J (fun r I2 J2 => am_To (am_XX L xs) (d + 1) 123 115 [some (.ref 95), some (.int x1), some (.int (x1 / (24 : Int32))), some (.int (x1 - x1 / (24 : Int32) * (24 : Int32)))] (r.toList ++ [.int x1, .ref 116]) I2 J2 P))) : am_To (am_XX L xs) (d + 1) 123 82 [some (.ref 95), some (.int x1), none, none] [] I J P := by
  by_cases c1 : x1 = (-1 : Int32)
  · replace h := h.1 c1
    exact am_pret 4 (fun n => (if_pos c1).trans (rfl)) h
  · replace h := h.2 c1
    obtain ⟨q1, j2, h⟩ := h
    exact am_pcall 23 (fun n => (if_neg c1).trans ((am_bs j2).trans (rfl))) (am_lv (am_lv (am_lv (am_lv (am_l0))))) h
theorem bk_123_115 {L : Nat} {xs : Nat → Int32} {d : Nat} {P : Option Value → am_I → am_J → Prop} (x1 : Int32) (x2 : Int32) (x3 : Int32) (s1 : Int32) (s2 : Int32) (I : am_I) (J : am_J)  (h : am_Ix s1 576 fun q1 => am_Ix x1 576 fun q2 => am_If (((am_up I 116 q1 s2) 116 q2) = 0) (am_Ix x3 24 fun q3 => am_Ix x1 576 fun q4 => am_To (am_XX L xs) d 123 157 [some (.ref 95), none, none, none] [] (am_up (am_up (am_up (am_up I 116 q1 s2) 115 q3 x2) 95 26 (((am_up (am_up I 116 q1 s2) 115 q3 x2) 95 26) + (1 : Int32))) 95 27 (((am_up (am_up (am_up I 116 q1 s2) 115 q3 x2) 95 26 (((am_up (am_up I 116 q1 s2) 115 q3 x2) 95 26) + (1 : Int32))) 95 27) + ((am_up (am_up (am_up I 116 q1 s2) 115 q3 x2) 95 26 (((am_up (am_up I 116 q1 s2) 115 q3 x2) 95 26) + (1 : Int32))) 113 q4))) J P) (am_To (am_XX L xs) d 123 157 [some (.ref 95), none, none, none] [] (am_up I 116 q1 s2) J P)) : am_To (am_XX L xs) d 123 115 [some (.ref 95), some (.int x1), some (.int x2), some (.int x3)] [.int s2, .int s1, .ref 116] I J P := by
  obtain ⟨q1, j1, h⟩ := h
  obtain ⟨q2, j2, h⟩ := h
  by_cases c3 : ((am_up I 116 q1 s2) 116 q2) = 0
  · replace h := h.1 c3
    obtain ⟨q3, j4, h⟩ := h
    obtain ⟨q4, j5, h⟩ := h
    exact am_path 26 (fun n => (am_bs j1).trans ((am_bs j2).trans ((if_pos c3).trans ((am_bs j4).trans ((am_bs j5).trans (rfl)))))) (am_lv (am_ln (am_ln (am_ln (am_l0))))) h
  · replace h := h.2 c3
    exact am_path 6 (fun n => (am_bs j1).trans ((am_bs j2).trans ((if_neg c3).trans (rfl)))) (am_lv (am_ln (am_ln (am_ln (am_l0))))) h
theorem bk_123_157 {L : Nat} {xs : Nat → Int32} {d : Nat} {P : Option Value → am_I → am_J → Prop}  (I : am_I) (J : am_J)  (h : am_To (am_XX L xs) d 126 0 [some (.ref 95), none, none] [] I J (fun r I2 J2 => am_To (am_XX L xs) (d + 1) 123 161 [some (.ref 95), none, none, none] (r.toList ++ []) I2 J2 P)) : am_To (am_XX L xs) (d + 1) 123 157 [some (.ref 95), none, none, none] [] I J P := by
  exact am_pcall 2 (fun n => rfl) (am_lv (am_ln (am_ln (am_ln (am_l0))))) h
theorem bk_123_161 {L : Nat} {xs : Nat → Int32} {d : Nat} {P : Option Value → am_I → am_J → Prop} (s0 : Int32) (I : am_I) (J : am_J)  (h : am_To (am_XX L xs) d 123 82 [some (.ref 95), some (.int s0), none, none] [] I J P) : am_To (am_XX L xs) d 123 161 [some (.ref 95), none, none, none] [.int s0] I J P := by
  exact am_path 2 (fun n => rfl) (am_lv (am_lv (am_ln (am_ln (am_l0))))) h
