set_option maxRecDepth 100000
set_option maxHeartbeats 4000000
theorem bk_124_0 {L : Nat} {xs : Nat → Int32} {d : Nat} {P : Option Value → am_I → am_J → Prop}  (I : am_I) (J : am_J)  (h : am_To (am_XX L xs) d 124 2 [some (.ref 95), some (.int (0 : Int32)), none] [] I J P) : am_To (am_XX L xs) d 124 0 [some (.ref 95), none, none] [] I J P := by
  exact am_path 2 (fun n => rfl) (am_lv (am_lv (am_ln (am_l0)))) h
theorem bk_124_2 {L : Nat} {xs : Nat → Int32} {d : Nat} {P : Option Value → am_I → am_J → Prop} (x1 : Int32) (I : am_I) (J : am_J)  (h : am_If ((576 : Int32) ≤ x1) (am_To (am_XX L xs) d 124 31 [some (.ref 95), some (.int (0 : Int32)), none] [] I J P) (am_Ix x1 576 fun q1 => am_Ix x1 576 fun q2 => am_To (am_XX L xs) d 124 2 [some (.ref 95), some (.int (x1 + (1 : Int32))), none] [] (am_up (am_up I 113 q1 (0 : Int32)) 114 q2 (0 : Int32)) J P)) : am_To (am_XX L xs) d 124 2 [some (.ref 95), some (.int x1), none] [] I J P := by
  by_cases c1 : (576 : Int32) ≤ x1
  · replace h := h.1 c1
    exact am_path 5 (fun n => (if_pos c1).trans (rfl)) (am_lv (am_lv (am_ln (am_l0)))) h
  · replace h := h.2 c1
    obtain ⟨q1, j2, h⟩ := h
    obtain ⟨q2, j3, h⟩ := h
    exact am_path 15 (fun n => (if_neg c1).trans ((am_bs j2).trans ((am_bs j3).trans (rfl)))) (am_lv (am_lv (am_ln (am_l0)))) h
theorem bk_124_31 {L : Nat} {xs : Nat → Int32} {d : Nat} {P : Option Value → am_I → am_J → Prop} (x1 : Int32) (I : am_I) (J : am_J)  (h : am_If ((12 : Int32) ≤ x1) (am_To (am_XX L xs) d 124 108 [some (.ref 95), some (.int (0 : Int32)), none] [] I J P) (am_To (am_XX L xs) d 124 42 [some (.ref 95), some (.int x1), some (.int ((100 : Int32) * x1))] [] I J P)) : am_To (am_XX L xs) d 124 31 [some (.ref 95), some (.int x1), none] [] I J P := by
  by_cases c1 : (12 : Int32) ≤ x1
  · replace h := h.1 c1
    exact am_path 5 (fun n => (if_pos c1).trans (rfl)) (am_lv (am_lv (am_ln (am_l0)))) h
  · replace h := h.2 c1
    exact am_path 7 (fun n => (if_neg c1).trans (rfl)) (am_lv (am_lv (am_lv (am_l0)))) h
theorem bk_124_108 {L : Nat} {xs : Nat → Int32} {d : Nat} {P : Option Value → am_I → am_J → Prop} (x1 : Int32) (I : am_I) (J : am_J)  (h : am_If ((I 95 3) ≤ x1) (P none I J) (am_Ix x1 60 fun q1 => am_Ix x1 60 fun q2 => am_Ix x1 60 fun q3 => am_Ix x1 60 fun q4 => am_To (am_XX L xs) d 125 0 [some (.ref 95), some (.int (I 106 q1)), some (.int (I 107 q2)), some (.int (I 108 q3)), some (.int (I 109 q4))] [] I J (fun r I2 J2 => am_To (am_XX L xs) (d + 1) 124 144 [some (.ref 95), some (.int x1), none] (r.toList ++ []) I2 J2 P))) : am_To (am_XX L xs) (d + 1) 124 108 [some (.ref 95), some (.int x1), none] [] I J P := by
  by_cases c1 : (I 95 3) ≤ x1
  · replace h := h.1 c1
    exact am_pret 5 (fun n => (if_pos c1).trans (rfl)) h
  · replace h := h.2 c1
    obtain ⟨q1, j2, h⟩ := h
    obtain ⟨q2, j3, h⟩ := h
    obtain ⟨q3, j4, h⟩ := h
    obtain ⟨q4, j5, h⟩ := h
    exact am_pcall 22 (fun n => (if_neg c1).trans ((am_bs j2).trans ((am_bs j3).trans ((am_bs j4).trans ((am_bs j5).trans (rfl)))))) (am_lv (am_lv (am_ln (am_l0)))) h
theorem bk_124_42 {L : Nat} {xs : Nat → Int32} {d : Nat} {P : Option Value → am_I → am_J → Prop} (x1 : Int32) (x2 : Int32) (I : am_I) (J : am_J)  (h : am_Ix x1 12 fun q1 => am_If ((((100 : Int32) * x1) + (I 99 q1)) ≤ x2) (am_To (am_XX L xs) (d + 1) 124 31 [some (.ref 95), some (.int (x1 + (1 : Int32))), none] [] I J P) (am_Ix x1 12 fun q2 => am_If ((I 98 q2) = 0) (am_To (am_XX L xs) (d + 1) 124 31 [some (.ref 95), some (.int (x1 + (1 : Int32))), none] [] I J P) (am_Ix x2 1200 fun q3 => am_Ix x2 1200 fun q4 => am_Ix x2 1200 fun q5 => am_Ix x2 1200 fun q6 => am_To (am_XX L xs) d 125 0 [some (.ref 95), some (.int (I 100 q3)), some (.int (I 101 q4)), some (.int (I 102 q5)), some (.int (I 103 q6))] [] I J (fun r I2 J2 => am_To (am_XX L xs) (d + 1) 124 94 [some (.ref 95), some (.int x1), some (.int x2)] (r.toList ++ []) I2 J2 P)))) : am_To (am_XX L xs) (d + 1) 124 42 [some (.ref 95), some (.int x1), some (.int x2)] [] I J P := by
  obtain ⟨q1, j1, h⟩ := h
  by_cases c2 : (((100 : Int32) * x1) + (I 99 q1)) ≤ x2
  · replace h := h.1 c2
    exact am_path 12 (fun n => (am_bs j1).trans ((if_pos c2).trans (rfl))) (am_lv (am_lv (am_ln (am_l0)))) h
  · replace h := h.2 c2
    obtain ⟨q2, j3, h⟩ := h
    by_cases c4 : (I 98 q2) = 0
    · replace h := h.1 c4
      exact am_path 17 (fun n => (am_bs j1).trans ((if_neg c2).trans ((am_bs j3).trans ((if_pos c4).trans (rfl))))) (am_lv (am_lv (am_ln (am_l0)))) h
    · replace h := h.2 c4
      obtain ⟨q3, j5, h⟩ := h
      obtain ⟨q4, j6, h⟩ := h
      obtain ⟨q5, j7, h⟩ := h
      obtain ⟨q6, j8, h⟩ := h
      exact am_pcall 33 (fun n => (am_bs j1).trans ((if_neg c2).trans ((am_bs j3).trans ((if_neg c4).trans ((am_bs j5).trans ((am_bs j6).trans ((am_bs j7).trans ((am_bs j8).trans (rfl))))))))) (am_lv (am_lv (am_lv (am_l0)))) h
theorem bk_124_144 {L : Nat} {xs : Nat → Int32} {d : Nat} {P : Option Value → am_I → am_J → Prop} (x1 : Int32) (I : am_I) (J : am_J)  (h : am_To (am_XX L xs) d 124 108 [some (.ref 95), some (.int (x1 + (1 : Int32))), none] [] I J P) : am_To (am_XX L xs) d 124 144 [some (.ref 95), some (.int x1), none] [] I J P := by
  exact am_path 2 (fun n => rfl) (am_lv (am_lv (am_ln (am_l0)))) h
theorem bk_124_94 {L : Nat} {xs : Nat → Int32} {d : Nat} {P : Option Value → am_I → am_J → Prop} (x1 : Int32) (x2 : Int32) (I : am_I) (J : am_J)  (h : am_To (am_XX L xs) d 124 42 [some (.ref 95), some (.int x1), some (.int (x2 + (1 : Int32)))] [] I J P) : am_To (am_XX L xs) d 124 94 [some (.ref 95), some (.int x1), some (.int x2)] [] I J P := by
  exact am_path 2 (fun n => rfl) (am_lv (am_lv (am_lv (am_l0)))) h
theorem bk_125_0 {L : Nat} {xs : Nat → Int32} {d : Nat} {P : Option Value → am_I → am_J → Prop} (x1 : Int32) (x2 : Int32) (x3 : Int32) (x4 : Int32) (I : am_I) (J : am_J)  (h : am_If (x1 = 0) (am_Ix (((24 : Int32) * x2) + x3) 576 fun q1 => am_Ix (((24 : Int32) * x2) + x3) 576 fun q2 => am_To (am_XX L xs) d 125 20 [some (.ref 95), some (.int x1), some (.int x2), some (.int x3), some (.int x4)] [] (am_up I 113 q2 ((I 113 q1) + x4)) J P) (am_To (am_XX L xs) d 125 20 [some (.ref 95), some (.int x1), some (.int x2), some (.int x3), some (.int x4)] [] I J P)) : am_To (am_XX L xs) d 125 0 [some (.ref 95), some (.int x1), some (.int x2), some (.int x3), some (.int x4)] [] I J P := by
  by_cases c1 : x1 = 0
  · replace h := h.1 c1
    obtain ⟨q1, j2, h⟩ := h
    obtain ⟨q2, j3, h⟩ := h
    exact am_path 14 (fun n => (if_pos c1).trans ((am_bs j2).trans ((am_bs j3).trans (rfl)))) (am_lv (am_lv (am_lv (am_lv (am_lv (am_l0)))))) h
  · replace h := h.2 c1
    exact am_path 2 (fun n => (if_neg c1).trans (rfl)) (am_lv (am_lv (am_lv (am_lv (am_lv (am_l0)))))) h
theorem bk_125_20 {L : Nat} {xs : Nat → Int32} {d : Nat} {P : Option Value → am_I → am_J → Prop} (x1 : Int32) (x2 : Int32) (x3 : Int32) (x4 : Int32) (I : am_I) (J : am_J)  (h : am_If (x1 = (2 : Int32)) (am_Ix (((24 : Int32) * x2) + x3) 576 fun q1 => am_Ix (((24 : Int32) * x2) + x3) 576 fun q2 => am_Ix (((24 : Int32) * x3) + x2) 576 fun q3 => am_Ix (((24 : Int32) * x3) + x2) 576 fun q4 => P none (am_up (am_up I 114 q2 ((I 114 q1) + x4)) 114 q4 (((am_up I 114 q2 ((I 114 q1) + x4)) 114 q3) + x4)) J) (P none I J)) : am_To (am_XX L xs) d 125 20 [some (.ref 95), some (.int x1), some (.int x2), some (.int x3), some (.int x4)] [] I J P := by
  by_cases c1 : x1 = (2 : Int32)
  · replace h := h.1 c1
    obtain ⟨q1, j2, h⟩ := h
    obtain ⟨q2, j3, h⟩ := h
    obtain ⟨q3, j4, h⟩ := h
    obtain ⟨q4, j5, h⟩ := h
    exact am_pret 28 (fun n => (if_pos c1).trans ((am_bs j2).trans ((am_bs j3).trans ((am_bs j4).trans ((am_bs j5).trans (rfl)))))) h
  · replace h := h.2 c1
    exact am_pret 4 (fun n => (if_neg c1).trans (rfl)) h
theorem bk_126_0 {L : Nat} {xs : Nat → Int32} {d : Nat} {P : Option Value → am_I → am_J → Prop}  (I : am_I) (J : am_J)  (h : am_To (am_XX L xs) d 126 4 [some (.ref 95), some (.int (-1 : Int32)), some (.int (0 : Int32))] [] I J P) : am_To (am_XX L xs) d 126 0 [some (.ref 95), none, none] [] I J P := by
  exact am_path 4 (fun n => rfl) (am_lv (am_lv (am_lv (am_l0)))) h
theorem bk_126_4 {L : Nat} {xs : Nat → Int32} {d : Nat} {P : Option Value → am_I → am_J → Prop} (x1 : Int32) (x2 : Int32) (I : am_I) (J : am_J)  (h : am_If ((576 : Int32) ≤ x2) (P (some (.int x1)) I J) (am_Ix x2 576 fun q1 => am_If ((I 117 q1) = 0) (am_If (x1 = (-1 : Int32)) (am_To (am_XX L xs) d 126 40 [some (.ref 95), none, some (.int x2)] [] I J P) (am_Ix x2 576 fun q2 => am_Ix x1 576 fun q3 => am_If ((I 113 q2) ≤ (I 113 q3)) (am_To (am_XX L xs) d 126 4 [some (.ref 95), some (.int x1), some (.int (x2 + (1 : Int32)))] [] I J P) (am_To (am_XX L xs) d 126 40 [some (.ref 95), none, some (.int x2)] [] I J P))) (am_To (am_XX L xs) d 126 4 [some (.ref 95), some (.int x1), some (.int (x2 + (1 : Int32)))] [] I J P))) : am_To (am_XX L xs) d 126 4 [some (.ref 95), some (.int x1), some (.int x2)] [] I J P := by
  by_cases c1 : (576 : Int32) ≤ x2
  · replace h := h.1 c1
    exact am_pret 5 (fun n => (if_pos c1).trans (rfl)) h
  · replace h := h.2 c1
    obtain ⟨q1, j2, h⟩ := h
    by_cases c3 : (I 117 q1) = 0
    · replace h := h.1 c3
      by_cases c4 : x1 = (-1 : Int32)
      · replace h := h.1 c4
        exact am_path 11 (fun n => (if_neg c1).trans ((am_bs j2).trans ((if_pos c3).trans ((if_pos c4).trans (rfl))))) (am_lv (am_ln (am_lv (am_l0)))) h
      · replace h := h.2 c4
        obtain ⟨q2, j5, h⟩ := h
        obtain ⟨q3, j6, h⟩ := h
        by_cases c7 : (I 113 q2) ≤ (I 113 q3)
        · replace h := h.1 c7
          exact am_path 22 (fun n => (if_neg c1).trans ((am_bs j2).trans ((if_pos c3).trans ((if_neg c4).trans ((am_bs j5).trans ((am_bs j6).trans ((if_pos c7).trans (rfl)))))))) (am_lv (am_lv (am_lv (am_l0)))) h
        · replace h := h.2 c7
          exact am_path 20 (fun n => (if_neg c1).trans ((am_bs j2).trans ((if_pos c3).trans ((if_neg c4).trans ((am_bs j5).trans ((am_bs j6).trans ((if_neg c7).trans (rfl)))))))) (am_lv (am_ln (am_lv (am_l0)))) h
    · replace h := h.2 c3
      exact am_path 10 (fun n => (if_neg c1).trans ((am_bs j2).trans ((if_neg c3).trans (rfl)))) (am_lv (am_lv (am_lv (am_l0)))) h
theorem bk_126_40 {L : Nat} {xs : Nat → Int32} {d : Nat} {P : Option Value → am_I → am_J → Prop} (x2 : Int32) (I : am_I) (J : am_J)  (h : am_To (am_XX L xs) d 126 4 [some (.ref 95), some (.int x2), some (.int (x2 + (1 : Int32)))] [] I J P) : am_To (am_XX L xs) d 126 40 [some (.ref 95), none, some (.int x2)] [] I J P := by
  exact am_path 4 (fun n => rfl) (am_lv (am_lv (am_lv (am_l0)))) h
theorem bk_127_0 {L : Nat} {xs : Nat → Int32} {d : Nat} {P : Option Value → am_I → am_J → Prop} (x1 : Int32) (x2 : Int32) (I : am_I) (J : am_J)  (h : am_Ix x2 24 fun q1 => am_If ((I 115 q1) = (-1 : Int32)) (am_To (am_XX L xs) d 128 0 [some (.ref 95), some (.int x2), some (.int x1), none] [] I J (fun r I2 J2 => am_To (am_XX L xs) (d + 1) 127 18 [some (.ref 95), some (.int x1), some (.int x2), none] (r.toList ++ []) I2 J2 P)) (P (some (.int (2 : Int32))) I J)) : am_To (am_XX L xs) (d + 1) 127 0 [some (.ref 95), some (.int x1), some (.int x2), none] [] I J P := by
  obtain ⟨q1, j1, h⟩ := h
  by_cases c2 : (I 115 q1) = (-1 : Int32)
  · replace h := h.1 c2
    exact am_pcall 10 (fun n => (am_bs j1).trans ((if_pos c2).trans (rfl))) (am_lv (am_lv (am_lv (am_ln (am_l0))))) h
  · replace h := h.2 c2
    exact am_pret 8 (fun n => (am_bs j1).trans ((if_neg c2).trans (rfl))) h
theorem bk_127_18 {L : Nat} {xs : Nat → Int32} {d : Nat} {P : Option Value → am_I → am_J → Prop} (x1 : Int32) (x2 : Int32) (s0 : Int32) (I : am_I) (J : am_J)  (h : am_If (s0 = 0) (am_To (am_XX L xs) d 127 25 [some (.ref 95), some (.int x1), some (.int x2), some (.int (0 : Int32))] [] I J P) (P (some (.int (3 : Int32))) I J)) : am_To (am_XX L xs) d 127 18 [some (.ref 95), some (.int x1), some (.int x2), none] [.int s0] I J P := by
  by_cases c1 : s0 = 0
  · replace h := h.1 c1
    exact am_path 3 (fun n => (if_pos c1).trans (rfl)) (am_lv (am_lv (am_lv (am_lv (am_l0))))) h
  · replace h := h.2 c1
    exact am_pret 3 (fun n => (if_neg c1).trans (rfl)) h
theorem bk_127_25 {L : Nat} {xs : Nat → Int32} {d : Nat} {P : Option Value → am_I → am_J → Prop} (x1 : Int32) (x2 : Int32) (x3 : Int32) (I : am_I) (J : am_J)  (h : am_If ((I 95 3) ≤ x3) (P (some (.int (0 : Int32))) I J) (am_Ix x3 60 fun q1 => am_If ((I 106 q1) = (3 : Int32)) (am_Ix x3 60 fun q2 => am_To (am_XX L xs) d 128 0 [some (.ref 95), some (.int (I 107 q2)), some (.int x1), none] [] I J (fun r I2 J2 => am_To (am_XX L xs) (d + 1) 127 54 [some (.ref 95), some (.int x1), some (.int x2), some (.int x3)] (r.toList ++ []) I2 J2 P)) (am_To (am_XX L xs) (d + 1) 127 25 [some (.ref 95), some (.int x1), some (.int x2), some (.int (x3 + (1 : Int32)))] [] I J P))) : am_To (am_XX L xs) (d + 1) 127 25 [some (.ref 95), some (.int x1), some (.int x2), some (.int x3)] [] I J P := by
  by_cases c1 : (I 95 3) ≤ x3
  · replace h := h.1 c1
    exact am_pret 6 (fun n => (if_pos c1).trans (rfl)) h
  · replace h := h.2 c1
    obtain ⟨q1, j2, h⟩ := h
    by_cases c3 : (I 106 q1) = (3 : Int32)
    · replace h := h.1 c3
      obtain ⟨q2, j4, h⟩ := h
      exact am_pcall 17 (fun n => (if_neg c1).trans ((am_bs j2).trans ((if_pos c3).trans ((am_bs j4).trans (rfl))))) (am_lv (am_lv (am_lv (am_lv (am_l0))))) h
    · replace h := h.2 c3
      exact am_path 12 (fun n => (if_neg c1).trans ((am_bs j2).trans ((if_neg c3).trans (rfl)))) (am_lv (am_lv (am_lv (am_lv (am_l0))))) h
theorem bk_127_54 {L : Nat} {xs : Nat → Int32} {d : Nat} {P : Option Value → am_I → am_J → Prop} (x1 : Int32) (x2 : Int32) (x3 : Int32) (s0 : Int32) (I : am_I) (J : am_J)  (h : am_If (s0 = 0) (am_To (am_XX L xs) (d + 1) 127 25 [some (.ref 95), some (.int x1), some (.int x2), some (.int (x3 + (1 : Int32)))] [] I J P) (am_Ix x3 60 fun q1 => am_To (am_XX L xs) d 128 0 [some (.ref 95), some (.int x2), some (.int (I 108 q1)), none] [] I J (fun r I2 J2 => am_To (am_XX L xs) (d + 1) 127 68 [some (.ref 95), some (.int x1), some (.int x2), some (.int x3)] (r.toList ++ []) I2 J2 P))) : am_To (am_XX L xs) (d + 1) 127 54 [some (.ref 95), some (.int x1), some (.int x2), some (.int x3)] [.int s0] I J P := by
  by_cases c1 : s0 = 0
  · replace h := h.1 c1
    exact am_path 3 (fun n => (if_pos c1).trans (rfl)) (am_lv (am_lv (am_lv (am_lv (am_l0))))) h
  · replace h := h.2 c1
    obtain ⟨q1, j2, h⟩ := h
    exact am_pcall 8 (fun n => (if_neg c1).trans ((am_bs j2).trans (rfl))) (am_lv (am_lv (am_lv (am_lv (am_l0))))) h
theorem bk_127_68 {L : Nat} {xs : Nat → Int32} {d : Nat} {P : Option Value → am_I → am_J → Prop} (x1 : Int32) (x2 : Int32) (x3 : Int32) (s0 : Int32) (I : am_I) (J : am_J)  (h : am_If (s0 = 0) (am_To (am_XX L xs) d 127 25 [some (.ref 95), some (.int x1), some (.int x2), some (.int (x3 + (1 : Int32)))] [] I J P) (P (some (.int (4 : Int32))) I J)) : am_To (am_XX L xs) d 127 68 [some (.ref 95), some (.int x1), some (.int x2), some (.int x3)] [.int s0] I J P := by
  by_cases c1 : s0 = 0
  · replace h := h.1 c1
    exact am_path 3 (fun n => (if_pos c1).trans (rfl)) (am_lv (am_lv (am_lv (am_lv (am_l0))))) h
  · replace h := h.2 c1
    exact am_pret 3 (fun n => (if_neg c1).trans (rfl)) h
theorem bk_128_0 {L : Nat} {xs : Nat → Int32} {d : Nat} {P : Option Value → am_I → am_J → Prop} (x1 : Int32) (x2 : Int32) (I : am_I) (J : am_J)  (h : am_To (am_XX L xs) d 128 2 [some (.ref 95), some (.int x1), none, some (.int x2)] [] I J P) : am_To (am_XX L xs) d 128 0 [some (.ref 95), some (.int x1), some (.int x2), none] [] I J P := by
  exact am_path 2 (fun n => rfl) (am_lv (am_lv (am_ln (am_lv (am_l0))))) h
theorem bk_128_2 {L : Nat} {xs : Nat → Int32} {d : Nat} {P : Option Value → am_I → am_J → Prop} (x1 : Int32) (x3 : Int32) (I : am_I) (J : am_J)  (h : am_If (x3 = (-1 : Int32)) (P (some (.int (0 : Int32))) I J) (am_If (x3 = x1) (P (some (.int (1 : Int32))) I J) (am_Ix x3 24 fun q1 => am_To (am_XX L xs) d 128 2 [some (.ref 95), some (.int x1), none, some (.int (I 115 q1))] [] I J P))) : am_To (am_XX L xs) d 128 2 [some (.ref 95), some (.int x1), none, some (.int x3)] [] I J P := by
  by_cases c1 : x3 = (-1 : Int32)
  · replace h := h.1 c1
    exact am_pret 5 (fun n => (if_pos c1).trans (rfl)) h
  · replace h := h.2 c1
    by_cases c2 : x3 = x1
    · replace h := h.1 c2
      exact am_pret 8 (fun n => (if_neg c1).trans ((if_pos c2).trans (rfl))) h
    · replace h := h.2 c2
      obtain ⟨q1, j3, h⟩ := h
      exact am_path 12 (fun n => (if_neg c1).trans ((if_neg c2).trans ((am_bs j3).trans (rfl)))) (am_lv (am_lv (am_ln (am_lv (am_l0))))) h
theorem bk_129_0 {L : Nat} {xs : Nat → Int32} {d : Nat} {P : Option Value → am_I → am_J → Prop} (x1 : Int32) (x2 : Int32) (I : am_I) (J : am_J)  (h : am_To (am_XX L xs) d 116 0 [some (.ref 95), some (.int x1), some (.int x2)] [] I J (fun r I2 J2 => am_To (am_XX L xs) (d + 1) 129 6 [some (.ref 95), some (.int x1), some (.int x2)] (r.toList ++ []) I2 J2 P)) : am_To (am_XX L xs) (d + 1) 129 0 [some (.ref 95), some (.int x1), some (.int x2)] [] I J P := by
  exact am_pcall 4 (fun n => rfl) (am_lv (am_lv (am_lv (am_l0)))) h
theorem bk_129_6 {L : Nat} {xs : Nat → Int32} {d : Nat} {P : Option Value → am_I → am_J → Prop} (x1 : Int32) (x2 : Int32) (s0 : Int32) (I : am_I) (J : am_J)  (h : am_If (s0 = 0) (P (some (.int (-1 : Int32))) I J) (am_If (x1 = x2) (P (some (.int (-1 : Int32))) I J) (am_To (am_XX L xs) d 123 0 [some (.ref 95), none, none, none] [] I J (fun r I2 J2 => am_To (am_XX L xs) (d + 1) 129 20 [some (.ref 95), some (.int x1), some (.int x2)] (r.toList ++ []) I2 J2 P)))) : am_To (am_XX L xs) (d + 1) 129 6 [some (.ref 95), some (.int x1), some (.int x2)] [.int s0] I J P := by
  by_cases c1 : s0 = 0
  · replace h := h.1 c1
    exact am_pret 3 (fun n => (if_pos c1).trans (rfl)) h
  · replace h := h.2 c1
    by_cases c2 : x1 = x2
    · replace h := h.1 c2
      exact am_pret 6 (fun n => (if_neg c1).trans ((if_pos c2).trans (rfl))) h
    · replace h := h.2 c2
      exact am_pcall 6 (fun n => (if_neg c1).trans ((if_neg c2).trans (rfl))) (am_lv (am_lv (am_lv (am_l0)))) h
theorem bk_129_20 {L : Nat} {xs : Nat → Int32} {d : Nat} {P : Option Value → am_I → am_J → Prop} (x1 : Int32) (x2 : Int32) (I : am_I) (J : am_J)  (h : am_Ix (((24 : Int32) * x1) + x2) 576 fun q1 => P (some (.int (I 116 q1))) I J) : am_To (am_XX L xs) d 129 20 [some (.ref 95), some (.int x1), some (.int x2)] [] I J P := by
  obtain ⟨q1, j1, h⟩ := h
  exact am_pret 9 (fun n => (am_bs j1).trans (rfl)) h
theorem bk_130_0 {L : Nat} {xs : Nat → Int32} {d : Nat} {P : Option Value → am_I → am_J → Prop} (x1 : Int32) (x2 : Int32) (I : am_I) (J : am_J)  (h : am_To (am_XX L xs) d 116 0 [some (.ref 95), some (.int x1), some (.int x2)] [] I J (fun r I2 J2 => am_To (am_XX L xs) (d + 1) 130 6 [some (.ref 95), some (.int x1), some (.int x2)] (r.toList ++ []) I2 J2 P)) : am_To (am_XX L xs) (d + 1) 130 0 [some (.ref 95), some (.int x1), some (.int x2)] [] I J P := by
  exact am_pcall 4 (fun n => rfl) (am_lv (am_lv (am_lv (am_l0)))) h
theorem bk_130_6 {L : Nat} {xs : Nat → Int32} {d : Nat} {P : Option Value → am_I → am_J → Prop} (x1 : Int32) (x2 : Int32) (s0 : Int32) (I : am_I) (J : am_J)  (h : am_If (s0 = 0) (P (some (.int (-1 : Int32))) I J) (am_To (am_XX L xs) d 123 0 [some (.ref 95), none, none, none] [] I J (fun r I2 J2 => am_To (am_XX L xs) (d + 1) 130 15 [some (.ref 95), some (.int x1), some (.int x2)] (r.toList ++ []) I2 J2 P))) : am_To (am_XX L xs) (d + 1) 130 6 [some (.ref 95), some (.int x1), some (.int x2)] [.int s0] I J P := by
  by_cases c1 : s0 = 0
  · replace h := h.1 c1
    exact am_pret 3 (fun n => (if_pos c1).trans (rfl)) h
  · replace h := h.2 c1
    exact am_pcall 3 (fun n => (if_neg c1).trans (rfl)) (am_lv (am_lv (am_lv (am_l0)))) h
theorem bk_130_15 {L : Nat} {xs : Nat → Int32} {d : Nat} {P : Option Value → am_I → am_J → Prop} (x1 : Int32) (x2 : Int32) (I : am_I) (J : am_J)  (h : am_If (x1 = x2) (am_To (am_XX L xs) d 131 0 [some (.int (0 : Int32))] [] I J (fun r I2 J2 => am_To (am_XX L xs) (d + 1) 130 37 [none, none, none] (r.toList ++ []) I2 J2 P)) (am_To (am_XX L xs) d 128 0 [some (.ref 95), some (.int x1), some (.int x2), none] [] I J (fun r I2 J2 => am_To (am_XX L xs) (d + 1) 130 26 [none, none, none] (r.toList ++ []) I2 J2 P))) : am_To (am_XX L xs) (d + 1) 130 15 [some (.ref 95), some (.int x1), some (.int x2)] [] I J P := by
  by_cases c1 : x1 = x2
  · replace h := h.1 c1
    exact am_pcall 5 (fun n => (if_pos c1).trans (rfl)) (am_ln (am_ln (am_ln (am_l0)))) h
  · replace h := h.2 c1
    exact am_pcall 7 (fun n => (if_neg c1).trans (rfl)) (am_ln (am_ln (am_ln (am_l0)))) h
theorem bk_130_37 {L : Nat} {xs : Nat → Int32} {d : Nat} {P : Option Value → am_I → am_J → Prop} (s0 : Int32) (I : am_I) (J : am_J)  (h : P (some (.int s0)) I J) : am_To (am_XX L xs) d 130 37 [none, none, none] [.int s0] I J P := by
  exact am_pret 1 (fun n => rfl) h
theorem bk_130_26 {L : Nat} {xs : Nat → Int32} {d : Nat} {P : Option Value → am_I → am_J → Prop} (s0 : Int32) (I : am_I) (J : am_J)  (h : am_If (s0 = 0) (am_To (am_XX L xs) d 131 0 [some (.int (0 : Int32))] [] I J (fun r I2 J2 => am_To (am_XX L xs) (d + 1) 130 37 [none, none, none] (r.toList ++ []) I2 J2 P)) (am_To (am_XX L xs) d 131 0 [some (.int (1 : Int32))] [] I J (fun r I2 J2 => am_To (am_XX L xs) (d + 1) 130 37 [none, none, none] (r.toList ++ []) I2 J2 P))) : am_To (am_XX L xs) (d + 1) 130 26 [none, none, none] [.int s0] I J P := by
  by_cases c1 : s0 = 0
  · replace h := h.1 c1
    exact am_pcall 3 (fun n => (if_pos c1).trans (rfl)) (am_ln (am_ln (am_ln (am_l0)))) h
  · replace h := h.2 c1
    exact am_pcall 4 (fun n => (if_neg c1).trans (rfl)) (am_ln (am_ln (am_ln (am_l0)))) h
theorem bk_131_0 {L : Nat} {xs : Nat → Int32} {d : Nat} {P : Option Value → am_I → am_J → Prop} (x0 : Int32) (I : am_I) (J : am_J)  (h : am_If (x0 = 0) (P (some (.int (0 : Int32))) I J) (P (some (.int (1 : Int32))) I J)) : am_To (am_XX L xs) d 131 0 [some (.int x0)] [] I J P := by
  by_cases c1 : x0 = 0
  · replace h := h.1 c1
    exact am_pret 4 (fun n => (if_pos c1).trans (rfl)) h
  · replace h := h.2 c1
    exact am_pret 5 (fun n => (if_neg c1).trans (rfl)) h
theorem bk_132_0 {L : Nat} {xs : Nat → Int32} {d : Nat} {P : Option Value → am_I → am_J → Prop} (x1 : Int32) (x2 : Int32) (I : am_I) (J : am_J)  (h : am_To (am_XX L xs) d 114 0 [some (.ref 95), some (.int x1)] [] I J (fun r I2 J2 => am_To (am_XX L xs) (d + 1) 132 5 [some (.ref 95), some (.int x1), some (.int x2), none, none] (r.toList ++ []) I2 J2 P)) : am_To (am_XX L xs) (d + 1) 132 0 [some (.ref 95), some (.int x1), some (.int x2), none, none] [] I J P := by
  exact am_pcall 3 (fun n => rfl) (am_lv (am_lv (am_lv (am_ln (am_ln (am_l0)))))) h
theorem bk_132_5 {L : Nat} {xs : Nat → Int32} {d : Nat} {P : Option Value → am_I → am_J → Prop} (x1 : Int32) (x2 : Int32) (s0 : Int32) (I : am_I) (J : am_J)  (h : am_If (s0 = 0) (P (some (.int (-1 : Int32))) I J) (am_To (am_XX L xs) d 123 0 [some (.ref 95), none, none, none] [] I J (fun r I2 J2 => am_To (am_XX L xs) (d + 1) 132 14 [some (.ref 95), some (.int x1), some (.int x2), none, none] (r.toList ++ []) I2 J2 P))) : am_To (am_XX L xs) (d + 1) 132 5 [some (.ref 95), some (.int x1), some (.int x2), none, none] [.int s0] I J P := by
  by_cases c1 : s0 = 0
  · replace h := h.1 c1
    exact am_pret 3 (fun n => (if_pos c1).trans (rfl)) h
  · replace h := h.2 c1
    exact am_pcall 3 (fun n => (if_neg c1).trans (rfl)) (am_lv (am_lv (am_lv (am_ln (am_ln (am_l0)))))) h
theorem bk_132_14 {L : Nat} {xs : Nat → Int32} {d : Nat} {P : Option Value → am_I → am_J → Prop} (x1 : Int32) (x2 : Int32) (I : am_I) (J : am_J)  (h : am_To (am_XX L xs) d 132 19 [some (.ref 95), some (.int x1), some (.int x2), some (.int (0 : Int32)), some (.int (0 : Int32))] [] I J P) : am_To (am_XX L xs) d 132 14 [some (.ref 95), some (.int x1), some (.int x2), none, none] [] I J P := by
  exact am_path 4 (fun n => rfl) (am_lv (am_lv (am_lv (am_lv (am_lv (am_l0)))))) h
theorem bk_132_19 {L : Nat} {xs : Nat → Int32} {d : Nat} {P : Option Value → am_I → am_J → Prop} (x1 : Int32) (x2 : Int32) (x3 : Int32) (x4 : Int32) (I : am_I) (J : am_J)  (h : am_If ((I 95 2) ≤ x4) (am_If (x2 = (-1 : Int32)) (P (some (.int x3)) I J) (P (some (.int (-1 : Int32))) I J)) (am_If (x4 = x1) (am_To (am_XX L xs) (d + 1) 132 19 [some (.ref 95), some (.int x1), some (.int x2), some (.int x3), some (.int (x4 + (1 : Int32)))] [] I J P) (am_To (am_XX L xs) d 128 0 [some (.ref 95), some (.int x1), some (.int x4), none] [] I J (fun r I2 J2 => am_To (am_XX L xs) (d + 1) 132 41 [some (.ref 95), some (.int x1), some (.int x2), some (.int x3), some (.int x4)] (r.toList ++ []) I2 J2 P)))) : am_To (am_XX L xs) (d + 1) 132 19 [some (.ref 95), some (.int x1), some (.int x2), some (.int x3), some (.int x4)] [] I J P := by
  by_cases c1 : (I 95 2) ≤ x4
  · replace h := h.1 c1
    by_cases c2 : x2 = (-1 : Int32)
    · replace h := h.1 c2
      exact am_pret 10 (fun n => (if_pos c1).trans ((if_pos c2).trans (rfl))) h
    · replace h := h.2 c2
      exact am_pret 9 (fun n => (if_pos c1).trans ((if_neg c2).trans (rfl))) h
  · replace h := h.2 c1
    by_cases c3 : x4 = x1
    · replace h := h.1 c3
      exact am_path 9 (fun n => (if_neg c1).trans ((if_pos c3).trans (rfl))) (am_lv (am_lv (am_lv (am_lv (am_lv (am_l0)))))) h
    · replace h := h.2 c3
      exact am_pcall 11 (fun n => (if_neg c1).trans ((if_neg c3).trans (rfl))) (am_lv (am_lv (am_lv (am_lv (am_lv (am_l0)))))) h
theorem bk_132_41 {L : Nat} {xs : Nat → Int32} {d : Nat} {P : Option Value → am_I → am_J → Prop} (x1 : Int32) (x2 : Int32) (x3 : Int32) (x4 : Int32) (s0 : Int32) (I : am_I) (J : am_J)  (h : am_If (s0 = 0) (am_To (am_XX L xs) d 132 19 [some (.ref 95), some (.int x1), some (.int x2), some (.int x3), some (.int (x4 + (1 : Int32)))] [] I J P) (am_If (x3 = x2) (P (some (.int x4)) I J) (am_To (am_XX L xs) d 132 19 [some (.ref 95), some (.int x1), some (.int x2), some (.int (x3 + (1 : Int32))), some (.int (x4 + (1 : Int32)))] [] I J P))) : am_To (am_XX L xs) d 132 41 [some (.ref 95), some (.int x1), some (.int x2), some (.int x3), some (.int x4)] [.int s0] I J P := by
  by_cases c1 : s0 = 0
  · replace h := h.1 c1
    exact am_path 4 (fun n => (if_pos c1).trans (rfl)) (am_lv (am_lv (am_lv (am_lv (am_lv (am_l0)))))) h
  · replace h := h.2 c1
    by_cases c2 : x3 = x2
    · replace h := h.1 c2
      exact am_pret 6 (fun n => (if_neg c1).trans ((if_pos c2).trans (rfl))) h
    · replace h := h.2 c2
      exact am_path 7 (fun n => (if_neg c1).trans ((if_neg c2).trans (rfl))) (am_lv (am_lv (am_lv (am_lv (am_lv (am_l0)))))) h
theorem bk_133_0 {L : Nat} {xs : Nat → Int32} {d : Nat} {P : Option Value → am_I → am_J → Prop} (x1 : Int32) (x2 : Int32) (I : am_I) (J : am_J)  (h : am_To (am_XX L xs) d 116 0 [some (.ref 95), some (.int x1), some (.int x2)] [] I J (fun r I2 J2 => am_To (am_XX L xs) (d + 1) 133 6 [some (.ref 95), some (.int x1), some (.int x2)] (r.toList ++ []) I2 J2 P)) : am_To (am_XX L xs) (d + 1) 133 0 [some (.ref 95), some (.int x1), some (.int x2)] [] I J P := by
  exact am_pcall 4 (fun n => rfl) (am_lv (am_lv (am_lv (am_l0)))) h
theorem bk_133_6 {L : Nat} {xs : Nat → Int32} {d : Nat} {P : Option Value → am_I → am_J → Prop} (x1 : Int32) (x2 : Int32) (s0 : Int32) (I : am_I) (J : am_J)  (h : am_If (s0 = 0) (P (some (.int (-1 : Int32))) I J) (am_To (am_XX L xs) d 123 0 [some (.ref 95), none, none, none] [] I J (fun r I2 J2 => am_To (am_XX L xs) (d + 1) 133 15 [some (.ref 95), some (.int x1), some (.int x2)] (r.toList ++ []) I2 J2 P))) : am_To (am_XX L xs) (d + 1) 133 6 [some (.ref 95), some (.int x1), some (.int x2)] [.int s0] I J P := by
  by_cases c1 : s0 = 0
  · replace h := h.1 c1
    exact am_pret 3 (fun n => (if_pos c1).trans (rfl)) h
  · replace h := h.2 c1
    exact am_pcall 3 (fun n => (if_neg c1).trans (rfl)) (am_lv (am_lv (am_lv (am_l0)))) h
theorem bk_133_15 {L : Nat} {xs : Nat → Int32} {d : Nat} {P : Option Value → am_I → am_J → Prop} (x1 : Int32) (x2 : Int32) (I : am_I) (J : am_J)  (h : am_To (am_XX L xs) d 134 0 [some (.ref 95), some (.int x1), some (.int x2), none] [] I J (fun r I2 J2 => am_To (am_XX L xs) (d + 1) 133 21 [none, none, none] (r.toList ++ []) I2 J2 P)) : am_To (am_XX L xs) (d + 1) 133 15 [some (.ref 95), some (.int x1), some (.int x2)] [] I J P := by
  exact am_pcall 4 (fun n => rfl) (am_ln (am_ln (am_ln (am_l0)))) h
theorem bk_133_21 {L : Nat} {xs : Nat → Int32} {d : Nat} {P : Option Value → am_I → am_J → Prop} (s0 : Int32) (I : am_I) (J : am_J)  (h : P (some (.int s0)) I J) : am_To (am_XX L xs) d 133 21 [none, none, none] [.int s0] I J P := by
  exact am_pret 1 (fun n => rfl) h
theorem bk_134_0 {L : Nat} {xs : Nat → Int32} {d : Nat} {P : Option Value → am_I → am_J → Prop} (x1 : Int32) (x2 : Int32) (I : am_I) (J : am_J)  (h : am_To (am_XX L xs) d 134 2 [some (.ref 95), none, some (.int x2), some (.int x1)] [] I J P) : am_To (am_XX L xs) d 134 0 [some (.ref 95), some (.int x1), some (.int x2), none] [] I J P := by
  exact am_path 2 (fun n => rfl) (am_lv (am_ln (am_lv (am_lv (am_l0))))) h
theorem bk_134_2 {L : Nat} {xs : Nat → Int32} {d : Nat} {P : Option Value → am_I → am_J → Prop} (x2 : Int32) (x3 : Int32) (I : am_I) (J : am_J)  (h : am_If (x3 = (-1 : Int32)) (P (some (.int (-1 : Int32))) I J) (am_To (am_XX L xs) d 128 0 [some (.ref 95), some (.int x3), some (.int x2), none] [] I J (fun r I2 J2 => am_To (am_XX L xs) (d + 1) 134 13 [some (.ref 95), none, some (.int x2), some (.int x3)] (r.toList ++ []) I2 J2 P))) : am_To (am_XX L xs) (d + 1) 134 2 [some (.ref 95), none, some (.int x2), some (.int x3)] [] I J P := by
  by_cases c1 : x3 = (-1 : Int32)
  · replace h := h.1 c1
    exact am_pret 5 (fun n => (if_pos c1).trans (rfl)) h
  · replace h := h.2 c1
    exact am_pcall 7 (fun n => (if_neg c1).trans (rfl)) (am_lv (am_ln (am_lv (am_lv (am_l0))))) h
theorem bk_134_13 {L : Nat} {xs : Nat → Int32} {d : Nat} {P : Option Value → am_I → am_J → Prop} (x2 : Int32) (x3 : Int32) (s0 : Int32) (I : am_I) (J : am_J)  (h : am_If (s0 = 0) (am_Ix x3 24 fun q1 => am_To (am_XX L xs) d 134 2 [some (.ref 95), none, some (.int x2), some (.int (I 115 q1))] [] I J P) (P (some (.int x3)) I J)) : am_To (am_XX L xs) d 134 13 [some (.ref 95), none, some (.int x2), some (.int x3)] [.int s0] I J P := by
  by_cases c1 : s0 = 0
  · replace h := h.1 c1
    obtain ⟨q1, j2, h⟩ := h
    exact am_path 7 (fun n => (if_pos c1).trans ((am_bs j2).trans (rfl))) (am_lv (am_ln (am_lv (am_lv (am_l0))))) h
  · replace h := h.2 c1
    exact am_pret 3 (fun n => (if_neg c1).trans (rfl)) h
theorem bk_135_0 {L : Nat} {xs : Nat → Int32} {d : Nat} {P : Option Value → am_I → am_J → Prop} (x1 : Int32) (x2 : Int32) (I : am_I) (J : am_J)  (h : am_To (am_XX L xs) d 116 0 [some (.ref 95), some (.int x1), some (.int x2)] [] I J (fun r I2 J2 => am_To (am_XX L xs) (d + 1) 135 6 [some (.ref 95), some (.int x1), some (.int x2), none, none, none] (r.toList ++ []) I2 J2 P)) : am_To (am_XX L xs) (d + 1) 135 0 [some (.ref 95), some (.int x1), some (.int x2), none, none, none] [] I J P := by
  exact am_pcall 4 (fun n => rfl) (am_lv (am_lv (am_lv (am_ln (am_ln (am_ln (am_l0))))))) h
theorem bk_135_6 {L : Nat} {xs : Nat → Int32} {d : Nat} {P : Option Value → am_I → am_J → Prop} (x1 : Int32) (x2 : Int32) (s0 : Int32) (I : am_I) (J : am_J)  (h : am_If (s0 = 0) (P (some (.int (-1 : Int32))) I J) (am_To (am_XX L xs) d 123 0 [some (.ref 95), none, none, none] [] I J (fun r I2 J2 => am_To (am_XX L xs) (d + 1) 135 15 [some (.ref 95), some (.int x1), some (.int x2), none, none, none] (r.toList ++ []) I2 J2 P))) : am_To (am_XX L xs) (d + 1) 135 6 [some (.ref 95), some (.int x1), some (.int x2), none, none, none] [.int s0] I J P := by
  by_cases c1 : s0 = 0
  · replace h := h.1 c1
    exact am_pret 3 (fun n => (if_pos c1).trans (rfl)) h
  · replace h := h.2 c1
    exact am_pcall 3 (fun n => (if_neg c1).trans (rfl)) (am_lv (am_lv (am_lv (am_ln (am_ln (am_ln (am_l0))))))) h
theorem bk_135_15 {L : Nat} {xs : Nat → Int32} {d : Nat} {P : Option Value → am_I → am_J → Prop} (x1 : Int32) (x2 : Int32) (I : am_I) (J : am_J)  (h : am_To (am_XX L xs) d 134 0 [some (.ref 95), some (.int x1), some (.int x2), none] [] I J (fun r I2 J2 => am_To (am_XX L xs) (d + 1) 135 21 [some (.ref 95), some (.int x1), some (.int x2), none, none, none] (r.toList ++ []) I2 J2 P)) : am_To (am_XX L xs) (d + 1) 135 15 [some (.ref 95), some (.int x1), some (.int x2), none, none, none] [] I J P := by
  exact am_pcall 4 (fun n => rfl) (am_lv (am_lv (am_lv (am_ln (am_ln (am_ln (am_l0))))))) h
theorem bk_135_21 {L : Nat} {xs : Nat → Int32} {d : Nat} {P : Option Value → am_I → am_J → Prop} (x1 : Int32) (x2 : Int32) (s0 : Int32) (I : am_I) (J : am_J)  (h : am_If (s0 = (-1 : Int32)) (P (some (.int (-1 : Int32))) I J) (am_To (am_XX L xs) d 135 35 [some (.ref 95), none, some (.int x2), some (.int s0), some (.int (0 : Int32)), some (.int x1)] [] I J P)) : am_To (am_XX L xs) d 135 21 [some (.ref 95), some (.int x1), some (.int x2), none, none, none] [.int s0] I J P := by
  by_cases c1 : s0 = (-1 : Int32)
  · replace h := h.1 c1
    exact am_pret 6 (fun n => (if_pos c1).trans (rfl)) h
  · replace h := h.2 c1
    exact am_path 8 (fun n => (if_neg c1).trans (rfl)) (am_lv (am_ln (am_lv (am_lv (am_lv (am_lv (am_l0))))))) h
theorem bk_135_35 {L : Nat} {xs : Nat → Int32} {d : Nat} {P : Option Value → am_I → am_J → Prop} (x2 : Int32) (x3 : Int32) (x4 : Int32) (x5 : Int32) (I : am_I) (J : am_J)  (h : am_If (x5 = x3) (am_To (am_XX L xs) d 135 59 [some (.ref 95), none, none, some (.int x3), some (.int x4), some (.int x2)] [] I J P) (am_Ix x5 24 fun q1 => am_To (am_XX L xs) d 135 35 [some (.ref 95), none, some (.int x2), some (.int x3), some (.int (x4 + (1 : Int32))), some (.int (I 115 q1))] [] I J P)) : am_To (am_XX L xs) d 135 35 [some (.ref 95), none, some (.int x2), some (.int x3), some (.int x4), some (.int x5)] [] I J P := by
  by_cases c1 : x5 = x3
  · replace h := h.1 c1
    exact am_path 5 (fun n => (if_pos c1).trans (rfl)) (am_lv (am_ln (am_ln (am_lv (am_lv (am_lv (am_l0))))))) h
  · replace h := h.2 c1
    obtain ⟨q1, j2, h⟩ := h
    exact am_path 10 (fun n => (if_neg c1).trans ((am_bs j2).trans (rfl))) (am_lv (am_ln (am_lv (am_lv (am_lv (am_lv (am_l0))))))) h
theorem bk_135_59 {L : Nat} {xs : Nat → Int32} {d : Nat} {P : Option Value → am_I → am_J → Prop} (x3 : Int32) (x4 : Int32) (x5 : Int32) (I : am_I) (J : am_J)  (h : am_If (x5 = x3) (P (some (.int x4)) I J) (am_Ix x5 24 fun q1 => am_To (am_XX L xs) d 135 59 [some (.ref 95), none, none, some (.int x3), some (.int (x4 + (1 : Int32))), some (.int (I 115 q1))] [] I J P)) : am_To (am_XX L xs) d 135 59 [some (.ref 95), none, none, some (.int x3), some (.int x4), some (.int x5)] [] I J P := by
  by_cases c1 : x5 = x3
  · replace h := h.1 c1
    exact am_pret 5 (fun n => (if_pos c1).trans (rfl)) h
  · replace h := h.2 c1
    obtain ⟨q1, j2, h⟩ := h
    exact am_path 10 (fun n => (if_neg c1).trans ((am_bs j2).trans (rfl))) (am_lv (am_ln (am_ln (am_lv (am_lv (am_lv (am_l0))))))) h
theorem bk_136_0 {L : Nat} {xs : Nat → Int32} {d : Nat} {P : Option Value → am_I → am_J → Prop} (x1 : Int32) (x2 : Int32) (I : am_I) (J : am_J)  (h : am_To (am_XX L xs) d 116 0 [some (.ref 95), some (.int x1), some (.int x2)] [] I J (fun r I2 J2 => am_To (am_XX L xs) (d + 1) 136 6 [some (.ref 95), some (.int x1), some (.int x2), none, none] (r.toList ++ []) I2 J2 P)) : am_To (am_XX L xs) (d + 1) 136 0 [some (.ref 95), some (.int x1), some (.int x2), none, none] [] I J P := by
  exact am_pcall 4 (fun n => rfl) (am_lv (am_lv (am_lv (am_ln (am_ln (am_l0)))))) h
theorem bk_136_6 {L : Nat} {xs : Nat → Int32} {d : Nat} {P : Option Value → am_I → am_J → Prop} (x1 : Int32) (x2 : Int32) (s0 : Int32) (I : am_I) (J : am_J)  (h : am_If (s0 = 0) (P (some (.int (-1 : Int32))) I J) (am_To (am_XX L xs) d 123 0 [some (.ref 95), none, none, none] [] I J (fun r I2 J2 => am_To (am_XX L xs) (d + 1) 136 15 [some (.ref 95), some (.int x1), some (.int x2), none, none] (r.toList ++ []) I2 J2 P))) : am_To (am_XX L xs) (d + 1) 136 6 [some (.ref 95), some (.int x1), some (.int x2), none, none] [.int s0] I J P := by
  by_cases c1 : s0 = 0
  · replace h := h.1 c1
    exact am_pret 3 (fun n => (if_pos c1).trans (rfl)) h
  · replace h := h.2 c1
    exact am_pcall 3 (fun n => (if_neg c1).trans (rfl)) (am_lv (am_lv (am_lv (am_ln (am_ln (am_l0)))))) h
theorem bk_136_15 {L : Nat} {xs : Nat → Int32} {d : Nat} {P : Option Value → am_I → am_J → Prop} (x1 : Int32) (x2 : Int32) (I : am_I) (J : am_J)  (h : am_To (am_XX L xs) d 136 20 [some (.ref 95), some (.int x1), some (.int x2), some (.int (0 : Int32)), some (.int (0 : Int32))] [] I J P) : am_To (am_XX L xs) d 136 15 [some (.ref 95), some (.int x1), some (.int x2), none, none] [] I J P := by
  exact am_path 4 (fun n => rfl) (am_lv (am_lv (am_lv (am_lv (am_lv (am_l0)))))) h
theorem bk_136_20 {L : Nat} {xs : Nat → Int32} {d : Nat} {P : Option Value → am_I → am_J → Prop} (x1 : Int32) (x2 : Int32) (x3 : Int32) (x4 : Int32) (I : am_I) (J : am_J)  (h : am_If ((I 95 2) ≤ x4) (P (some (.int x3)) I J) (am_To (am_XX L xs) d 137 0 [some (.ref 95), some (.int x1), some (.int x4)] [] I J (fun r I2 J2 => am_To (am_XX L xs) (d + 1) 136 37 [some (.ref 95), some (.int x1), some (.int x2), none, some (.int x4)] (r.toList ++ [.int x3]) I2 J2 P))) : am_To (am_XX L xs) (d + 1) 136 20 [some (.ref 95), some (.int x1), some (.int x2), some (.int x3), some (.int x4)] [] I J P := by
  by_cases c1 : (I 95 2) ≤ x4
  · replace h := h.1 c1
    exact am_pret 6 (fun n => (if_pos c1).trans (rfl)) h
  · replace h := h.2 c1
    exact am_pcall 9 (fun n => (if_neg c1).trans (rfl)) (am_lv (am_lv (am_lv (am_ln (am_lv (am_l0)))))) h
theorem bk_136_37 {L : Nat} {xs : Nat → Int32} {d : Nat} {P : Option Value → am_I → am_J → Prop} (x1 : Int32) (x2 : Int32) (x4 : Int32) (s0 : Int32) (s1 : Int32) (I : am_I) (J : am_J)  (h : am_If (s1 = 0) (am_To (am_XX L xs) (d + 1) 136 54 [some (.ref 95), some (.int x1), some (.int x2), none, some (.int x4)] [.int s0] I J P) (am_To (am_XX L xs) d 137 0 [some (.ref 95), some (.int x2), some (.int x4)] [] I J (fun r I2 J2 => am_To (am_XX L xs) (d + 1) 136 47 [some (.ref 95), some (.int x1), some (.int x2), none, some (.int x4)] (r.toList ++ [.int s0]) I2 J2 P))) : am_To (am_XX L xs) (d + 1) 136 37 [some (.ref 95), some (.int x1), some (.int x2), none, some (.int x4)] [.int s1, .int s0] I J P := by
  by_cases c1 : s1 = 0
  · replace h := h.1 c1
    exact am_path 1 (fun n => (if_pos c1).trans (rfl)) (am_lv (am_lv (am_lv (am_ln (am_lv (am_l0)))))) h
  · replace h := h.2 c1
    exact am_pcall 5 (fun n => (if_neg c1).trans (rfl)) (am_lv (am_lv (am_lv (am_ln (am_lv (am_l0)))))) h
theorem bk_136_54 {L : Nat} {xs : Nat → Int32} {d : Nat} {P : Option Value → am_I → am_J → Prop} (x1 : Int32) (x2 : Int32) (x4 : Int32) (s0 : Int32) (I : am_I) (J : am_J)  (h : am_To (am_XX L xs) d 136 55 [some (.ref 95), some (.int x1), some (.int x2), none, some (.int x4)] [.int (0 : Int32), .int s0] I J P) : am_To (am_XX L xs) d 136 54 [some (.ref 95), some (.int x1), some (.int x2), none, some (.int x4)] [.int s0] I J P := by
  exact am_path 1 (fun n => rfl) (am_lv (am_lv (am_lv (am_ln (am_lv (am_l0)))))) h
theorem bk_136_47 {L : Nat} {xs : Nat → Int32} {d : Nat} {P : Option Value → am_I → am_J → Prop} (x1 : Int32) (x2 : Int32) (x4 : Int32) (s0 : Int32) (s1 : Int32) (I : am_I) (J : am_J)  (h : am_If (s1 = 0) (am_To (am_XX L xs) d 136 54 [some (.ref 95), some (.int x1), some (.int x2), none, some (.int x4)] [.int s0] I J P) (am_To (am_XX L xs) d 136 55 [some (.ref 95), some (.int x1), some (.int x2), none, some (.int x4)] [.int (1 : Int32), .int s0] I J P)) : am_To (am_XX L xs) d 136 47 [some (.ref 95), some (.int x1), some (.int x2), none, some (.int x4)] [.int s1, .int s0] I J P := by
  by_cases c1 : s1 = 0
  · replace h := h.1 c1
    exact am_path 1 (fun n => (if_pos c1).trans (rfl)) (am_lv (am_lv (am_lv (am_ln (am_lv (am_l0)))))) h
  · replace h := h.2 c1
    exact am_path 3 (fun n => (if_neg c1).trans (rfl)) (am_lv (am_lv (am_lv (am_ln (am_lv (am_l0)))))) h
theorem bk_136_55 {L : Nat} {xs : Nat → Int32} {d : Nat} {P : Option Value → am_I → am_J → Prop} (x1 : Int32) (x2 : Int32) (x4 : Int32) (s0 : Int32) (s1 : Int32) (I : am_I) (J : am_J)  (h : am_To (am_XX L xs) d 131 0 [some (.int s1)] [] I J (fun r I2 J2 => am_To (am_XX L xs) (d + 1) 136 58 [some (.ref 95), some (.int x1), some (.int x2), none, some (.int x4)] (r.toList ++ [.int s0]) I2 J2 P)) : am_To (am_XX L xs) (d + 1) 136 55 [some (.ref 95), some (.int x1), some (.int x2), none, some (.int x4)] [.int s1, .int s0] I J P := by
  exact am_pcall 1 (fun n => rfl) (am_lv (am_lv (am_lv (am_ln (am_lv (am_l0)))))) h
theorem bk_136_58 {L : Nat} {xs : Nat → Int32} {d : Nat} {P : Option Value → am_I → am_J → Prop} (x1 : Int32) (x2 : Int32) (x4 : Int32) (s0 : Int32) (s1 : Int32) (I : am_I) (J : am_J)  (h : am_To (am_XX L xs) d 136 20 [some (.ref 95), some (.int x1), some (.int x2), some (.int (s0 + s1)), some (.int (x4 + (1 : Int32)))] [] I J P) : am_To (am_XX L xs) d 136 58 [some (.ref 95), some (.int x1), some (.int x2), none, some (.int x4)] [.int s1, .int s0] I J P := by
  exact am_path 4 (fun n => rfl) (am_lv (am_lv (am_lv (am_lv (am_lv (am_l0)))))) h
