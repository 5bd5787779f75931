set_option maxRecDepth 100000
set_option maxHeartbeats 4000000
theorem bk_137_0 {L : Nat} {xs : Nat → Int32} {d : Nat} {P : Option Value → am_I → am_J → Prop} (x1 : Int32) (x2 : Int32) (I : am_I) (J : am_J)  (h : am_If (x1 = x2) (P (some (.int (0 : Int32))) I J) (am_Ix x1 24 fun q1 => am_If ((I 115 q1) = x2) (P (some (.int (1 : Int32))) I J) (am_Ix x2 24 fun q2 => am_If ((I 115 q2) = x1) (P (some (.int (1 : Int32))) I J) (am_Ix (((24 : Int32) * x1) + x2) 576 fun q3 => am_If ((I 114 q3) ≤ 0) (P (some (.int (0 : Int32))) I J) (P (some (.int (1 : Int32))) I J))))) : am_To (am_XX L xs) d 137 0 [some (.ref 95), some (.int x1), some (.int x2)] [] I J P := by
  by_cases c1 : x1 = x2
  · replace h := h.1 c1
    exact am_pret 5 (fun n => (if_pos c1).trans (rfl)) h
  · replace h := h.2 c1
    obtain ⟨q1, j2, h⟩ := h
    by_cases c3 : (I 115 q1) = x2
    · replace h := h.1 c3
      exact am_pret 12 (fun n => (if_neg c1).trans ((am_bs j2).trans ((if_pos c3).trans (rfl)))) h
    · replace h := h.2 c3
      obtain ⟨q2, j4, h⟩ := h
      by_cases c5 : (I 115 q2) = x1
      · replace h := h.1 c5
        exact am_pret 18 (fun n => (if_neg c1).trans ((am_bs j2).trans ((if_neg c3).trans ((am_bs j4).trans ((if_pos c5).trans (rfl)))))) h
      · replace h := h.2 c5
        obtain ⟨q3, j6, h⟩ := h
        by_cases c7 : (I 114 q3) ≤ 0
        · replace h := h.1 c7
          exact am_pret 26 (fun n => (if_neg c1).trans ((am_bs j2).trans ((if_neg c3).trans ((am_bs j4).trans ((if_neg c5).trans ((am_bs j6).trans ((if_pos c7).trans (rfl)))))))) h
        · replace h := h.2 c7
          exact am_pret 27 (fun n => (if_neg c1).trans ((am_bs j2).trans ((if_neg c3).trans ((am_bs j4).trans ((if_neg c5).trans ((am_bs j6).trans ((if_neg c7).trans (rfl)))))))) h
theorem bk_138_0 {L : Nat} {xs : Nat → Int32} {d : Nat} {P : Option Value → am_I → am_J → Prop} (x1 : Int32) (I : am_I) (J : am_J)  (h : am_To (am_XX L xs) d 114 0 [some (.ref 95), some (.int x1)] [] I J (fun r I2 J2 => am_To (am_XX L xs) (d + 1) 138 5 [some (.ref 95), some (.int x1), none, none, none, none] (r.toList ++ []) I2 J2 P)) : am_To (am_XX L xs) (d + 1) 138 0 [some (.ref 95), some (.int x1), none, none, none, none] [] I J P := by
  exact am_pcall 3 (fun n => rfl) (am_lv (am_lv (am_ln (am_ln (am_ln (am_ln (am_l0))))))) h
theorem bk_138_5 {L : Nat} {xs : Nat → Int32} {d : Nat} {P : Option Value → am_I → am_J → Prop} (x1 : Int32) (s0 : Int32) (I : am_I) (J : am_J)  (h : am_If (s0 = 0) (P (some (.int (-1 : Int32))) I J) (am_To (am_XX L xs) d 123 0 [some (.ref 95), none, none, none] [] I J (fun r I2 J2 => am_To (am_XX L xs) (d + 1) 138 14 [some (.ref 95), some (.int x1), none, none, none, none] (r.toList ++ []) I2 J2 P))) : am_To (am_XX L xs) (d + 1) 138 5 [some (.ref 95), some (.int x1), none, none, none, none] [.int s0] I J P := by
  by_cases c1 : s0 = 0
  · replace h := h.1 c1
    exact am_pret 3 (fun n => (if_pos c1).trans (rfl)) h
  · replace h := h.2 c1
    exact am_pcall 3 (fun n => (if_neg c1).trans (rfl)) (am_lv (am_lv (am_ln (am_ln (am_ln (am_ln (am_l0))))))) h
theorem bk_138_14 {L : Nat} {xs : Nat → Int32} {d : Nat} {P : Option Value → am_I → am_J → Prop} (x1 : Int32) (I : am_I) (J : am_J)  (h : am_To (am_XX L xs) d 138 18 [some (.ref 95), some (.int x1), some (.int (0 : Int32)), some (.int (0 : Int32)), none, none] [] I J P) : am_To (am_XX L xs) d 138 14 [some (.ref 95), some (.int x1), none, none, none, none] [] I J P := by
  exact am_path 4 (fun n => rfl) (am_lv (am_lv (am_lv (am_lv (am_ln (am_ln (am_l0))))))) h
theorem bk_138_18 {L : Nat} {xs : Nat → Int32} {d : Nat} {P : Option Value → am_I → am_J → Prop} (x1 : Int32) (x2 : Int32) (x3 : Int32) (I : am_I) (J : am_J)  (h : am_If ((I 95 2) ≤ x3) (am_To (am_XX L xs) (d + 1) 138 54 [some (.ref 95), none, some (.int x2), some (.int (0 : Int32)), none, none] [] I J P) (am_To (am_XX L xs) d 137 0 [some (.ref 95), some (.int x1), some (.int x3)] [] I J (fun r I2 J2 => am_To (am_XX L xs) (d + 1) 138 37 [some (.ref 95), some (.int x1), some (.int x2), some (.int x3), none, none] (r.toList ++ [.int x3, .ref 118]) I2 J2 P))) : am_To (am_XX L xs) (d + 1) 138 18 [some (.ref 95), some (.int x1), some (.int x2), some (.int x3), none, none] [] I J P := by
  by_cases c1 : (I 95 2) ≤ x3
  · replace h := h.1 c1
    exact am_path 6 (fun n => (if_pos c1).trans (rfl)) (am_lv (am_ln (am_lv (am_lv (am_ln (am_ln (am_l0))))))) h
  · replace h := h.2 c1
    exact am_pcall 11 (fun n => (if_neg c1).trans (rfl)) (am_lv (am_lv (am_lv (am_lv (am_ln (am_ln (am_l0))))))) h
theorem bk_138_54 {L : Nat} {xs : Nat → Int32} {d : Nat} {P : Option Value → am_I → am_J → Prop} (x2 : Int32) (x3 : Int32) (I : am_I) (J : am_J)  (h : am_If ((I 95 2) ≤ x3) (am_To (am_XX L xs) d 138 163 [some (.ref 95), none, some (.int x2), some (.int (0 : Int32)), none, none] [] I J P) (am_To (am_XX L xs) d 138 65 [some (.ref 95), none, some (.int x2), some (.int x3), some (.int (0 : Int32)), none] [] I J P)) : am_To (am_XX L xs) d 138 54 [some (.ref 95), none, some (.int x2), some (.int x3), none, none] [] I J P := by
  by_cases c1 : (I 95 2) ≤ x3
  · replace h := h.1 c1
    exact am_path 6 (fun n => (if_pos c1).trans (rfl)) (am_lv (am_ln (am_lv (am_lv (am_ln (am_ln (am_l0))))))) h
  · replace h := h.2 c1
    exact am_path 6 (fun n => (if_neg c1).trans (rfl)) (am_lv (am_ln (am_lv (am_lv (am_lv (am_ln (am_l0))))))) h
theorem bk_138_37 {L : Nat} {xs : Nat → Int32} {d : Nat} {P : Option Value → am_I → am_J → Prop} (x1 : Int32) (x2 : Int32) (x3 : Int32) (s1 : Int32) (s2 : Int32) (I : am_I) (J : am_J)  (h : am_If (s2 = 0) (am_Ix s1 24 fun q1 => am_To (am_XX L xs) d 138 18 [some (.ref 95), some (.int x1), some (.int x2), some (.int (x3 + (1 : Int32))), none, none] [] (am_up I 118 q1 (-1 : Int32)) J P) (am_Ix s1 24 fun q2 => am_To (am_XX L xs) d 138 18 [some (.ref 95), some (.int x1), some (.int x2), some (.int (x3 + (1 : Int32))), none, none] [] (am_up I 118 q2 x3) J P)) : am_To (am_XX L xs) d 138 37 [some (.ref 95), some (.int x1), some (.int x2), some (.int x3), none, none] [.int s2, .int s1, .ref 118] I J P := by
  by_cases c1 : s2 = 0
  · replace h := h.1 c1
    obtain ⟨q1, j2, h⟩ := h
    exact am_path 5 (fun n => (if_pos c1).trans ((am_bs j2).trans (rfl))) (am_lv (am_lv (am_lv (am_lv (am_ln (am_ln (am_l0))))))) h
  · replace h := h.2 c1
    obtain ⟨q2, j3, h⟩ := h
    exact am_path 6 (fun n => (if_neg c1).trans ((am_bs j3).trans (rfl))) (am_lv (am_lv (am_lv (am_lv (am_ln (am_ln (am_l0))))))) h
theorem bk_138_163 {L : Nat} {xs : Nat → Int32} {d : Nat} {P : Option Value → am_I → am_J → Prop} (x2 : Int32) (x3 : Int32) (I : am_I) (J : am_J)  (h : am_If ((I 95 2) ≤ x3) (P (some (.int x2)) I J) (am_Ix x3 24 fun q1 => am_If ((I 118 q1) = x3) (am_To (am_XX L xs) d 138 187 [some (.ref 95), none, none, some (.int x3), none, none] [.int (1 : Int32), .int x2] I J P) (am_To (am_XX L xs) d 138 187 [some (.ref 95), none, none, some (.int x3), none, none] [.int (0 : Int32), .int x2] I J P))) : am_To (am_XX L xs) d 138 163 [some (.ref 95), none, some (.int x2), some (.int x3), none, none] [] I J P := by
  by_cases c1 : (I 95 2) ≤ x3
  · replace h := h.1 c1
    exact am_pret 6 (fun n => (if_pos c1).trans (rfl)) h
  · replace h := h.2 c1
    obtain ⟨q1, j2, h⟩ := h
    by_cases c3 : (I 118 q1) = x3
    · replace h := h.1 c3
      exact am_path 13 (fun n => (if_neg c1).trans ((am_bs j2).trans ((if_pos c3).trans (rfl)))) (am_lv (am_ln (am_ln (am_lv (am_ln (am_ln (am_l0))))))) h
    · replace h := h.2 c3
      exact am_path 12 (fun n => (if_neg c1).trans ((am_bs j2).trans ((if_neg c3).trans (rfl)))) (am_lv (am_ln (am_ln (am_lv (am_ln (am_ln (am_l0))))))) h
theorem bk_138_65 {L : Nat} {xs : Nat → Int32} {d : Nat} {P : Option Value → am_I → am_J → Prop} (x2 : Int32) (x3 : Int32) (x4 : Int32) (I : am_I) (J : am_J)  (h : am_If ((I 95 2) ≤ x4) (am_To (am_XX L xs) d 138 54 [some (.ref 95), none, some (.int x2), some (.int (x3 + (1 : Int32))), none, none] [] I J P) (am_To (am_XX L xs) d 138 77 [some (.ref 95), none, some (.int x2), some (.int x3), some (.int x4), some (.int (0 : Int32))] [] I J P)) : am_To (am_XX L xs) d 138 65 [some (.ref 95), none, some (.int x2), some (.int x3), some (.int x4), none] [] I J P := by
  by_cases c1 : (I 95 2) ≤ x4
  · replace h := h.1 c1
    exact am_path 6 (fun n => (if_pos c1).trans (rfl)) (am_lv (am_ln (am_lv (am_lv (am_ln (am_ln (am_l0))))))) h
  · replace h := h.2 c1
    exact am_path 6 (fun n => (if_neg c1).trans (rfl)) (am_lv (am_ln (am_lv (am_lv (am_lv (am_lv (am_l0))))))) h
theorem bk_138_187 {L : Nat} {xs : Nat → Int32} {d : Nat} {P : Option Value → am_I → am_J → Prop} (x3 : Int32) (s0 : Int32) (s1 : Int32) (I : am_I) (J : am_J)  (h : am_To (am_XX L xs) d 131 0 [some (.int s1)] [] I J (fun r I2 J2 => am_To (am_XX L xs) (d + 1) 138 190 [some (.ref 95), none, none, some (.int x3), none, none] (r.toList ++ [.int s0]) I2 J2 P)) : am_To (am_XX L xs) (d + 1) 138 187 [some (.ref 95), none, none, some (.int x3), none, none] [.int s1, .int s0] I J P := by
  exact am_pcall 1 (fun n => rfl) (am_lv (am_ln (am_ln (am_lv (am_ln (am_ln (am_l0))))))) h
theorem bk_138_77 {L : Nat} {xs : Nat → Int32} {d : Nat} {P : Option Value → am_I → am_J → Prop} (x2 : Int32) (x3 : Int32) (x4 : Int32) (x5 : Int32) (I : am_I) (J : am_J)  (h : am_If ((I 95 2) ≤ x5) (am_To (am_XX L xs) (d + 1) 138 65 [some (.ref 95), none, some (.int x2), some (.int x3), some (.int (x4 + (1 : Int32))), none] [] I J P) (am_Ix x4 24 fun q1 => am_If ((I 118 q1) = (-1 : Int32)) (am_To (am_XX L xs) (d + 1) 138 77 [some (.ref 95), none, some (.int x2), some (.int x3), some (.int x4), some (.int (x5 + (1 : Int32)))] [] I J P) (am_Ix x5 24 fun q2 => am_If ((I 118 q2) = (-1 : Int32)) (am_To (am_XX L xs) (d + 1) 138 77 [some (.ref 95), none, some (.int x2), some (.int x3), some (.int x4), some (.int (x5 + (1 : Int32)))] [] I J P) (am_To (am_XX L xs) d 137 0 [some (.ref 95), some (.int x4), some (.int x5)] [] I J (fun r I2 J2 => am_To (am_XX L xs) (d + 1) 138 116 [some (.ref 95), none, some (.int x2), some (.int x3), some (.int x4), some (.int x5)] (r.toList ++ []) I2 J2 P))))) : am_To (am_XX L xs) (d + 1) 138 77 [some (.ref 95), none, some (.int x2), some (.int x3), some (.int x4), some (.int x5)] [] I J P := by
  by_cases c1 : (I 95 2) ≤ x5
  · replace h := h.1 c1
    exact am_path 6 (fun n => (if_pos c1).trans (rfl)) (am_lv (am_ln (am_lv (am_lv (am_lv (am_ln (am_l0))))))) h
  · replace h := h.2 c1
    obtain ⟨q1, j2, h⟩ := h
    by_cases c3 : (I 118 q1) = (-1 : Int32)
    · replace h := h.1 c3
      exact am_path 12 (fun n => (if_neg c1).trans ((am_bs j2).trans ((if_pos c3).trans (rfl)))) (am_lv (am_ln (am_lv (am_lv (am_lv (am_lv (am_l0))))))) h
    · replace h := h.2 c3
      obtain ⟨q2, j4, h⟩ := h
      by_cases c5 : (I 118 q2) = (-1 : Int32)
      · replace h := h.1 c5
        exact am_path 18 (fun n => (if_neg c1).trans ((am_bs j2).trans ((if_neg c3).trans ((am_bs j4).trans ((if_pos c5).trans (rfl)))))) (am_lv (am_ln (am_lv (am_lv (am_lv (am_lv (am_l0))))))) h
      · replace h := h.2 c5
        exact am_pcall 20 (fun n => (if_neg c1).trans ((am_bs j2).trans ((if_neg c3).trans ((am_bs j4).trans ((if_neg c5).trans (rfl)))))) (am_lv (am_ln (am_lv (am_lv (am_lv (am_lv (am_l0))))))) h
theorem bk_138_190 {L : Nat} {xs : Nat → Int32} {d : Nat} {P : Option Value → am_I → am_J → Prop} (x3 : Int32) (s0 : Int32) (s1 : Int32) (I : am_I) (J : am_J)  (h : am_To (am_XX L xs) d 138 163 [some (.ref 95), none, some (.int (s0 + s1)), some (.int (x3 + (1 : Int32))), none, none] [] I J P) : am_To (am_XX L xs) d 138 190 [some (.ref 95), none, none, some (.int x3), none, none] [.int s1, .int s0] I J P := by
  exact am_path 4 (fun n => rfl) (am_lv (am_ln (am_lv (am_lv (am_ln (am_ln (am_l0))))))) h
theorem bk_138_116 {L : Nat} {xs : Nat → Int32} {d : Nat} {P : Option Value → am_I → am_J → Prop} (x2 : Int32) (x3 : Int32) (x4 : Int32) (x5 : Int32) (s0 : Int32) (I : am_I) (J : am_J)  (h : am_If (s0 = 0) (am_To (am_XX L xs) (d + 1) 138 77 [some (.ref 95), none, some (.int x2), some (.int x3), some (.int x4), some (.int (x5 + (1 : Int32)))] [] I J P) (am_Ix x4 24 fun q1 => am_Ix x5 24 fun q2 => am_Ix x4 24 fun q3 => am_To (am_XX L xs) (d + 1) 138 77 [some (.ref 95), none, some (.int x2), some (.int x3), some (.int x4), some (.int (x5 + (1 : Int32)))] [] (am_up I 118 q3 (if (I 118 q2) < (I 118 q1) then (I 118 q2) else (I 118 q1))) J P)) : am_To (am_XX L xs) (d + 1) 138 116 [some (.ref 95), none, some (.int x2), some (.int x3), some (.int x4), some (.int x5)] [.int s0] I J P := by
  by_cases c1 : s0 = 0
  · replace h := h.1 c1
    exact am_path 3 (fun n => (if_pos c1).trans (rfl)) (am_lv (am_ln (am_lv (am_lv (am_lv (am_lv (am_l0))))))) h
  · replace h := h.2 c1
    obtain ⟨q1, j2, h⟩ := h
    obtain ⟨q2, j3, h⟩ := h
    obtain ⟨q3, j4, h⟩ := h
    exact am_path 16 (fun n => (if_neg c1).trans ((am_bs j2).trans ((am_bs j3).trans ((am_bs j4).trans (rfl))))) (am_lv (am_ln (am_lv (am_lv (am_lv (am_lv (am_l0))))))) h
theorem bk_140_0 {L : Nat} {xs : Nat → Int32} {d : Nat} {P : Option Value → am_I → am_J → Prop}  (I : am_I) (J : am_J)  (h : am_To (am_XX L xs) d 123 0 [some (.ref 95), none, none, none] [] I J (fun r I2 J2 => am_To (am_XX L xs) (d + 1) 140 4 [some (.ref 95)] (r.toList ++ []) I2 J2 P)) : am_To (am_XX L xs) (d + 1) 140 0 [some (.ref 95)] [] I J P := by
  exact am_pcall 2 (fun n => rfl) (am_lv (am_l0)) h
theorem bk_140_4 {L : Nat} {xs : Nat → Int32} {d : Nat} {P : Option Value → am_I → am_J → Prop}  (I : am_I) (J : am_J)  (h : P (some (.int (I 95 27))) I J) : am_To (am_XX L xs) d 140 4 [some (.ref 95)] [] I J P := by
  exact am_pret 3 (fun n => rfl) h
theorem bk_141_0 {L : Nat} {xs : Nat → Int32} {d : Nat} {P : Option Value → am_I → am_J → Prop} (x1 : Int32) (I : am_I) (J : am_J)  (h : am_If (x1 < 0) (P (some (.int (-1 : Int32))) I J) (am_If ((x1 >>> ((I 95 2) &&& 31)) = 0) (am_To (am_XX L xs) d 141 19 [some (.ref 95), some (.int x1), some (.int (0 : Int32)), some (.int (0 : Int32)), none, none, none, none, none, none, none] [] I J P) (P (some (.int (-1 : Int32))) I J))) : am_To (am_XX L xs) d 141 0 [some (.ref 95), some (.int x1), none, none, none, none, none, none, none, none, none] [] I J P := by
  by_cases c1 : x1 < 0
  · replace h := h.1 c1
    exact am_pret 4 (fun n => (if_pos c1).trans (rfl)) h
  · replace h := h.2 c1
    by_cases c2 : (x1 >>> ((I 95 2) &&& 31)) = 0
    · replace h := h.1 c2
      exact am_path 11 (fun n => (if_neg c1).trans ((if_pos c2).trans (rfl))) (am_lv (am_lv (am_lv (am_lv (am_ln (am_ln (am_ln (am_ln (am_ln (am_ln (am_ln (am_l0)))))))))))) h
    · replace h := h.2 c2
      exact am_pret 9 (fun n => (if_neg c1).trans ((if_neg c2).trans (rfl))) h
theorem bk_141_19 {L : Nat} {xs : Nat → Int32} {d : Nat} {P : Option Value → am_I → am_J → Prop} (x1 : Int32) (x2 : Int32) (x3 : Int32) (I : am_I) (J : am_J)  (h : am_If ((I 95 2) ≤ x3) (am_To (am_XX L xs) d 124 0 [some (.ref 95), none, none] [] I J (fun r I2 J2 => am_To (am_XX L xs) (d + 1) 141 66 [some (.ref 95), none, some (.int x2), none, none, none, none, none, none, none, none] (r.toList ++ []) I2 J2 P)) (am_If (((x1 >>> (x3 &&& 31)) &&& (1 : Int32)) = 0) (am_To (am_XX L xs) (d + 1) 141 19 [some (.ref 95), some (.int x1), some (.int x2), some (.int (x3 + (1 : Int32))), none, none, none, none, none, none, none] [] I J P) (am_If (x2 = (6 : Int32)) (P (some (.int (-1 : Int32))) I J) (am_Ix x2 6 fun q1 => am_To (am_XX L xs) (d + 1) 141 19 [some (.ref 95), some (.int x1), some (.int (x2 + (1 : Int32))), some (.int (x3 + (1 : Int32))), none, none, none, none, none, none, none] [] (am_up I 119 q1 x3) J P)))) : am_To (am_XX L xs) (d + 1) 141 19 [some (.ref 95), some (.int x1), some (.int x2), some (.int x3), none, none, none, none, none, none, none] [] I J P := by
  by_cases c1 : (I 95 2) ≤ x3
  · replace h := h.1 c1
    exact am_pcall 6 (fun n => (if_pos c1).trans (rfl)) (am_lv (am_ln (am_lv (am_ln (am_ln (am_ln (am_ln (am_ln (am_ln (am_ln (am_ln (am_l0)))))))))))) h
  · replace h := h.2 c1
    by_cases c2 : ((x1 >>> (x3 &&& 31)) &&& (1 : Int32)) = 0
    · replace h := h.1 c2
      exact am_path 13 (fun n => (if_neg c1).trans ((if_pos c2).trans (rfl))) (am_lv (am_lv (am_lv (am_lv (am_ln (am_ln (am_ln (am_ln (am_ln (am_ln (am_ln (am_l0)))))))))))) h
    · replace h := h.2 c2
      by_cases c3 : x2 = (6 : Int32)
      · replace h := h.1 c3
        exact am_pret 15 (fun n => (if_neg c1).trans ((if_neg c2).trans ((if_pos c3).trans (rfl)))) h
      · replace h := h.2 c3
        obtain ⟨q1, j4, h⟩ := h
        exact am_path 21 (fun n => (if_neg c1).trans ((if_neg c2).trans ((if_neg c3).trans ((am_bs j4).trans (rfl))))) (am_lv (am_lv (am_lv (am_lv (am_ln (am_ln (am_ln (am_ln (am_ln (am_ln (am_ln (am_l0)))))))))))) h
theorem bk_141_66 {L : Nat} {xs : Nat → Int32} {d : Nat} {P : Option Value → am_I → am_J → Prop} (x2 : Int32) (I : am_I) (J : am_J)  (h : am_To (am_XX L xs) d 141 71 [some (.ref 95), none, some (.int x2), some (.int (1 : Int32)), some (.int (0 : Int32)), none, none, none, none, none, none] [] I J P) : am_To (am_XX L xs) d 141 66 [some (.ref 95), none, some (.int x2), none, none, none, none, none, none, none, none] [] I J P := by
  exact am_path 4 (fun n => rfl) (am_lv (am_ln (am_lv (am_lv (am_lv (am_ln (am_ln (am_ln (am_ln (am_ln (am_ln (am_l0)))))))))))) h
theorem bk_141_71 {L : Nat} {xs : Nat → Int32} {d : Nat} {P : Option Value → am_I → am_J → Prop} (x2 : Int32) (x3 : Int32) (x4 : Int32) (I : am_I) (J : am_J)  (h : am_If (x2 ≤ x4) (am_To (am_XX L xs) d 141 93 [some (.ref 95), none, some (.int x2), some (.int x3), some (.int (0 : Int32)), some (.int (0 : Int32)), none, none, none, none, none] [] I J P) (am_To (am_XX L xs) d 141 71 [some (.ref 95), none, some (.int x2), some (.int (x3 * x2)), some (.int (x4 + (1 : Int32))), none, none, none, none, none, none] [] I J P)) : am_To (am_XX L xs) d 141 71 [some (.ref 95), none, some (.int x2), some (.int x3), some (.int x4), none, none, none, none, none, none] [] I J P := by
  by_cases c1 : x2 ≤ x4
  · replace h := h.1 c1
    exact am_path 7 (fun n => (if_pos c1).trans (rfl)) (am_lv (am_ln (am_lv (am_lv (am_lv (am_lv (am_ln (am_ln (am_ln (am_ln (am_ln (am_l0)))))))))))) h
  · replace h := h.2 c1
    exact am_path 9 (fun n => (if_neg c1).trans (rfl)) (am_lv (am_ln (am_lv (am_lv (am_lv (am_ln (am_ln (am_ln (am_ln (am_ln (am_ln (am_l0)))))))))))) h
theorem bk_141_93 {L : Nat} {xs : Nat → Int32} {d : Nat} {P : Option Value → am_I → am_J → Prop} (x2 : Int32) (x3 : Int32) (x4 : Int32) (x5 : Int32) (I : am_I) (J : am_J)  (h : am_If (x3 ≤ x5) (P (some (.int x4)) I J) (am_To (am_XX L xs) d 141 112 [some (.ref 95), none, some (.int x2), some (.int x3), some (.int x4), some (.int x5), some (.int x5), some (.int (0 : Int32)), some (.int (1 : Int32)), some (.int (0 : Int32)), none] [] I J P)) : am_To (am_XX L xs) d 141 93 [some (.ref 95), none, some (.int x2), some (.int x3), some (.int x4), some (.int x5), none, none, none, none, none] [] I J P := by
  by_cases c1 : x3 ≤ x5
  · replace h := h.1 c1
    exact am_pret 5 (fun n => (if_pos c1).trans (rfl)) h
  · replace h := h.2 c1
    exact am_path 11 (fun n => (if_neg c1).trans (rfl)) (am_lv (am_ln (am_lv (am_lv (am_lv (am_lv (am_lv (am_lv (am_lv (am_lv (am_ln (am_l0)))))))))))) h
theorem bk_141_112 {L : Nat} {xs : Nat → Int32} {d : Nat} {P : Option Value → am_I → am_J → Prop} (x2 : Int32) (x3 : Int32) (x4 : Int32) (x5 : Int32) (x6 : Int32) (x7 : Int32) (x8 : Int32) (x9 : Int32) (I : am_I) (J : am_J)  (h : am_If (x2 ≤ x9) (am_If (x8 = 0) (am_To (am_XX L xs) (d + 1) 141 93 [some (.ref 95), none, some (.int x2), some (.int x3), some (.int x4), some (.int (x5 + (1 : Int32))), none, none, none, none, none] [] I J P) (am_If (x7 ≤ x4) (am_To (am_XX L xs) (d + 1) 141 93 [some (.ref 95), none, some (.int x2), some (.int x3), some (.int x4), some (.int (x5 + (1 : Int32))), none, none, none, none, none] [] I J P) (am_To (am_XX L xs) d 142 0 [some (.ref 95), some (.int x2), none, none, none] [] I J (fun r I2 J2 => am_To (am_XX L xs) (d + 1) 141 251 [some (.ref 95), none, some (.int x2), some (.int x3), some (.int x4), some (.int x5), none, some (.int x7), none, none, none] (r.toList ++ []) I2 J2 P)))) (∃ r, am_alu .irem [.int x2, .int x6, .int x9, .ref 120] = some r ∧ am_To (am_XX L xs) (d + 1) 141 128 [some (.ref 95), none, some (.int x2), some (.int x3), some (.int x4), some (.int x5), some (.int x6), some (.int x7), some (.int x8), some (.int x9), none] r I J P)) : am_To (am_XX L xs) (d + 1) 141 112 [some (.ref 95), none, some (.int x2), some (.int x3), some (.int x4), some (.int x5), some (.int x6), some (.int x7), some (.int x8), some (.int x9), none] [] I J P := by
  by_cases c1 : x2 ≤ x9
  · replace h := h.1 c1
    by_cases c2 : x8 = 0
    · replace h := h.1 c2
      exact am_path 7 (fun n => (if_pos c1).trans ((if_pos c2).trans (rfl))) (am_lv (am_ln (am_lv (am_lv (am_lv (am_lv (am_ln (am_ln (am_ln (am_ln (am_ln (am_l0)))))))))))) h
    · replace h := h.2 c2
      by_cases c3 : x7 ≤ x4
      · replace h := h.1 c3
        exact am_path 10 (fun n => (if_pos c1).trans ((if_neg c2).trans ((if_pos c3).trans (rfl)))) (am_lv (am_ln (am_lv (am_lv (am_lv (am_lv (am_ln (am_ln (am_ln (am_ln (am_ln (am_l0)))))))))))) h
      · replace h := h.2 c3
        exact am_pcall 11 (fun n => (if_pos c1).trans ((if_neg c2).trans ((if_neg c3).trans (rfl)))) (am_lv (am_ln (am_lv (am_lv (am_lv (am_lv (am_ln (am_lv (am_ln (am_ln (am_ln (am_l0)))))))))))) h
  · replace h := h.2 c1
    obtain ⟨r, hr, h⟩ := h
    exact am_path 9 (fun n => (if_neg c1).trans ((am_bs hr).trans (rfl))) (am_lv (am_ln (am_lv (am_lv (am_lv (am_lv (am_lv (am_lv (am_lv (am_lv (am_ln (am_l0)))))))))))) h
theorem bk_141_251 {L : Nat} {xs : Nat → Int32} {d : Nat} {P : Option Value → am_I → am_J → Prop} (x2 : Int32) (x3 : Int32) (x4 : Int32) (x5 : Int32) (x7 : Int32) (s0 : Int32) (I : am_I) (J : am_J)  (h : am_If (s0 = 0) (am_To (am_XX L xs) d 141 93 [some (.ref 95), none, some (.int x2), some (.int x3), some (.int x4), some (.int (x5 + (1 : Int32))), none, none, none, none, none] [] I J P) (am_To (am_XX L xs) d 141 93 [some (.ref 95), none, some (.int x2), some (.int x3), some (.int x7), some (.int (x5 + (1 : Int32))), none, none, none, none, none] [] I J P)) : am_To (am_XX L xs) d 141 251 [some (.ref 95), none, some (.int x2), some (.int x3), some (.int x4), some (.int x5), none, some (.int x7), none, none, none] [.int s0] I J P := by
  by_cases c1 : s0 = 0
  · replace h := h.1 c1
    exact am_path 3 (fun n => (if_pos c1).trans (rfl)) (am_lv (am_ln (am_lv (am_lv (am_lv (am_lv (am_ln (am_ln (am_ln (am_ln (am_ln (am_l0)))))))))))) h
  · replace h := h.2 c1
    exact am_path 5 (fun n => (if_neg c1).trans (rfl)) (am_lv (am_ln (am_lv (am_lv (am_lv (am_lv (am_ln (am_ln (am_ln (am_ln (am_ln (am_l0)))))))))))) h
theorem bk_141_128 {L : Nat} {xs : Nat → Int32} {d : Nat} {P : Option Value → am_I → am_J → Prop} (x2 : Int32) (x3 : Int32) (x4 : Int32) (x5 : Int32) (x6 : Int32) (x7 : Int32) (x8 : Int32) (x9 : Int32) (s1 : Int32) (s2 : Int32) (I : am_I) (J : am_J)  (h : am_If (s2 = x9) (am_To (am_XX L xs) d 141 141 [some (.ref 95), none, some (.int x2), some (.int x3), some (.int x4), some (.int x5), some (.int x6), some (.int x7), some (.int x8), some (.int x9), none] [.int (-1 : Int32), .int s1, .ref 120] I J P) (∃ r, am_alu .irem [.int x2, .int x6, .int s1, .ref 120] = some r ∧ am_To (am_XX L xs) d 141 141 [some (.ref 95), none, some (.int x2), some (.int x3), some (.int x4), some (.int x5), some (.int x6), some (.int x7), some (.int x8), some (.int x9), none] r I J P)) : am_To (am_XX L xs) d 141 128 [some (.ref 95), none, some (.int x2), some (.int x3), some (.int x4), some (.int x5), some (.int x6), some (.int x7), some (.int x8), some (.int x9), none] [.int s2, .int s1, .ref 120] I J P := by
  by_cases c1 : s2 = x9
  · replace h := h.1 c1
    exact am_path 4 (fun n => (if_pos c1).trans (rfl)) (am_lv (am_ln (am_lv (am_lv (am_lv (am_lv (am_lv (am_lv (am_lv (am_lv (am_ln (am_l0)))))))))))) h
  · replace h := h.2 c1
    obtain ⟨r, hr, h⟩ := h
    exact am_path 5 (fun n => (if_neg c1).trans ((am_bs hr).trans (rfl))) (am_lv (am_ln (am_lv (am_lv (am_lv (am_lv (am_lv (am_lv (am_lv (am_lv (am_ln (am_l0)))))))))))) h
theorem bk_141_141 {L : Nat} {xs : Nat → Int32} {d : Nat} {P : Option Value → am_I → am_J → Prop} (x2 : Int32) (x3 : Int32) (x4 : Int32) (x5 : Int32) (x6 : Int32) (x7 : Int32) (x8 : Int32) (x9 : Int32) (s1 : Int32) (s2 : Int32) (I : am_I) (J : am_J)  (h : am_Ix s1 6 fun q1 => ∃ r, am_alu .idiv [.int x2, .int x6] = some r ∧ am_To (am_XX L xs) d 141 146 [some (.ref 95), none, some (.int x2), some (.int x3), some (.int x4), some (.int x5), none, some (.int x7), some (.int x8), some (.int x9), none] r (am_up I 120 q1 s2) J P) : am_To (am_XX L xs) d 141 141 [some (.ref 95), none, some (.int x2), some (.int x3), some (.int x4), some (.int x5), some (.int x6), some (.int x7), some (.int x8), some (.int x9), none] [.int s2, .int s1, .ref 120] I J P := by
  obtain ⟨q1, j1, h⟩ := h
  obtain ⟨r, hr, h⟩ := h
  exact am_path 4 (fun n => (am_bs j1).trans ((am_bs hr).trans (rfl))) (am_lv (am_ln (am_lv (am_lv (am_lv (am_lv (am_ln (am_lv (am_lv (am_lv (am_ln (am_l0)))))))))))) h
theorem bk_141_146 {L : Nat} {xs : Nat → Int32} {d : Nat} {P : Option Value → am_I → am_J → Prop} (x2 : Int32) (x3 : Int32) (x4 : Int32) (x5 : Int32) (x7 : Int32) (x8 : Int32) (x9 : Int32) (s0 : Int32) (I : am_I) (J : am_J)  (h : am_Ix x9 6 fun q1 => am_If ((I 120 q1) = (-1 : Int32)) (am_To (am_XX L xs) d 141 191 [some (.ref 95), none, some (.int x2), some (.int x3), some (.int x4), some (.int x5), some (.int s0), some (.int x7), some (.int x8), some (.int x9), none] [.int (0 : Int32)] I J P) (am_Ix x9 6 fun q2 => am_Ix (I 120 q2) 6 fun q3 => am_Ix x9 6 fun q4 => am_Ix (((24 : Int32) * (I 119 q3)) + (I 119 q4)) 576 fun q5 => am_To (am_XX L xs) d 141 191 [some (.ref 95), none, some (.int x2), some (.int x3), some (.int x4), some (.int x5), some (.int s0), some (.int x7), some (.int x8), some (.int x9), none] [.int (I 113 q5)] I J P)) : am_To (am_XX L xs) d 141 146 [some (.ref 95), none, some (.int x2), some (.int x3), some (.int x4), some (.int x5), none, some (.int x7), some (.int x8), some (.int x9), none] [.int s0] I J P := by
  obtain ⟨q1, j1, h⟩ := h
  by_cases c2 : (I 120 q1) = (-1 : Int32)
  · replace h := h.1 c2
    exact am_path 9 (fun n => (am_bs j1).trans ((if_pos c2).trans (rfl))) (am_lv (am_ln (am_lv (am_lv (am_lv (am_lv (am_lv (am_lv (am_lv (am_lv (am_ln (am_l0)))))))))))) h
  · replace h := h.2 c2
    obtain ⟨q2, j3, h⟩ := h
    obtain ⟨q3, j4, h⟩ := h
    obtain ⟨q4, j5, h⟩ := h
    obtain ⟨q5, j6, h⟩ := h
    exact am_path 24 (fun n => (am_bs j1).trans ((if_neg c2).trans ((am_bs j3).trans ((am_bs j4).trans ((am_bs j5).trans ((am_bs j6).trans (rfl))))))) (am_lv (am_ln (am_lv (am_lv (am_lv (am_lv (am_lv (am_lv (am_lv (am_lv (am_ln (am_l0)))))))))))) h
theorem bk_141_191 {L : Nat} {xs : Nat → Int32} {d : Nat} {P : Option Value → am_I → am_J → Prop} (x2 : Int32) (x3 : Int32) (x4 : Int32) (x5 : Int32) (x6 : Int32) (x7 : Int32) (x8 : Int32) (x9 : Int32) (s0 : Int32) (I : am_I) (J : am_J)  (h : am_If (x8 = 0) (am_To (am_XX L xs) d 141 218 [some (.ref 95), none, some (.int x2), some (.int x3), some (.int x4), some (.int x5), some (.int x6), some (.int x7), none, some (.int x9), some (.int s0)] [] I J P) (am_Ix x9 6 fun q1 => am_If ((I 120 q1) = (-1 : Int32)) (am_To (am_XX L xs) d 141 214 [some (.ref 95), none, some (.int x2), some (.int x3), some (.int x4), some (.int x5), some (.int x6), some (.int x7), none, some (.int x9), some (.int s0)] [] I J P) (am_If (s0 ≤ 0) (am_To (am_XX L xs) d 141 218 [some (.ref 95), none, some (.int x2), some (.int x3), some (.int x4), some (.int x5), some (.int x6), some (.int x7), none, some (.int x9), some (.int s0)] [] I J P) (am_To (am_XX L xs) d 141 214 [some (.ref 95), none, some (.int x2), some (.int x3), some (.int x4), some (.int x5), some (.int x6), some (.int x7), none, some (.int x9), some (.int s0)] [] I J P)))) : am_To (am_XX L xs) d 141 191 [some (.ref 95), none, some (.int x2), some (.int x3), some (.int x4), some (.int x5), some (.int x6), some (.int x7), some (.int x8), some (.int x9), none] [.int s0] I J P := by
  by_cases c1 : x8 = 0
  · replace h := h.1 c1
    exact am_path 3 (fun n => (if_pos c1).trans (rfl)) (am_lv (am_ln (am_lv (am_lv (am_lv (am_lv (am_lv (am_lv (am_ln (am_lv (am_lv (am_l0)))))))))))) h
  · replace h := h.2 c1
    obtain ⟨q1, j2, h⟩ := h
    by_cases c3 : (I 120 q1) = (-1 : Int32)
    · replace h := h.1 c3
      exact am_path 9 (fun n => (if_neg c1).trans ((am_bs j2).trans ((if_pos c3).trans (rfl)))) (am_lv (am_ln (am_lv (am_lv (am_lv (am_lv (am_lv (am_lv (am_ln (am_lv (am_lv (am_l0)))))))))))) h
    · replace h := h.2 c3
      by_cases c4 : s0 ≤ 0
      · replace h := h.1 c4
        exact am_path 11 (fun n => (if_neg c1).trans ((am_bs j2).trans ((if_neg c3).trans ((if_pos c4).trans (rfl))))) (am_lv (am_ln (am_lv (am_lv (am_lv (am_lv (am_lv (am_lv (am_ln (am_lv (am_lv (am_l0)))))))))))) h
      · replace h := h.2 c4
        exact am_path 11 (fun n => (if_neg c1).trans ((am_bs j2).trans ((if_neg c3).trans ((if_neg c4).trans (rfl))))) (am_lv (am_ln (am_lv (am_lv (am_lv (am_lv (am_lv (am_lv (am_ln (am_lv (am_lv (am_l0)))))))))))) h
theorem bk_141_218 {L : Nat} {xs : Nat → Int32} {d : Nat} {P : Option Value → am_I → am_J → Prop} (x2 : Int32) (x3 : Int32) (x4 : Int32) (x5 : Int32) (x6 : Int32) (x7 : Int32) (x9 : Int32) (x10 : Int32) (I : am_I) (J : am_J)  (h : am_To (am_XX L xs) d 141 219 [some (.ref 95), none, some (.int x2), some (.int x3), some (.int x4), some (.int x5), some (.int x6), some (.int x7), none, some (.int x9), some (.int x10)] [.int (0 : Int32)] I J P) : am_To (am_XX L xs) d 141 218 [some (.ref 95), none, some (.int x2), some (.int x3), some (.int x4), some (.int x5), some (.int x6), some (.int x7), none, some (.int x9), some (.int x10)] [] I J P := by
  exact am_path 1 (fun n => rfl) (am_lv (am_ln (am_lv (am_lv (am_lv (am_lv (am_lv (am_lv (am_ln (am_lv (am_lv (am_l0)))))))))))) h
theorem bk_141_214 {L : Nat} {xs : Nat → Int32} {d : Nat} {P : Option Value → am_I → am_J → Prop} (x2 : Int32) (x3 : Int32) (x4 : Int32) (x5 : Int32) (x6 : Int32) (x7 : Int32) (x9 : Int32) (x10 : Int32) (I : am_I) (J : am_J)  (h : am_To (am_XX L xs) d 141 219 [some (.ref 95), none, some (.int x2), some (.int x3), some (.int x4), some (.int x5), some (.int x6), some (.int x7), none, some (.int x9), some (.int x10)] [.int (1 : Int32)] I J P) : am_To (am_XX L xs) d 141 214 [some (.ref 95), none, some (.int x2), some (.int x3), some (.int x4), some (.int x5), some (.int x6), some (.int x7), none, some (.int x9), some (.int x10)] [] I J P := by
  exact am_path 2 (fun n => rfl) (am_lv (am_ln (am_lv (am_lv (am_lv (am_lv (am_lv (am_lv (am_ln (am_lv (am_lv (am_l0)))))))))))) h
theorem bk_141_219 {L : Nat} {xs : Nat → Int32} {d : Nat} {P : Option Value → am_I → am_J → Prop} (x2 : Int32) (x3 : Int32) (x4 : Int32) (x5 : Int32) (x6 : Int32) (x7 : Int32) (x9 : Int32) (x10 : Int32) (s0 : Int32) (I : am_I) (J : am_J)  (h : am_To (am_XX L xs) d 141 112 [some (.ref 95), none, some (.int x2), some (.int x3), some (.int x4), some (.int x5), some (.int x6), some (.int (x7 + x10)), some (.int s0), some (.int (x9 + (1 : Int32))), none] [] I J P) : am_To (am_XX L xs) d 141 219 [some (.ref 95), none, some (.int x2), some (.int x3), some (.int x4), some (.int x5), some (.int x6), some (.int x7), none, some (.int x9), some (.int x10)] [.int s0] I J P := by
  exact am_path 7 (fun n => rfl) (am_lv (am_ln (am_lv (am_lv (am_lv (am_lv (am_lv (am_lv (am_lv (am_lv (am_ln (am_l0)))))))))))) h
theorem bk_142_0 {L : Nat} {xs : Nat → Int32} {d : Nat} {P : Option Value → am_I → am_J → Prop} (x1 : Int32) (I : am_I) (J : am_J)  (h : am_To (am_XX L xs) d 142 2 [some (.ref 95), some (.int x1), some (.int (0 : Int32)), none, none] [] I J P) : am_To (am_XX L xs) d 142 0 [some (.ref 95), some (.int x1), none, none, none] [] I J P := by
  exact am_path 2 (fun n => rfl) (am_lv (am_lv (am_lv (am_ln (am_ln (am_l0)))))) h
theorem bk_142_2 {L : Nat} {xs : Nat → Int32} {d : Nat} {P : Option Value → am_I → am_J → Prop} (x1 : Int32) (x2 : Int32) (I : am_I) (J : am_J)  (h : am_If (x1 ≤ x2) (P (some (.int (1 : Int32))) I J) (am_Ix x2 6 fun q1 => am_To (am_XX L xs) d 142 17 [some (.ref 95), some (.int x1), some (.int x2), some (.int (0 : Int32)), some (.int (I 120 q1))] [] I J P)) : am_To (am_XX L xs) d 142 2 [some (.ref 95), some (.int x1), some (.int x2), none, none] [] I J P := by
  by_cases c1 : x1 ≤ x2
  · replace h := h.1 c1
    exact am_pret 5 (fun n => (if_pos c1).trans (rfl)) h
  · replace h := h.2 c1
    obtain ⟨q1, j2, h⟩ := h
    exact am_path 10 (fun n => (if_neg c1).trans ((am_bs j2).trans (rfl))) (am_lv (am_lv (am_lv (am_lv (am_lv (am_l0)))))) h
theorem bk_142_17 {L : Nat} {xs : Nat → Int32} {d : Nat} {P : Option Value → am_I → am_J → Prop} (x1 : Int32) (x2 : Int32) (x3 : Int32) (x4 : Int32) (I : am_I) (J : am_J)  (h : am_If (x4 = (-1 : Int32)) (am_To (am_XX L xs) (d + 1) 142 2 [some (.ref 95), some (.int x1), some (.int (x2 + (1 : Int32))), none, none] [] I J P) (am_If (x1 < (x3 + (1 : Int32))) (P (some (.int (0 : Int32))) I J) (am_Ix x4 6 fun q1 => am_Ix x2 6 fun q2 => am_To (am_XX L xs) d 143 0 [some (.ref 95), some (.int (I 119 q1)), some (.int (I 119 q2)), none, none] [] I J (fun r I2 J2 => am_To (am_XX L xs) (d + 1) 142 48 [some (.ref 95), some (.int x1), some (.int x2), some (.int (x3 + (1 : Int32))), some (.int x4)] (r.toList ++ []) I2 J2 P)))) : am_To (am_XX L xs) (d + 1) 142 17 [some (.ref 95), some (.int x1), some (.int x2), some (.int x3), some (.int x4)] [] I J P := by
  by_cases c1 : x4 = (-1 : Int32)
  · replace h := h.1 c1
    exact am_path 5 (fun n => (if_pos c1).trans (rfl)) (am_lv (am_lv (am_lv (am_ln (am_ln (am_l0)))))) h
  · replace h := h.2 c1
    by_cases c2 : x1 < (x3 + (1 : Int32))
    · replace h := h.1 c2
      exact am_pret 9 (fun n => (if_neg c1).trans ((if_pos c2).trans (rfl))) h
    · replace h := h.2 c2
      obtain ⟨q1, j3, h⟩ := h
      obtain ⟨q2, j4, h⟩ := h
      exact am_pcall 17 (fun n => (if_neg c1).trans ((if_neg c2).trans ((am_bs j3).trans ((am_bs j4).trans (rfl))))) (am_lv (am_lv (am_lv (am_lv (am_lv (am_l0)))))) h
theorem bk_142_48 {L : Nat} {xs : Nat → Int32} {d : Nat} {P : Option Value → am_I → am_J → Prop} (x1 : Int32) (x2 : Int32) (x3 : Int32) (x4 : Int32) (s0 : Int32) (I : am_I) (J : am_J)  (h : am_If (s0 = 0) (am_Ix x4 6 fun q1 => am_To (am_XX L xs) d 142 17 [some (.ref 95), some (.int x1), some (.int x2), some (.int x3), some (.int (I 120 q1))] [] I J P) (P (some (.int (0 : Int32))) I J)) : am_To (am_XX L xs) d 142 48 [some (.ref 95), some (.int x1), some (.int x2), some (.int x3), some (.int x4)] [.int s0] I J P := by
  by_cases c1 : s0 = 0
  · replace h := h.1 c1
    obtain ⟨q1, j2, h⟩ := h
    exact am_path 7 (fun n => (if_pos c1).trans ((am_bs j2).trans (rfl))) (am_lv (am_lv (am_lv (am_lv (am_lv (am_l0)))))) h
  · replace h := h.2 c1
    exact am_pret 3 (fun n => (if_neg c1).trans (rfl)) h
theorem bk_143_0 {L : Nat} {xs : Nat → Int32} {d : Nat} {P : Option Value → am_I → am_J → Prop} (x1 : Int32) (x2 : Int32) (I : am_I) (J : am_J)  (h : am_To (am_XX L xs) d 143 5 [some (.ref 95), some (.int x1), some (.int x2), some (.int (0 : Int32)), some (.int (0 : Int32))] [] I J P) : am_To (am_XX L xs) d 143 0 [some (.ref 95), some (.int x1), some (.int x2), none, none] [] I J P := by
  exact am_path 4 (fun n => rfl) (am_lv (am_lv (am_lv (am_lv (am_lv (am_l0)))))) h
theorem bk_143_5 {L : Nat} {xs : Nat → Int32} {d : Nat} {P : Option Value → am_I → am_J → Prop} (x1 : Int32) (x2 : Int32) (x3 : Int32) (x4 : Int32) (I : am_I) (J : am_J)  (h : am_If ((I 95 3) ≤ x4) ((x3 = 0 ∨ x3 = 1) ∧ P (some (.int x3)) I J) (am_If (x3 = 0) (am_Ix x4 60 fun q1 => am_If ((I 106 q1) = (3 : Int32)) (am_Ix x4 60 fun q2 => am_If ((I 107 q2) = x1) (am_Ix x4 60 fun q3 => am_If ((I 108 q3) = x2) (am_To (am_XX L xs) d 143 51 [some (.ref 95), some (.int x1), some (.int x2), none, some (.int x4)] [] I J P) (am_To (am_XX L xs) d 143 55 [some (.ref 95), some (.int x1), some (.int x2), none, some (.int x4)] [] I J P)) (am_To (am_XX L xs) d 143 55 [some (.ref 95), some (.int x1), some (.int x2), none, some (.int x4)] [] I J P)) (am_To (am_XX L xs) d 143 55 [some (.ref 95), some (.int x1), some (.int x2), none, some (.int x4)] [] I J P)) (am_To (am_XX L xs) d 143 51 [some (.ref 95), some (.int x1), some (.int x2), none, some (.int x4)] [] I J P))) : am_To (am_XX L xs) d 143 5 [some (.ref 95), some (.int x1), some (.int x2), some (.int x3), some (.int x4)] [] I J P := by
  by_cases c1 : (I 95 3) ≤ x4
  · replace h := h.1 c1
    exact am_pret 6 (fun n => (if_pos c1).trans ((if_pos h.1).trans (rfl))) h.2
  · replace h := h.2 c1
    by_cases c2 : x3 = 0
    · replace h := h.1 c2
      obtain ⟨q1, j3, h⟩ := h
      by_cases c4 : (I 106 q1) = (3 : Int32)
      · replace h := h.1 c4
        obtain ⟨q2, j5, h⟩ := h
        by_cases c6 : (I 107 q2) = x1
        · replace h := h.1 c6
          obtain ⟨q3, j7, h⟩ := h
          by_cases c8 : (I 108 q3) = x2
          · replace h := h.1 c8
            exact am_path 24 (fun n => (if_neg c1).trans ((if_pos c2).trans ((am_bs j3).trans ((if_pos c4).trans ((am_bs j5).trans ((if_pos c6).trans ((am_bs j7).trans ((if_pos c8).trans (rfl))))))))) (am_lv (am_lv (am_lv (am_ln (am_lv (am_l0)))))) h
          · replace h := h.2 c8
            exact am_path 24 (fun n => (if_neg c1).trans ((if_pos c2).trans ((am_bs j3).trans ((if_pos c4).trans ((am_bs j5).trans ((if_pos c6).trans ((am_bs j7).trans ((if_neg c8).trans (rfl))))))))) (am_lv (am_lv (am_lv (am_ln (am_lv (am_l0)))))) h
        · replace h := h.2 c6
          exact am_path 18 (fun n => (if_neg c1).trans ((if_pos c2).trans ((am_bs j3).trans ((if_pos c4).trans ((am_bs j5).trans ((if_neg c6).trans (rfl))))))) (am_lv (am_lv (am_lv (am_ln (am_lv (am_l0)))))) h
      · replace h := h.2 c4
        exact am_path 12 (fun n => (if_neg c1).trans ((if_pos c2).trans ((am_bs j3).trans ((if_neg c4).trans (rfl))))) (am_lv (am_lv (am_lv (am_ln (am_lv (am_l0)))))) h
    · replace h := h.2 c2
      exact am_path 6 (fun n => (if_neg c1).trans ((if_neg c2).trans (rfl))) (am_lv (am_lv (am_lv (am_ln (am_lv (am_l0)))))) h
theorem bk_143_51 {L : Nat} {xs : Nat → Int32} {d : Nat} {P : Option Value → am_I → am_J → Prop} (x1 : Int32) (x2 : Int32) (x4 : Int32) (I : am_I) (J : am_J)  (h : am_To (am_XX L xs) d 143 5 [some (.ref 95), some (.int x1), some (.int x2), some (.int (1 : Int32)), some (.int (x4 + (1 : Int32)))] [] I J P) : am_To (am_XX L xs) d 143 51 [some (.ref 95), some (.int x1), some (.int x2), none, some (.int x4)] [] I J P := by
  exact am_path 5 (fun n => rfl) (am_lv (am_lv (am_lv (am_lv (am_lv (am_l0)))))) h
theorem bk_143_55 {L : Nat} {xs : Nat → Int32} {d : Nat} {P : Option Value → am_I → am_J → Prop} (x1 : Int32) (x2 : Int32) (x4 : Int32) (I : am_I) (J : am_J)  (h : am_To (am_XX L xs) d 143 5 [some (.ref 95), some (.int x1), some (.int x2), some (.int (0 : Int32)), some (.int (x4 + (1 : Int32)))] [] I J P) : am_To (am_XX L xs) d 143 55 [some (.ref 95), some (.int x1), some (.int x2), none, some (.int x4)] [] I J P := by
  exact am_path 4 (fun n => rfl) (am_lv (am_lv (am_lv (am_lv (am_lv (am_l0)))))) h
theorem bk_144_0 {L : Nat} {xs : Nat → Int32} {d : Nat} {P : Option Value → am_I → am_J → Prop}  (I : am_I) (J : am_J)  (h : am_To (am_XX L xs) d 123 0 [some (.ref 95), none, none, none] [] I J (fun r I2 J2 => am_To (am_XX L xs) (d + 1) 144 4 [some (.ref 95), none] (r.toList ++ []) I2 J2 P)) : am_To (am_XX L xs) (d + 1) 144 0 [some (.ref 95), none] [] I J P := by
  exact am_pcall 2 (fun n => rfl) (am_lv (am_ln (am_l0))) h
theorem bk_144_4 {L : Nat} {xs : Nat → Int32} {d : Nat} {P : Option Value → am_I → am_J → Prop}  (I : am_I) (J : am_J)  (h : am_To (am_XX L xs) d 144 19 [some (.ref 95), some (.int (0 : Int32))] [] (am_up (am_up I 95 33 (1 : Int32)) 95 32 ((am_up I 95 33 (1 : Int32)) 95 26)) J P) : am_To (am_XX L xs) d 144 4 [some (.ref 95), none] [] I J P := by
  exact am_path 9 (fun n => rfl) (am_lv (am_lv (am_l0))) h
theorem bk_144_19 {L : Nat} {xs : Nat → Int32} {d : Nat} {P : Option Value → am_I → am_J → Prop} (x1 : Int32) (I : am_I) (J : am_J)  (h : am_If ((24 : Int32) ≤ x1) (P (some (.int (I 95 26))) I J) (am_Ix x1 24 fun q1 => am_Ix x1 24 fun q2 => am_To (am_XX L xs) d 144 19 [some (.ref 95), some (.int (x1 + (1 : Int32)))] [] (am_up I 121 q2 (I 115 q1)) J P)) : am_To (am_XX L xs) d 144 19 [some (.ref 95), some (.int x1)] [] I J P := by
  by_cases c1 : (24 : Int32) ≤ x1
  · replace h := h.1 c1
    exact am_pret 6 (fun n => (if_pos c1).trans (rfl)) h
  · replace h := h.2 c1
    obtain ⟨q1, j2, h⟩ := h
    obtain ⟨q2, j3, h⟩ := h
    exact am_path 13 (fun n => (if_neg c1).trans ((am_bs j2).trans ((am_bs j3).trans (rfl)))) (am_lv (am_lv (am_l0))) h
theorem bk_145_0 {L : Nat} {xs : Nat → Int32} {d : Nat} {P : Option Value → am_I → am_J → Prop} (x1 : Int32) (I : am_I) (J : am_J)  (h : am_If ((I 95 33) = 0) (P (some (.int (-1 : Int32))) I J) (am_To (am_XX L xs) d 102 0 [some (.int x1), some (.int (0 : Int32)), some (.int (3 : Int32))] [] I J (fun r I2 J2 => am_To (am_XX L xs) (d + 1) 145 13 [some (.ref 95), some (.int x1), none, none, none] (r.toList ++ []) I2 J2 P))) : am_To (am_XX L xs) (d + 1) 145 0 [some (.ref 95), some (.int x1), none, none, none] [] I J P := by
  by_cases c1 : (I 95 33) = 0
  · replace h := h.1 c1
    exact am_pret 5 (fun n => (if_pos c1).trans (rfl)) h
  · replace h := h.2 c1
    exact am_pcall 7 (fun n => (if_neg c1).trans (rfl)) (am_lv (am_lv (am_ln (am_ln (am_ln (am_l0)))))) h
theorem bk_145_13 {L : Nat} {xs : Nat → Int32} {d : Nat} {P : Option Value → am_I → am_J → Prop} (x1 : Int32) (s0 : Int32) (I : am_I) (J : am_J)  (h : am_If (s0 = 0) (P (some (.int (-1 : Int32))) I J) (am_To (am_XX L xs) d 123 0 [some (.ref 95), none, none, none] [] I J (fun r I2 J2 => am_To (am_XX L xs) (d + 1) 145 22 [some (.ref 95), some (.int x1), none, none, none] (r.toList ++ []) I2 J2 P))) : am_To (am_XX L xs) (d + 1) 145 13 [some (.ref 95), some (.int x1), none, none, none] [.int s0] I J P := by
  by_cases c1 : s0 = 0
  · replace h := h.1 c1
    exact am_pret 3 (fun n => (if_pos c1).trans (rfl)) h
  · replace h := h.2 c1
    exact am_pcall 3 (fun n => (if_neg c1).trans (rfl)) (am_lv (am_lv (am_ln (am_ln (am_ln (am_l0)))))) h
theorem bk_145_22 {L : Nat} {xs : Nat → Int32} {d : Nat} {P : Option Value → am_I → am_J → Prop} (x1 : Int32) (I : am_I) (J : am_J)  (h : am_To (am_XX L xs) d 145 29 [some (.ref 95), some (.int x1), some (.int (0 : Int32)), some (.int (0 : Int32)), some (.int (0 : Int32))] [] I J P) : am_To (am_XX L xs) d 145 22 [some (.ref 95), some (.int x1), none, none, none] [] I J P := by
  exact am_path 6 (fun n => rfl) (am_lv (am_lv (am_lv (am_lv (am_lv (am_l0)))))) h
theorem bk_145_29 {L : Nat} {xs : Nat → Int32} {d : Nat} {P : Option Value → am_I → am_J → Prop} (x1 : Int32) (x2 : Int32) (x3 : Int32) (x4 : Int32) (I : am_I) (J : am_J)  (h : am_If ((I 95 2) ≤ x4) (am_If (x1 = 0) (P (some (.int x2)) I J) (am_If (x1 = (1 : Int32)) (P (some (.int ((I 95 32) - x2))) I J) (am_If (x1 = (2 : Int32)) (P (some (.int ((I 95 26) - x2))) I J) (P (some (.int x3)) I J)))) (am_Ix x4 24 fun q1 => am_If ((I 121 q1) = (-1 : Int32)) (am_To (am_XX L xs) d 145 29 [some (.ref 95), some (.int x1), some (.int x2), some (.int x3), some (.int (x4 + (1 : Int32)))] [] I J P) (am_Ix x4 24 fun q2 => am_Ix x4 24 fun q3 => am_If ((I 121 q2) = (I 115 q3)) (am_To (am_XX L xs) d 145 75 [some (.ref 95), some (.int x1), none, some (.int x3), some (.int x4)] [.int (1 : Int32), .int x2] I J P) (am_To (am_XX L xs) d 145 75 [some (.ref 95), some (.int x1), none, some (.int x3), some (.int x4)] [.int (0 : Int32), .int x2] I J P)))) : am_To (am_XX L xs) d 145 29 [some (.ref 95), some (.int x1), some (.int x2), some (.int x3), some (.int x4)] [] I J P := by
  by_cases c1 : (I 95 2) ≤ x4
  · replace h := h.1 c1
    by_cases c2 : x1 = 0
    · replace h := h.1 c2
      exact am_pret 9 (fun n => (if_pos c1).trans ((if_pos c2).trans (rfl))) h
    · replace h := h.2 c2
      by_cases c3 : x1 = (1 : Int32)
      · replace h := h.1 c3
        exact am_pret 15 (fun n => (if_pos c1).trans ((if_neg c2).trans ((if_pos c3).trans (rfl)))) h
      · replace h := h.2 c3
        by_cases c4 : x1 = (2 : Int32)
        · replace h := h.1 c4
          exact am_pret 18 (fun n => (if_pos c1).trans ((if_neg c2).trans ((if_neg c3).trans ((if_pos c4).trans (rfl))))) h
        · replace h := h.2 c4
          exact am_pret 14 (fun n => (if_pos c1).trans ((if_neg c2).trans ((if_neg c3).trans ((if_neg c4).trans (rfl))))) h
  · replace h := h.2 c1
    obtain ⟨q1, j5, h⟩ := h
    by_cases c6 : (I 121 q1) = (-1 : Int32)
    · replace h := h.1 c6
      exact am_path 13 (fun n => (if_neg c1).trans ((am_bs j5).trans ((if_pos c6).trans (rfl)))) (am_lv (am_lv (am_lv (am_lv (am_lv (am_l0)))))) h
    · replace h := h.2 c6
      obtain ⟨q2, j7, h⟩ := h
      obtain ⟨q3, j8, h⟩ := h
      by_cases c9 : (I 121 q2) = (I 115 q3)
      · replace h := h.1 c9
        exact am_path 22 (fun n => (if_neg c1).trans ((am_bs j5).trans ((if_neg c6).trans ((am_bs j7).trans ((am_bs j8).trans ((if_pos c9).trans (rfl))))))) (am_lv (am_lv (am_ln (am_lv (am_lv (am_l0)))))) h
      · replace h := h.2 c9
        exact am_path 21 (fun n => (if_neg c1).trans ((am_bs j5).trans ((if_neg c6).trans ((am_bs j7).trans ((am_bs j8).trans ((if_neg c9).trans (rfl))))))) (am_lv (am_lv (am_ln (am_lv (am_lv (am_l0)))))) h
theorem bk_145_75 {L : Nat} {xs : Nat → Int32} {d : Nat} {P : Option Value → am_I → am_J → Prop} (x1 : Int32) (x3 : Int32) (x4 : Int32) (s0 : Int32) (s1 : Int32) (I : am_I) (J : am_J)  (h : am_To (am_XX L xs) d 131 0 [some (.int s1)] [] I J (fun r I2 J2 => am_To (am_XX L xs) (d + 1) 145 78 [some (.ref 95), some (.int x1), none, some (.int x3), some (.int x4)] (r.toList ++ [.int s0]) I2 J2 P)) : am_To (am_XX L xs) (d + 1) 145 75 [some (.ref 95), some (.int x1), none, some (.int x3), some (.int x4)] [.int s1, .int s0] I J P := by
  exact am_pcall 1 (fun n => rfl) (am_lv (am_lv (am_ln (am_lv (am_lv (am_l0)))))) h
theorem bk_145_78 {L : Nat} {xs : Nat → Int32} {d : Nat} {P : Option Value → am_I → am_J → Prop} (x1 : Int32) (x3 : Int32) (x4 : Int32) (s0 : Int32) (s1 : Int32) (I : am_I) (J : am_J)  (h : am_Ix x4 24 fun q1 => am_To (am_XX L xs) d 128 0 [some (.ref 95), some (.int x4), some (.int (I 121 q1)), none] [] I J (fun r I2 J2 => am_To (am_XX L xs) (d + 1) 145 94 [some (.ref 95), some (.int x1), some (.int (s0 + s1)), none, some (.int x4)] (r.toList ++ [.int x3]) I2 J2 P)) : am_To (am_XX L xs) (d + 1) 145 78 [some (.ref 95), some (.int x1), none, some (.int x3), some (.int x4)] [.int s1, .int s0] I J P := by
  obtain ⟨q1, j1, h⟩ := h
  exact am_pcall 10 (fun n => (am_bs j1).trans (rfl)) (am_lv (am_lv (am_lv (am_ln (am_lv (am_l0)))))) h
theorem bk_145_94 {L : Nat} {xs : Nat → Int32} {d : Nat} {P : Option Value → am_I → am_J → Prop} (x1 : Int32) (x2 : Int32) (x4 : Int32) (s0 : Int32) (s1 : Int32) (I : am_I) (J : am_J)  (h : am_To (am_XX L xs) d 131 0 [some (.int s1)] [] I J (fun r I2 J2 => am_To (am_XX L xs) (d + 1) 145 97 [some (.ref 95), some (.int x1), some (.int x2), none, some (.int x4)] (r.toList ++ [.int s0]) I2 J2 P)) : am_To (am_XX L xs) (d + 1) 145 94 [some (.ref 95), some (.int x1), some (.int x2), none, some (.int x4)] [.int s1, .int s0] I J P := by
  exact am_pcall 1 (fun n => rfl) (am_lv (am_lv (am_lv (am_ln (am_lv (am_l0)))))) h
theorem bk_145_97 {L : Nat} {xs : Nat → Int32} {d : Nat} {P : Option Value → am_I → am_J → Prop} (x1 : Int32) (x2 : Int32) (x4 : Int32) (s0 : Int32) (s1 : Int32) (I : am_I) (J : am_J)  (h : am_To (am_XX L xs) d 145 29 [some (.ref 95), some (.int x1), some (.int x2), some (.int (s0 + s1)), some (.int (x4 + (1 : Int32)))] [] I J P) : am_To (am_XX L xs) d 145 97 [some (.ref 95), some (.int x1), some (.int x2), none, some (.int x4)] [.int s1, .int s0] I J P := by
  exact am_path 4 (fun n => rfl) (am_lv (am_lv (am_lv (am_lv (am_lv (am_l0)))))) h
