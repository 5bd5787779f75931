set_option maxRecDepth 100000
set_option maxHeartbeats 4000000
theorem bk_146_0 {L : Nat} {xs : Nat → Int32} {d : Nat} {P : Option Value → am_I → am_J → Prop} (x1 : Int32) (I : am_I) (J : am_J)  (h : am_To (am_XX L xs) d 146 (am_sw 133 x1 [(0, 40), (1, 45), (2, 73), (3, 78), (4, 83), (5, 92)]) [some (.ref 95), none, some (.int (0 : Int32)), none] [] I J P) : am_To (am_XX L xs) d 146 0 [some (.ref 95), some (.int x1), none, none] [] I J P := by
  exact am_path 4 (fun n => rfl) (am_lv (am_ln (am_lv (am_ln (am_l0))))) h
theorem bk_146_40 {L : Nat} {xs : Nat → Int32} {d : Nat} {P : Option Value → am_I → am_J → Prop}  (I : am_I) (J : am_J)  (h : P (some (.int (I 95 2))) I J) : am_To (am_XX L xs) d 146 40 [some (.ref 95), none, none, none] [] I J P := by
  exact am_pret 3 (fun n => rfl) h
theorem bk_146_45 {L : Nat} {xs : Nat → Int32} {d : Nat} {P : Option Value → am_I → am_J → Prop} (x2 : Int32) (I : am_I) (J : am_J)  (h : am_To (am_XX L xs) d 146 47 [some (.ref 95), none, some (.int x2), some (.int (0 : Int32))] [] I J P) : am_To (am_XX L xs) d 146 45 [some (.ref 95), none, some (.int x2), none] [] I J P := by
  exact am_path 2 (fun n => rfl) (am_lv (am_ln (am_lv (am_lv (am_l0))))) h
theorem bk_146_73 {L : Nat} {xs : Nat → Int32} {d : Nat} {P : Option Value → am_I → am_J → Prop}  (I : am_I) (J : am_J)  (h : P (some (.int (I 95 3))) I J) : am_To (am_XX L xs) d 146 73 [some (.ref 95), none, none, none] [] I J P := by
  exact am_pret 3 (fun n => rfl) h
theorem bk_146_78 {L : Nat} {xs : Nat → Int32} {d : Nat} {P : Option Value → am_I → am_J → Prop}  (I : am_I) (J : am_J)  (h : P (some (.int (I 95 1))) I J) : am_To (am_XX L xs) d 146 78 [some (.ref 95), none, none, none] [] I J P := by
  exact am_pret 3 (fun n => rfl) h
theorem bk_146_83 {L : Nat} {xs : Nat → Int32} {d : Nat} {P : Option Value → am_I → am_J → Prop}  (I : am_I) (J : am_J)  (h : am_To (am_XX L xs) d 123 0 [some (.ref 95), none, none, none] [] I J (fun r I2 J2 => am_To (am_XX L xs) (d + 1) 146 87 [some (.ref 95), none, none, none] (r.toList ++ []) I2 J2 P)) : am_To (am_XX L xs) (d + 1) 146 83 [some (.ref 95), none, none, none] [] I J P := by
  exact am_pcall 2 (fun n => rfl) (am_lv (am_ln (am_ln (am_ln (am_l0))))) h
theorem bk_146_92 {L : Nat} {xs : Nat → Int32} {d : Nat} {P : Option Value → am_I → am_J → Prop} (x2 : Int32) (I : am_I) (J : am_J)  (h : am_To (am_XX L xs) d 124 0 [some (.ref 95), none, none] [] I J (fun r I2 J2 => am_To (am_XX L xs) (d + 1) 146 96 [some (.ref 95), none, some (.int x2), none] (r.toList ++ []) I2 J2 P)) : am_To (am_XX L xs) (d + 1) 146 92 [some (.ref 95), none, some (.int x2), none] [] I J P := by
  exact am_pcall 2 (fun n => rfl) (am_lv (am_ln (am_lv (am_ln (am_l0))))) h
theorem bk_146_133 {L : Nat} {xs : Nat → Int32} {d : Nat} {P : Option Value → am_I → am_J → Prop}  (I : am_I) (J : am_J)  (h : P (some (.int (-1 : Int32))) I J) : am_To (am_XX L xs) d 146 133 [none, none, none, none] [] I J P := by
  exact am_pret 2 (fun n => rfl) h
theorem bk_146_47 {L : Nat} {xs : Nat → Int32} {d : Nat} {P : Option Value → am_I → am_J → Prop} (x2 : Int32) (x3 : Int32) (I : am_I) (J : am_J)  (h : am_If ((12 : Int32) ≤ x3) (P (some (.int x2)) I J) (am_Ix x3 12 fun q1 => am_To (am_XX L xs) d 131 0 [some (.int (I 98 q1))] [] I J (fun r I2 J2 => am_To (am_XX L xs) (d + 1) 146 63 [some (.ref 95), none, none, some (.int x3)] (r.toList ++ [.int x2]) I2 J2 P))) : am_To (am_XX L xs) (d + 1) 146 47 [some (.ref 95), none, some (.int x2), some (.int x3)] [] I J P := by
  by_cases c1 : (12 : Int32) ≤ x3
  · replace h := h.1 c1
    exact am_pret 5 (fun n => (if_pos c1).trans (rfl)) h
  · replace h := h.2 c1
    obtain ⟨q1, j2, h⟩ := h
    exact am_pcall 9 (fun n => (if_neg c1).trans ((am_bs j2).trans (rfl))) (am_lv (am_ln (am_ln (am_lv (am_l0))))) h
theorem bk_146_87 {L : Nat} {xs : Nat → Int32} {d : Nat} {P : Option Value → am_I → am_J → Prop}  (I : am_I) (J : am_J)  (h : P (some (.int (I 95 26))) I J) : am_To (am_XX L xs) d 146 87 [some (.ref 95), none, none, none] [] I J P := by
  exact am_pret 3 (fun n => rfl) h
theorem bk_146_96 {L : Nat} {xs : Nat → Int32} {d : Nat} {P : Option Value → am_I → am_J → Prop} (x2 : Int32) (I : am_I) (J : am_J)  (h : am_To (am_XX L xs) d 146 98 [some (.ref 95), none, some (.int x2), some (.int (0 : Int32))] [] I J P) : am_To (am_XX L xs) d 146 96 [some (.ref 95), none, some (.int x2), none] [] I J P := by
  exact am_path 2 (fun n => rfl) (am_lv (am_ln (am_lv (am_lv (am_l0))))) h
theorem bk_146_63 {L : Nat} {xs : Nat → Int32} {d : Nat} {P : Option Value → am_I → am_J → Prop} (x3 : Int32) (s0 : Int32) (s1 : Int32) (I : am_I) (J : am_J)  (h : am_To (am_XX L xs) d 146 47 [some (.ref 95), none, some (.int (s0 + s1)), some (.int (x3 + (1 : Int32)))] [] I J P) : am_To (am_XX L xs) d 146 63 [some (.ref 95), none, none, some (.int x3)] [.int s1, .int s0] I J P := by
  exact am_path 4 (fun n => rfl) (am_lv (am_ln (am_lv (am_lv (am_l0))))) h
theorem bk_146_98 {L : Nat} {xs : Nat → Int32} {d : Nat} {P : Option Value → am_I → am_J → Prop} (x2 : Int32) (x3 : Int32) (I : am_I) (J : am_J)  (h : am_If ((576 : Int32) ≤ x3) (P (some (.int x2)) I J) (am_Ix x3 576 fun q1 => am_If ((I 113 q1) ≤ 0) (am_To (am_XX L xs) d 146 120 [some (.ref 95), none, none, some (.int x3)] [.int (0 : Int32), .int x2] I J P) (am_To (am_XX L xs) d 146 120 [some (.ref 95), none, none, some (.int x3)] [.int (1 : Int32), .int x2] I J P))) : am_To (am_XX L xs) d 146 98 [some (.ref 95), none, some (.int x2), some (.int x3)] [] I J P := by
  by_cases c1 : (576 : Int32) ≤ x3
  · replace h := h.1 c1
    exact am_pret 5 (fun n => (if_pos c1).trans (rfl)) h
  · replace h := h.2 c1
    obtain ⟨q1, j2, h⟩ := h
    by_cases c3 : (I 113 q1) ≤ 0
    · replace h := h.1 c3
      exact am_path 10 (fun n => (if_neg c1).trans ((am_bs j2).trans ((if_pos c3).trans (rfl)))) (am_lv (am_ln (am_ln (am_lv (am_l0))))) h
    · replace h := h.2 c3
      exact am_path 11 (fun n => (if_neg c1).trans ((am_bs j2).trans ((if_neg c3).trans (rfl)))) (am_lv (am_ln (am_ln (am_lv (am_l0))))) h
theorem bk_146_120 {L : Nat} {xs : Nat → Int32} {d : Nat} {P : Option Value → am_I → am_J → Prop} (x3 : Int32) (s0 : Int32) (s1 : Int32) (I : am_I) (J : am_J)  (h : am_To (am_XX L xs) d 131 0 [some (.int s1)] [] I J (fun r I2 J2 => am_To (am_XX L xs) (d + 1) 146 123 [some (.ref 95), none, none, some (.int x3)] (r.toList ++ [.int s0]) I2 J2 P)) : am_To (am_XX L xs) (d + 1) 146 120 [some (.ref 95), none, none, some (.int x3)] [.int s1, .int s0] I J P := by
  exact am_pcall 1 (fun n => rfl) (am_lv (am_ln (am_ln (am_lv (am_l0))))) h
theorem bk_146_123 {L : Nat} {xs : Nat → Int32} {d : Nat} {P : Option Value → am_I → am_J → Prop} (x3 : Int32) (s0 : Int32) (s1 : Int32) (I : am_I) (J : am_J)  (h : am_To (am_XX L xs) d 146 98 [some (.ref 95), none, some (.int (s0 + s1)), some (.int (x3 + (1 : Int32)))] [] I J P) : am_To (am_XX L xs) d 146 123 [some (.ref 95), none, none, some (.int x3)] [.int s1, .int s0] I J P := by
  exact am_path 4 (fun n => rfl) (am_lv (am_ln (am_lv (am_lv (am_l0))))) h
theorem bk_147_18 {L : Nat} {xs : Nat → Int32} {d : Nat} {P : Option Value → am_I → am_J → Prop} (x3 : Int32) (I : am_I) (J : am_J)  (h : am_If (((Int32.ofNat L) - (6 : Int32)) < x3) (P (some (.int (1 : Int32))) I J) (am_Ix x3 L fun q1 => am_To (am_XX L xs) d 147 (am_sw 832 ((xs q1) &&& (31 : Int32)) [(0, 136), (1, 199), (2, 222), (3, 245), (4, 268), (5, 291), (6, 324), (7, 387), (8, 430), (9, 493), (10, 516), (11, 549), (12, 582), (13, 615), (14, 648), (15, 681), (16, 714), (17, 737), (18, 750), (19, 773), (20, 786), (21, 809)]) [some (.ref 1000), some (.ref 0), some (.ref 95), some (.int x3)] [] I J P)) : am_To (am_XX L xs) d 147 18 [some (.ref 1000), some (.ref 0), some (.ref 95), some (.int x3)] [] I J P := by
  by_cases c1 : ((Int32.ofNat L) - (6 : Int32)) < x3
  · replace h := h.1 c1
    exact am_pret 8 (fun n => (if_pos c1).trans (rfl)) h
  · replace h := h.2 c1
    obtain ⟨q1, j2, h⟩ := h
    exact am_path 12 (fun n => (if_neg c1).trans ((am_bs j2).trans (rfl))) (am_lv (am_lv (am_lv (am_lv (am_l0))))) h
theorem bk_147_136 {L : Nat} {xs : Nat → Int32} {d : Nat} {P : Option Value → am_I → am_J → Prop} (x3 : Int32) (I : am_I) (J : am_J)  (h : am_Ix (x3 + (1 : Int32)) L fun q1 => am_Ix (x3 + (2 : Int32)) L fun q2 => am_Ix (x3 + (3 : Int32)) L fun q3 => am_Ix (x3 + (4 : Int32)) L fun q4 => am_Ix (x3 + (5 : Int32)) L fun q5 => am_To (am_XX L xs) d 10 0 [some (.ref 0), some (.int (xs q1)), some (.int (xs q2)), some (.int (xs q3)), some (.int (xs q4)), some (.int (xs q5))] [] I J (fun r I2 J2 => am_To (am_XX L xs) (d + 1) 147 165 [some (.ref 1000), some (.ref 0), some (.ref 95), some (.int x3)] (r.toList ++ []) I2 J2 P)) : am_To (am_XX L xs) (d + 1) 147 136 [some (.ref 1000), some (.ref 0), some (.ref 95), some (.int x3)] [] I J P := by
  obtain ⟨q1, j1, h⟩ := h
  obtain ⟨q2, j2, h⟩ := h
  obtain ⟨q3, j3, h⟩ := h
  obtain ⟨q4, j4, h⟩ := h
  obtain ⟨q5, j5, h⟩ := h
  exact am_pcall 27 (fun n => (am_bs j1).trans ((am_bs j2).trans ((am_bs j3).trans ((am_bs j4).trans ((am_bs j5).trans (rfl)))))) (am_lv (am_lv (am_lv (am_lv (am_l0))))) h
theorem bk_147_199 {L : Nat} {xs : Nat → Int32} {d : Nat} {P : Option Value → am_I → am_J → Prop} (x3 : Int32) (I : am_I) (J : am_J)  (h : am_Ix (x3 + (1 : Int32)) L fun q1 => am_To (am_XX L xs) d 12 0 [some (.ref 0), some (.int (xs q1)), none] [] I J (fun r I2 J2 => am_To (am_XX L xs) (d + 1) 147 208 [some (.ref 1000), some (.ref 0), some (.ref 95), some (.int x3)] (r.toList ++ []) I2 J2 P)) : am_To (am_XX L xs) (d + 1) 147 199 [some (.ref 1000), some (.ref 0), some (.ref 95), some (.int x3)] [] I J P := by
  obtain ⟨q1, j1, h⟩ := h
  exact am_pcall 7 (fun n => (am_bs j1).trans (rfl)) (am_lv (am_lv (am_lv (am_lv (am_l0))))) h
theorem bk_147_222 {L : Nat} {xs : Nat → Int32} {d : Nat} {P : Option Value → am_I → am_J → Prop} (x3 : Int32) (I : am_I) (J : am_J)  (h : am_Ix (x3 + (1 : Int32)) L fun q1 => am_To (am_XX L xs) d 31 0 [some (.ref 0), some (.int (xs q1))] [] I J (fun r I2 J2 => am_To (am_XX L xs) (d + 1) 147 231 [some (.ref 1000), some (.ref 0), some (.ref 95), some (.int x3)] (r.toList ++ []) I2 J2 P)) : am_To (am_XX L xs) (d + 1) 147 222 [some (.ref 1000), some (.ref 0), some (.ref 95), some (.int x3)] [] I J P := by
  obtain ⟨q1, j1, h⟩ := h
  exact am_pcall 7 (fun n => (am_bs j1).trans (rfl)) (am_lv (am_lv (am_lv (am_lv (am_l0))))) h
theorem bk_147_245 {L : Nat} {xs : Nat → Int32} {d : Nat} {P : Option Value → am_I → am_J → Prop} (x3 : Int32) (I : am_I) (J : am_J)  (h : am_Ix (x3 + (1 : Int32)) L fun q1 => am_To (am_XX L xs) d 34 0 [some (.ref 0), some (.int (xs q1))] [] I J (fun r I2 J2 => am_To (am_XX L xs) (d + 1) 147 254 [some (.ref 1000), some (.ref 0), some (.ref 95), some (.int x3)] (r.toList ++ []) I2 J2 P)) : am_To (am_XX L xs) (d + 1) 147 245 [some (.ref 1000), some (.ref 0), some (.ref 95), some (.int x3)] [] I J P := by
  obtain ⟨q1, j1, h⟩ := h
  exact am_pcall 7 (fun n => (am_bs j1).trans (rfl)) (am_lv (am_lv (am_lv (am_lv (am_l0))))) h
theorem bk_147_268 {L : Nat} {xs : Nat → Int32} {d : Nat} {P : Option Value → am_I → am_J → Prop} (x3 : Int32) (I : am_I) (J : am_J)  (h : am_Ix (x3 + (1 : Int32)) L fun q1 => am_To (am_XX L xs) d 35 0 [some (.ref 0), some (.int (xs q1)), none, none] [] I J (fun r I2 J2 => am_To (am_XX L xs) (d + 1) 147 277 [some (.ref 1000), some (.ref 0), some (.ref 95), some (.int x3)] (r.toList ++ []) I2 J2 P)) : am_To (am_XX L xs) (d + 1) 147 268 [some (.ref 1000), some (.ref 0), some (.ref 95), some (.int x3)] [] I J P := by
  obtain ⟨q1, j1, h⟩ := h
  exact am_pcall 7 (fun n => (am_bs j1).trans (rfl)) (am_lv (am_lv (am_lv (am_lv (am_l0))))) h
theorem bk_147_291 {L : Nat} {xs : Nat → Int32} {d : Nat} {P : Option Value → am_I → am_J → Prop} (x3 : Int32) (I : am_I) (J : am_J)  (h : am_Ix (x3 + (1 : Int32)) L fun q1 => am_Ix (x3 + (2 : Int32)) L fun q2 => am_To (am_XX L xs) d 37 0 [some (.ref 0), some (.int (xs q1)), some (.int (xs q2))] [] I J (fun r I2 J2 => am_To (am_XX L xs) (d + 1) 147 305 [some (.ref 1000), some (.ref 0), some (.ref 95), some (.int x3)] (r.toList ++ []) I2 J2 P)) : am_To (am_XX L xs) (d + 1) 147 291 [some (.ref 1000), some (.ref 0), some (.ref 95), some (.int x3)] [] I J P := by
  obtain ⟨q1, j1, h⟩ := h
  obtain ⟨q2, j2, h⟩ := h
  exact am_pcall 12 (fun n => (am_bs j1).trans ((am_bs j2).trans (rfl))) (am_lv (am_lv (am_lv (am_lv (am_l0))))) h
theorem bk_147_324 {L : Nat} {xs : Nat → Int32} {d : Nat} {P : Option Value → am_I → am_J → Prop} (x3 : Int32) (I : am_I) (J : am_J)  (h : am_Ix (x3 + (1 : Int32)) L fun q1 => am_Ix (x3 + (2 : Int32)) L fun q2 => am_Ix (x3 + (3 : Int32)) L fun q3 => am_Ix (x3 + (4 : Int32)) L fun q4 => am_Ix (x3 + (5 : Int32)) L fun q5 => am_To (am_XX L xs) d 41 0 [some (.ref 0), some (.int (xs q1)), some (.int (xs q2)), some (.int (xs q3)), some (.int (xs q4)), some (.int (xs q5)), none, none] [] I J (fun r I2 J2 => am_To (am_XX L xs) (d + 1) 147 353 [some (.ref 1000), some (.ref 0), some (.ref 95), some (.int x3)] (r.toList ++ []) I2 J2 P)) : am_To (am_XX L xs) (d + 1) 147 324 [some (.ref 1000), some (.ref 0), some (.ref 95), some (.int x3)] [] I J P := by
  obtain ⟨q1, j1, h⟩ := h
  obtain ⟨q2, j2, h⟩ := h
  obtain ⟨q3, j3, h⟩ := h
  obtain ⟨q4, j4, h⟩ := h
  obtain ⟨q5, j5, h⟩ := h
  exact am_pcall 27 (fun n => (am_bs j1).trans ((am_bs j2).trans ((am_bs j3).trans ((am_bs j4).trans ((am_bs j5).trans (rfl)))))) (am_lv (am_lv (am_lv (am_lv (am_l0))))) h
theorem bk_147_387 {L : Nat} {xs : Nat → Int32} {d : Nat} {P : Option Value → am_I → am_J → Prop} (x3 : Int32) (I : am_I) (J : am_J)  (h : am_Ix (x3 + (1 : Int32)) L fun q1 => am_Ix (x3 + (2 : Int32)) L fun q2 => am_Ix (x3 + (3 : Int32)) L fun q3 => am_To (am_XX L xs) d 45 0 [some (.ref 0), some (.int (xs q1)), some (.int (xs q2)), some (.int (xs q3))] [] I J (fun r I2 J2 => am_To (am_XX L xs) (d + 1) 147 406 [some (.ref 1000), some (.ref 0), some (.ref 95), some (.int x3)] (r.toList ++ []) I2 J2 P)) : am_To (am_XX L xs) (d + 1) 147 387 [some (.ref 1000), some (.ref 0), some (.ref 95), some (.int x3)] [] I J P := by
  obtain ⟨q1, j1, h⟩ := h
  obtain ⟨q2, j2, h⟩ := h
  obtain ⟨q3, j3, h⟩ := h
  exact am_pcall 17 (fun n => (am_bs j1).trans ((am_bs j2).trans ((am_bs j3).trans (rfl)))) (am_lv (am_lv (am_lv (am_lv (am_l0))))) h
theorem bk_147_430 {L : Nat} {xs : Nat → Int32} {d : Nat} {P : Option Value → am_I → am_J → Prop} (x3 : Int32) (I : am_I) (J : am_J)  (h : am_Ix (x3 + (1 : Int32)) L fun q1 => am_Ix (x3 + (2 : Int32)) L fun q2 => am_Ix (x3 + (3 : Int32)) L fun q3 => am_Ix (x3 + (4 : Int32)) L fun q4 => am_Ix (x3 + (5 : Int32)) L fun q5 => am_To (am_XX L xs) d 47 0 [some (.ref 0), some (.int (xs q1)), some (.int (xs q2)), some (.int (xs q3)), some (.int (xs q4)), some (.int (xs q5))] [] I J (fun r I2 J2 => am_To (am_XX L xs) (d + 1) 147 459 [some (.ref 1000), some (.ref 0), some (.ref 95), some (.int x3)] (r.toList ++ []) I2 J2 P)) : am_To (am_XX L xs) (d + 1) 147 430 [some (.ref 1000), some (.ref 0), some (.ref 95), some (.int x3)] [] I J P := by
  obtain ⟨q1, j1, h⟩ := h
  obtain ⟨q2, j2, h⟩ := h
  obtain ⟨q3, j3, h⟩ := h
  obtain ⟨q4, j4, h⟩ := h
  obtain ⟨q5, j5, h⟩ := h
  exact am_pcall 27 (fun n => (am_bs j1).trans ((am_bs j2).trans ((am_bs j3).trans ((am_bs j4).trans ((am_bs j5).trans (rfl)))))) (am_lv (am_lv (am_lv (am_lv (am_l0))))) h
theorem bk_147_493 {L : Nat} {xs : Nat → Int32} {d : Nat} {P : Option Value → am_I → am_J → Prop} (x3 : Int32) (I : am_I) (J : am_J)  (h : am_Ix (x3 + (1 : Int32)) L fun q1 => am_To (am_XX L xs) d 53 0 [some (.ref 0), some (.int (xs q1))] [] I J (fun r I2 J2 => am_To (am_XX L xs) (d + 1) 147 502 [some (.ref 1000), some (.ref 0), some (.ref 95), some (.int x3)] (r.toList ++ []) I2 J2 P)) : am_To (am_XX L xs) (d + 1) 147 493 [some (.ref 1000), some (.ref 0), some (.ref 95), some (.int x3)] [] I J P := by
  obtain ⟨q1, j1, h⟩ := h
  exact am_pcall 7 (fun n => (am_bs j1).trans (rfl)) (am_lv (am_lv (am_lv (am_lv (am_l0))))) h
theorem bk_147_516 {L : Nat} {xs : Nat → Int32} {d : Nat} {P : Option Value → am_I → am_J → Prop} (x3 : Int32) (I : am_I) (J : am_J)  (h : am_Ix (x3 + (1 : Int32)) L fun q1 => am_Ix (x3 + (2 : Int32)) L fun q2 => am_To (am_XX L xs) d 67 0 [some (.ref 0), some (.int (xs q1)), some (.int (xs q2))] [] I J (fun r I2 J2 => am_To (am_XX L xs) (d + 1) 147 530 [some (.ref 1000), some (.ref 0), some (.ref 95), some (.int x3)] (r.toList ++ []) I2 J2 P)) : am_To (am_XX L xs) (d + 1) 147 516 [some (.ref 1000), some (.ref 0), some (.ref 95), some (.int x3)] [] I J P := by
  obtain ⟨q1, j1, h⟩ := h
  obtain ⟨q2, j2, h⟩ := h
  exact am_pcall 12 (fun n => (am_bs j1).trans ((am_bs j2).trans (rfl))) (am_lv (am_lv (am_lv (am_lv (am_l0))))) h
theorem bk_147_549 {L : Nat} {xs : Nat → Int32} {d : Nat} {P : Option Value → am_I → am_J → Prop} (x3 : Int32) (I : am_I) (J : am_J)  (h : am_Ix (x3 + (1 : Int32)) L fun q1 => am_Ix (x3 + (2 : Int32)) L fun q2 => am_To (am_XX L xs) d 68 0 [some (.ref 0), some (.int (xs q1)), some (.int (xs q2))] [] I J (fun r I2 J2 => am_To (am_XX L xs) (d + 1) 147 563 [some (.ref 1000), some (.ref 0), some (.ref 95), some (.int x3)] (r.toList ++ []) I2 J2 P)) : am_To (am_XX L xs) (d + 1) 147 549 [some (.ref 1000), some (.ref 0), some (.ref 95), some (.int x3)] [] I J P := by
  obtain ⟨q1, j1, h⟩ := h
  obtain ⟨q2, j2, h⟩ := h
  exact am_pcall 12 (fun n => (am_bs j1).trans ((am_bs j2).trans (rfl))) (am_lv (am_lv (am_lv (am_lv (am_l0))))) h
theorem bk_147_582 {L : Nat} {xs : Nat → Int32} {d : Nat} {P : Option Value → am_I → am_J → Prop} (x3 : Int32) (I : am_I) (J : am_J)  (h : am_Ix (x3 + (1 : Int32)) L fun q1 => am_Ix (x3 + (2 : Int32)) L fun q2 => am_To (am_XX L xs) d 69 0 [some (.ref 0), some (.int (xs q1)), some (.int (xs q2)), none] [] I J (fun r I2 J2 => am_To (am_XX L xs) (d + 1) 147 596 [some (.ref 1000), some (.ref 0), some (.ref 95), some (.int x3)] (r.toList ++ []) I2 J2 P)) : am_To (am_XX L xs) (d + 1) 147 582 [some (.ref 1000), some (.ref 0), some (.ref 95), some (.int x3)] [] I J P := by
  obtain ⟨q1, j1, h⟩ := h
  obtain ⟨q2, j2, h⟩ := h
  exact am_pcall 12 (fun n => (am_bs j1).trans ((am_bs j2).trans (rfl))) (am_lv (am_lv (am_lv (am_lv (am_l0))))) h
theorem bk_147_615 {L : Nat} {xs : Nat → Int32} {d : Nat} {P : Option Value → am_I → am_J → Prop} (x3 : Int32) (I : am_I) (J : am_J)  (h : am_Ix (x3 + (1 : Int32)) L fun q1 => am_Ix (x3 + (2 : Int32)) L fun q2 => am_To (am_XX L xs) d 73 0 [some (.ref 0), some (.int (xs q1)), some (.int (xs q2))] [] I J (fun r I2 J2 => am_To (am_XX L xs) (d + 1) 147 629 [some (.ref 1000), some (.ref 0), some (.ref 95), some (.int x3)] (r.toList ++ []) I2 J2 P)) : am_To (am_XX L xs) (d + 1) 147 615 [some (.ref 1000), some (.ref 0), some (.ref 95), some (.int x3)] [] I J P := by
  obtain ⟨q1, j1, h⟩ := h
  obtain ⟨q2, j2, h⟩ := h
  exact am_pcall 12 (fun n => (am_bs j1).trans ((am_bs j2).trans (rfl))) (am_lv (am_lv (am_lv (am_lv (am_l0))))) h
theorem bk_147_648 {L : Nat} {xs : Nat → Int32} {d : Nat} {P : Option Value → am_I → am_J → Prop} (x3 : Int32) (I : am_I) (J : am_J)  (h : am_Ix (x3 + (1 : Int32)) L fun q1 => am_Ix (x3 + (2 : Int32)) L fun q2 => am_To (am_XX L xs) d 75 0 [some (.ref 0), some (.int (xs q1)), some (.int (xs q2))] [] I J (fun r I2 J2 => am_To (am_XX L xs) (d + 1) 147 662 [some (.ref 1000), some (.ref 0), some (.ref 95), some (.int x3)] (r.toList ++ []) I2 J2 P)) : am_To (am_XX L xs) (d + 1) 147 648 [some (.ref 1000), some (.ref 0), some (.ref 95), some (.int x3)] [] I J P := by
  obtain ⟨q1, j1, h⟩ := h
  obtain ⟨q2, j2, h⟩ := h
  exact am_pcall 12 (fun n => (am_bs j1).trans ((am_bs j2).trans (rfl))) (am_lv (am_lv (am_lv (am_lv (am_l0))))) h
theorem bk_147_681 {L : Nat} {xs : Nat → Int32} {d : Nat} {P : Option Value → am_I → am_J → Prop} (x3 : Int32) (I : am_I) (J : am_J)  (h : am_Ix (x3 + (1 : Int32)) L fun q1 => am_Ix (x3 + (2 : Int32)) L fun q2 => am_To (am_XX L xs) d 78 0 [some (.ref 0), some (.int (xs q1)), some (.int (xs q2)), none] [] I J (fun r I2 J2 => am_To (am_XX L xs) (d + 1) 147 695 [some (.ref 1000), some (.ref 0), some (.ref 95), some (.int x3)] (r.toList ++ []) I2 J2 P)) : am_To (am_XX L xs) (d + 1) 147 681 [some (.ref 1000), some (.ref 0), some (.ref 95), some (.int x3)] [] I J P := by
  obtain ⟨q1, j1, h⟩ := h
  obtain ⟨q2, j2, h⟩ := h
  exact am_pcall 12 (fun n => (am_bs j1).trans ((am_bs j2).trans (rfl))) (am_lv (am_lv (am_lv (am_lv (am_l0))))) h
theorem bk_147_714 {L : Nat} {xs : Nat → Int32} {d : Nat} {P : Option Value → am_I → am_J → Prop} (x3 : Int32) (I : am_I) (J : am_J)  (h : am_Ix (x3 + (1 : Int32)) L fun q1 => am_To (am_XX L xs) d 79 0 [some (.ref 0), some (.int (xs q1))] [] I J (fun r I2 J2 => am_To (am_XX L xs) (d + 1) 147 723 [some (.ref 1000), some (.ref 0), some (.ref 95), some (.int x3)] (r.toList ++ []) I2 J2 P)) : am_To (am_XX L xs) (d + 1) 147 714 [some (.ref 1000), some (.ref 0), some (.ref 95), some (.int x3)] [] I J P := by
  obtain ⟨q1, j1, h⟩ := h
  exact am_pcall 7 (fun n => (am_bs j1).trans (rfl)) (am_lv (am_lv (am_lv (am_lv (am_l0))))) h
theorem bk_147_737 {L : Nat} {xs : Nat → Int32} {d : Nat} {P : Option Value → am_I → am_J → Prop} (x3 : Int32) (I : am_I) (J : am_J)  (h : am_To (am_XX L xs) d 82 0 [some (.ref 0)] [] I J (fun r I2 J2 => am_To (am_XX L xs) (d + 1) 147 741 [some (.ref 1000), some (.ref 0), some (.ref 95), some (.int x3)] (r.toList ++ []) I2 J2 P)) : am_To (am_XX L xs) (d + 1) 147 737 [some (.ref 1000), some (.ref 0), some (.ref 95), some (.int x3)] [] I J P := by
  exact am_pcall 2 (fun n => rfl) (am_lv (am_lv (am_lv (am_lv (am_l0))))) h
theorem bk_147_750 {L : Nat} {xs : Nat → Int32} {d : Nat} {P : Option Value → am_I → am_J → Prop} (x3 : Int32) (I : am_I) (J : am_J)  (h : am_Ix (x3 + (1 : Int32)) L fun q1 => am_To (am_XX L xs) d 83 0 [some (.ref 0), some (.int (xs q1)), none] [] I J (fun r I2 J2 => am_To (am_XX L xs) (d + 1) 147 759 [some (.ref 1000), some (.ref 0), some (.ref 95), some (.int x3)] (r.toList ++ []) I2 J2 P)) : am_To (am_XX L xs) (d + 1) 147 750 [some (.ref 1000), some (.ref 0), some (.ref 95), some (.int x3)] [] I J P := by
  obtain ⟨q1, j1, h⟩ := h
  exact am_pcall 7 (fun n => (am_bs j1).trans (rfl)) (am_lv (am_lv (am_lv (am_lv (am_l0))))) h
theorem bk_147_773 {L : Nat} {xs : Nat → Int32} {d : Nat} {P : Option Value → am_I → am_J → Prop} (x3 : Int32) (I : am_I) (J : am_J)  (h : am_To (am_XX L xs) d 91 0 [some (.ref 0)] [] I J (fun r I2 J2 => am_To (am_XX L xs) (d + 1) 147 777 [some (.ref 1000), some (.ref 0), some (.ref 95), some (.int x3)] (r.toList ++ []) I2 J2 P)) : am_To (am_XX L xs) (d + 1) 147 773 [some (.ref 1000), some (.ref 0), some (.ref 95), some (.int x3)] [] I J P := by
  exact am_pcall 2 (fun n => rfl) (am_lv (am_lv (am_lv (am_lv (am_l0))))) h
theorem bk_147_786 {L : Nat} {xs : Nat → Int32} {d : Nat} {P : Option Value → am_I → am_J → Prop} (x3 : Int32) (I : am_I) (J : am_J)  (h : am_Ix (x3 + (1 : Int32)) L fun q1 => am_To (am_XX L xs) d 93 0 [some (.ref 0), some (.int (xs q1))] [] I J (fun r I2 J2 => am_To (am_XX L xs) (d + 1) 147 795 [some (.ref 1000), some (.ref 0), some (.ref 95), some (.int x3)] (r.toList ++ []) I2 J2 P)) : am_To (am_XX L xs) (d + 1) 147 786 [some (.ref 1000), some (.ref 0), some (.ref 95), some (.int x3)] [] I J P := by
  obtain ⟨q1, j1, h⟩ := h
  exact am_pcall 7 (fun n => (am_bs j1).trans (rfl)) (am_lv (am_lv (am_lv (am_lv (am_l0))))) h
theorem bk_147_809 {L : Nat} {xs : Nat → Int32} {d : Nat} {P : Option Value → am_I → am_J → Prop} (x3 : Int32) (I : am_I) (J : am_J)  (h : am_Ix (x3 + (1 : Int32)) L fun q1 => am_To (am_XX L xs) d 96 0 [some (.ref 0), some (.int (xs q1))] [] I J (fun r I2 J2 => am_To (am_XX L xs) (d + 1) 147 818 [some (.ref 1000), some (.ref 0), some (.ref 95), some (.int x3)] (r.toList ++ []) I2 J2 P)) : am_To (am_XX L xs) (d + 1) 147 809 [some (.ref 1000), some (.ref 0), some (.ref 95), some (.int x3)] [] I J P := by
  obtain ⟨q1, j1, h⟩ := h
  exact am_pcall 7 (fun n => (am_bs j1).trans (rfl)) (am_lv (am_lv (am_lv (am_lv (am_l0))))) h
theorem bk_147_832 {L : Nat} {xs : Nat → Int32} {d : Nat} {P : Option Value → am_I → am_J → Prop} (x3 : Int32) (I : am_I) (J : am_J)  (h : am_To (am_XX L xs) d 147 18 [some (.ref 1000), some (.ref 0), some (.ref 95), some (.int (x3 + (6 : Int32)))] [] I J P) : am_To (am_XX L xs) d 147 832 [some (.ref 1000), some (.ref 0), some (.ref 95), some (.int x3)] [] I J P := by
  exact am_path 2 (fun n => rfl) (am_lv (am_lv (am_lv (am_lv (am_l0))))) h
theorem bk_147_165 {L : Nat} {xs : Nat → Int32} {d : Nat} {P : Option Value → am_I → am_J → Prop} (x3 : Int32) (s0 : Int32) (I : am_I) (J : am_J)  (h : am_Ix (x3 + (1 : Int32)) L fun q1 => am_Ix (x3 + (2 : Int32)) L fun q2 => am_Ix (x3 + (3 : Int32)) L fun q3 => am_Ix (x3 + (4 : Int32)) L fun q4 => am_Ix (x3 + (5 : Int32)) L fun q5 => am_To (am_XX L xs) d 99 0 [some (.ref 95), some (.int (xs q1)), some (.int (xs q2)), some (.int (xs q3)), some (.int (xs q4)), some (.int (xs q5))] [] I J (fun r I2 J2 => am_To (am_XX L xs) (d + 1) 147 194 [some (.ref 1000), some (.ref 0), some (.ref 95), some (.int x3)] (r.toList ++ [.int s0]) I2 J2 P)) : am_To (am_XX L xs) (d + 1) 147 165 [some (.ref 1000), some (.ref 0), some (.ref 95), some (.int x3)] [.int s0] I J P := by
  obtain ⟨q1, j1, h⟩ := h
  obtain ⟨q2, j2, h⟩ := h
  obtain ⟨q3, j3, h⟩ := h
  obtain ⟨q4, j4, h⟩ := h
  obtain ⟨q5, j5, h⟩ := h
  exact am_pcall 27 (fun n => (am_bs j1).trans ((am_bs j2).trans ((am_bs j3).trans ((am_bs j4).trans ((am_bs j5).trans (rfl)))))) (am_lv (am_lv (am_lv (am_lv (am_l0))))) h
theorem bk_147_208 {L : Nat} {xs : Nat → Int32} {d : Nat} {P : Option Value → am_I → am_J → Prop} (x3 : Int32) (s0 : Int32) (I : am_I) (J : am_J)  (h : am_Ix (x3 + (1 : Int32)) L fun q1 => am_To (am_XX L xs) d 101 0 [some (.ref 95), some (.int (xs q1)), none, none, none, none, none, none, none, none] [] I J (fun r I2 J2 => am_To (am_XX L xs) (d + 1) 147 217 [some (.ref 1000), some (.ref 0), some (.ref 95), some (.int x3)] (r.toList ++ [.int s0]) I2 J2 P)) : am_To (am_XX L xs) (d + 1) 147 208 [some (.ref 1000), some (.ref 0), some (.ref 95), some (.int x3)] [.int s0] I J P := by
  obtain ⟨q1, j1, h⟩ := h
  exact am_pcall 7 (fun n => (am_bs j1).trans (rfl)) (am_lv (am_lv (am_lv (am_lv (am_l0))))) h
theorem bk_147_231 {L : Nat} {xs : Nat → Int32} {d : Nat} {P : Option Value → am_I → am_J → Prop} (x3 : Int32) (s0 : Int32) (I : am_I) (J : am_J)  (h : am_Ix (x3 + (1 : Int32)) L fun q1 => am_To (am_XX L xs) d 109 0 [some (.ref 95), some (.int (xs q1))] [] I J (fun r I2 J2 => am_To (am_XX L xs) (d + 1) 147 240 [some (.ref 1000), some (.ref 0), some (.ref 95), some (.int x3)] (r.toList ++ [.int s0]) I2 J2 P)) : am_To (am_XX L xs) (d + 1) 147 231 [some (.ref 1000), some (.ref 0), some (.ref 95), some (.int x3)] [.int s0] I J P := by
  obtain ⟨q1, j1, h⟩ := h
  exact am_pcall 7 (fun n => (am_bs j1).trans (rfl)) (am_lv (am_lv (am_lv (am_lv (am_l0))))) h
theorem bk_147_254 {L : Nat} {xs : Nat → Int32} {d : Nat} {P : Option Value → am_I → am_J → Prop} (x3 : Int32) (s0 : Int32) (I : am_I) (J : am_J)  (h : am_Ix (x3 + (1 : Int32)) L fun q1 => am_To (am_XX L xs) d 111 0 [some (.ref 95), some (.int (xs q1))] [] I J (fun r I2 J2 => am_To (am_XX L xs) (d + 1) 147 263 [some (.ref 1000), some (.ref 0), some (.ref 95), some (.int x3)] (r.toList ++ [.int s0]) I2 J2 P)) : am_To (am_XX L xs) (d + 1) 147 254 [some (.ref 1000), some (.ref 0), some (.ref 95), some (.int x3)] [.int s0] I J P := by
  obtain ⟨q1, j1, h⟩ := h
  exact am_pcall 7 (fun n => (am_bs j1).trans (rfl)) (am_lv (am_lv (am_lv (am_lv (am_l0))))) h
theorem bk_147_277 {L : Nat} {xs : Nat → Int32} {d : Nat} {P : Option Value → am_I → am_J → Prop} (x3 : Int32) (s0 : Int32) (I : am_I) (J : am_J)  (h : am_Ix (x3 + (1 : Int32)) L fun q1 => am_To (am_XX L xs) d 112 0 [some (.ref 95), some (.int (xs q1)), none, none, none, none] [] I J (fun r I2 J2 => am_To (am_XX L xs) (d + 1) 147 286 [some (.ref 1000), some (.ref 0), some (.ref 95), some (.int x3)] (r.toList ++ [.int s0]) I2 J2 P)) : am_To (am_XX L xs) (d + 1) 147 277 [some (.ref 1000), some (.ref 0), some (.ref 95), some (.int x3)] [.int s0] I J P := by
  obtain ⟨q1, j1, h⟩ := h
  exact am_pcall 7 (fun n => (am_bs j1).trans (rfl)) (am_lv (am_lv (am_lv (am_lv (am_l0))))) h
theorem bk_147_305 {L : Nat} {xs : Nat → Int32} {d : Nat} {P : Option Value → am_I → am_J → Prop} (x3 : Int32) (s0 : Int32) (I : am_I) (J : am_J)  (h : am_Ix (x3 + (1 : Int32)) L fun q1 => am_Ix (x3 + (2 : Int32)) L fun q2 => am_To (am_XX L xs) d 113 0 [some (.ref 95), some (.int (xs q1)), some (.int (xs q2)), none, none, none] [] I J (fun r I2 J2 => am_To (am_XX L xs) (d + 1) 147 319 [some (.ref 1000), some (.ref 0), some (.ref 95), some (.int x3)] (r.toList ++ [.int s0]) I2 J2 P)) : am_To (am_XX L xs) (d + 1) 147 305 [some (.ref 1000), some (.ref 0), some (.ref 95), some (.int x3)] [.int s0] I J P := by
  obtain ⟨q1, j1, h⟩ := h
  obtain ⟨q2, j2, h⟩ := h
  exact am_pcall 12 (fun n => (am_bs j1).trans ((am_bs j2).trans (rfl))) (am_lv (am_lv (am_lv (am_lv (am_l0))))) h
theorem bk_147_353 {L : Nat} {xs : Nat → Int32} {d : Nat} {P : Option Value → am_I → am_J → Prop} (x3 : Int32) (s0 : Int32) (I : am_I) (J : am_J)  (h : am_Ix (x3 + (1 : Int32)) L fun q1 => am_Ix (x3 + (2 : Int32)) L fun q2 => am_Ix (x3 + (3 : Int32)) L fun q3 => am_Ix (x3 + (4 : Int32)) L fun q4 => am_Ix (x3 + (5 : Int32)) L fun q5 => am_To (am_XX L xs) d 115 0 [some (.ref 95), some (.int (xs q1)), some (.int (xs q2)), some (.int (xs q3)), some (.int (xs q4)), some (.int (xs q5))] [] I J (fun r I2 J2 => am_To (am_XX L xs) (d + 1) 147 382 [some (.ref 1000), some (.ref 0), some (.ref 95), some (.int x3)] (r.toList ++ [.int s0]) I2 J2 P)) : am_To (am_XX L xs) (d + 1) 147 353 [some (.ref 1000), some (.ref 0), some (.ref 95), some (.int x3)] [.int s0] I J P := by
  obtain ⟨q1, j1, h⟩ := h
  obtain ⟨q2, j2, h⟩ := h
  obtain ⟨q3, j3, h⟩ := h
  obtain ⟨q4, j4, h⟩ := h
  obtain ⟨q5, j5, h⟩ := h
  exact am_pcall 27 (fun n => (am_bs j1).trans ((am_bs j2).trans ((am_bs j3).trans ((am_bs j4).trans ((am_bs j5).trans (rfl)))))) (am_lv (am_lv (am_lv (am_lv (am_l0))))) h
theorem bk_147_406 {L : Nat} {xs : Nat → Int32} {d : Nat} {P : Option Value → am_I → am_J → Prop} (x3 : Int32) (s0 : Int32) (I : am_I) (J : am_J)  (h : am_Ix (x3 + (1 : Int32)) L fun q1 => am_Ix (x3 + (2 : Int32)) L fun q2 => am_Ix (x3 + (3 : Int32)) L fun q3 => am_To (am_XX L xs) d 117 0 [some (.ref 95), some (.int (xs q1)), some (.int (xs q2)), some (.int (xs q3))] [] I J (fun r I2 J2 => am_To (am_XX L xs) (d + 1) 147 425 [some (.ref 1000), some (.ref 0), some (.ref 95), some (.int x3)] (r.toList ++ [.int s0]) I2 J2 P)) : am_To (am_XX L xs) (d + 1) 147 406 [some (.ref 1000), some (.ref 0), some (.ref 95), some (.int x3)] [.int s0] I J P := by
  obtain ⟨q1, j1, h⟩ := h
  obtain ⟨q2, j2, h⟩ := h
  obtain ⟨q3, j3, h⟩ := h
  exact am_pcall 17 (fun n => (am_bs j1).trans ((am_bs j2).trans ((am_bs j3).trans (rfl)))) (am_lv (am_lv (am_lv (am_lv (am_l0))))) h
theorem bk_147_459 {L : Nat} {xs : Nat → Int32} {d : Nat} {P : Option Value → am_I → am_J → Prop} (x3 : Int32) (s0 : Int32) (I : am_I) (J : am_J)  (h : am_Ix (x3 + (1 : Int32)) L fun q1 => am_Ix (x3 + (2 : Int32)) L fun q2 => am_Ix (x3 + (3 : Int32)) L fun q3 => am_Ix (x3 + (4 : Int32)) L fun q4 => am_Ix (x3 + (5 : Int32)) L fun q5 => am_To (am_XX L xs) d 121 0 [some (.ref 95), some (.int (xs q1)), some (.int (xs q2)), some (.int (xs q3)), some (.int (xs q4)), some (.int (xs q5)), none, none, none, none] [] I J (fun r I2 J2 => am_To (am_XX L xs) (d + 1) 147 488 [some (.ref 1000), some (.ref 0), some (.ref 95), some (.int x3)] (r.toList ++ [.int s0]) I2 J2 P)) : am_To (am_XX L xs) (d + 1) 147 459 [some (.ref 1000), some (.ref 0), some (.ref 95), some (.int x3)] [.int s0] I J P := by
  obtain ⟨q1, j1, h⟩ := h
  obtain ⟨q2, j2, h⟩ := h
  obtain ⟨q3, j3, h⟩ := h
  obtain ⟨q4, j4, h⟩ := h
  obtain ⟨q5, j5, h⟩ := h
  exact am_pcall 27 (fun n => (am_bs j1).trans ((am_bs j2).trans ((am_bs j3).trans ((am_bs j4).trans ((am_bs j5).trans (rfl)))))) (am_lv (am_lv (am_lv (am_lv (am_l0))))) h
theorem bk_147_502 {L : Nat} {xs : Nat → Int32} {d : Nat} {P : Option Value → am_I → am_J → Prop} (x3 : Int32) (s0 : Int32) (I : am_I) (J : am_J)  (h : am_Ix (x3 + (1 : Int32)) L fun q1 => am_To (am_XX L xs) d 122 0 [some (.ref 95), some (.int (xs q1))] [] I J (fun r I2 J2 => am_To (am_XX L xs) (d + 1) 147 511 [some (.ref 1000), some (.ref 0), some (.ref 95), some (.int x3)] (r.toList ++ [.int s0]) I2 J2 P)) : am_To (am_XX L xs) (d + 1) 147 502 [some (.ref 1000), some (.ref 0), some (.ref 95), some (.int x3)] [.int s0] I J P := by
  obtain ⟨q1, j1, h⟩ := h
  exact am_pcall 7 (fun n => (am_bs j1).trans (rfl)) (am_lv (am_lv (am_lv (am_lv (am_l0))))) h
theorem bk_147_530 {L : Nat} {xs : Nat → Int32} {d : Nat} {P : Option Value → am_I → am_J → Prop} (x3 : Int32) (s0 : Int32) (I : am_I) (J : am_J)  (h : am_Ix (x3 + (1 : Int32)) L fun q1 => am_Ix (x3 + (2 : Int32)) L fun q2 => am_To (am_XX L xs) d 129 0 [some (.ref 95), some (.int (xs q1)), some (.int (xs q2))] [] I J (fun r I2 J2 => am_To (am_XX L xs) (d + 1) 147 544 [some (.ref 1000), some (.ref 0), some (.ref 95), some (.int x3)] (r.toList ++ [.int s0]) I2 J2 P)) : am_To (am_XX L xs) (d + 1) 147 530 [some (.ref 1000), some (.ref 0), some (.ref 95), some (.int x3)] [.int s0] I J P := by
  obtain ⟨q1, j1, h⟩ := h
  obtain ⟨q2, j2, h⟩ := h
  exact am_pcall 12 (fun n => (am_bs j1).trans ((am_bs j2).trans (rfl))) (am_lv (am_lv (am_lv (am_lv (am_l0))))) h
theorem bk_147_563 {L : Nat} {xs : Nat → Int32} {d : Nat} {P : Option Value → am_I → am_J → Prop} (x3 : Int32) (s0 : Int32) (I : am_I) (J : am_J)  (h : am_Ix (x3 + (1 : Int32)) L fun q1 => am_Ix (x3 + (2 : Int32)) L fun q2 => am_To (am_XX L xs) d 130 0 [some (.ref 95), some (.int (xs q1)), some (.int (xs q2))] [] I J (fun r I2 J2 => am_To (am_XX L xs) (d + 1) 147 577 [some (.ref 1000), some (.ref 0), some (.ref 95), some (.int x3)] (r.toList ++ [.int s0]) I2 J2 P)) : am_To (am_XX L xs) (d + 1) 147 563 [some (.ref 1000), some (.ref 0), some (.ref 95), some (.int x3)] [.int s0] I J P := by
  obtain ⟨q1, j1, h⟩ := h
  obtain ⟨q2, j2, h⟩ := h
  exact am_pcall 12 (fun n => (am_bs j1).trans ((am_bs j2).trans (rfl))) (am_lv (am_lv (am_lv (am_lv (am_l0))))) h
theorem bk_147_596 {L : Nat} {xs : Nat → Int32} {d : Nat} {P : Option Value → am_I → am_J → Prop} (x3 : Int32) (s0 : Int32) (I : am_I) (J : am_J)  (h : am_Ix (x3 + (1 : Int32)) L fun q1 => am_Ix (x3 + (2 : Int32)) L fun q2 => am_To (am_XX L xs) d 132 0 [some (.ref 95), some (.int (xs q1)), some (.int (xs q2)), none, none] [] I J (fun r I2 J2 => am_To (am_XX L xs) (d + 1) 147 610 [some (.ref 1000), some (.ref 0), some (.ref 95), some (.int x3)] (r.toList ++ [.int s0]) I2 J2 P)) : am_To (am_XX L xs) (d + 1) 147 596 [some (.ref 1000), some (.ref 0), some (.ref 95), some (.int x3)] [.int s0] I J P := by
  obtain ⟨q1, j1, h⟩ := h
  obtain ⟨q2, j2, h⟩ := h
  exact am_pcall 12 (fun n => (am_bs j1).trans ((am_bs j2).trans (rfl))) (am_lv (am_lv (am_lv (am_lv (am_l0))))) h
theorem bk_147_629 {L : Nat} {xs : Nat → Int32} {d : Nat} {P : Option Value → am_I → am_J → Prop} (x3 : Int32) (s0 : Int32) (I : am_I) (J : am_J)  (h : am_Ix (x3 + (1 : Int32)) L fun q1 => am_Ix (x3 + (2 : Int32)) L fun q2 => am_To (am_XX L xs) d 133 0 [some (.ref 95), some (.int (xs q1)), some (.int (xs q2))] [] I J (fun r I2 J2 => am_To (am_XX L xs) (d + 1) 147 643 [some (.ref 1000), some (.ref 0), some (.ref 95), some (.int x3)] (r.toList ++ [.int s0]) I2 J2 P)) : am_To (am_XX L xs) (d + 1) 147 629 [some (.ref 1000), some (.ref 0), some (.ref 95), some (.int x3)] [.int s0] I J P := by
  obtain ⟨q1, j1, h⟩ := h
  obtain ⟨q2, j2, h⟩ := h
  exact am_pcall 12 (fun n => (am_bs j1).trans ((am_bs j2).trans (rfl))) (am_lv (am_lv (am_lv (am_lv (am_l0))))) h
theorem bk_147_662 {L : Nat} {xs : Nat → Int32} {d : Nat} {P : Option Value → am_I → am_J → Prop} (x3 : Int32) (s0 : Int32) (I : am_I) (J : am_J)  (h : am_Ix (x3 + (1 : Int32)) L fun q1 => am_Ix (x3 + (2 : Int32)) L fun q2 => am_To (am_XX L xs) d 135 0 [some (.ref 95), some (.int (xs q1)), some (.int (xs q2)), none, none, none] [] I J (fun r I2 J2 => am_To (am_XX L xs) (d + 1) 147 676 [some (.ref 1000), some (.ref 0), some (.ref 95), some (.int x3)] (r.toList ++ [.int s0]) I2 J2 P)) : am_To (am_XX L xs) (d + 1) 147 662 [some (.ref 1000), some (.ref 0), some (.ref 95), some (.int x3)] [.int s0] I J P := by
  obtain ⟨q1, j1, h⟩ := h
  obtain ⟨q2, j2, h⟩ := h
  exact am_pcall 12 (fun n => (am_bs j1).trans ((am_bs j2).trans (rfl))) (am_lv (am_lv (am_lv (am_lv (am_l0))))) h
theorem bk_147_695 {L : Nat} {xs : Nat → Int32} {d : Nat} {P : Option Value → am_I → am_J → Prop} (x3 : Int32) (s0 : Int32) (I : am_I) (J : am_J)  (h : am_Ix (x3 + (1 : Int32)) L fun q1 => am_Ix (x3 + (2 : Int32)) L fun q2 => am_To (am_XX L xs) d 136 0 [some (.ref 95), some (.int (xs q1)), some (.int (xs q2)), none, none] [] I J (fun r I2 J2 => am_To (am_XX L xs) (d + 1) 147 709 [some (.ref 1000), some (.ref 0), some (.ref 95), some (.int x3)] (r.toList ++ [.int s0]) I2 J2 P)) : am_To (am_XX L xs) (d + 1) 147 695 [some (.ref 1000), some (.ref 0), some (.ref 95), some (.int x3)] [.int s0] I J P := by
  obtain ⟨q1, j1, h⟩ := h
  obtain ⟨q2, j2, h⟩ := h
  exact am_pcall 12 (fun n => (am_bs j1).trans ((am_bs j2).trans (rfl))) (am_lv (am_lv (am_lv (am_lv (am_l0))))) h
theorem bk_147_723 {L : Nat} {xs : Nat → Int32} {d : Nat} {P : Option Value → am_I → am_J → Prop} (x3 : Int32) (s0 : Int32) (I : am_I) (J : am_J)  (h : am_Ix (x3 + (1 : Int32)) L fun q1 => am_To (am_XX L xs) d 138 0 [some (.ref 95), some (.int (xs q1)), none, none, none, none] [] I J (fun r I2 J2 => am_To (am_XX L xs) (d + 1) 147 732 [some (.ref 1000), some (.ref 0), some (.ref 95), some (.int x3)] (r.toList ++ [.int s0]) I2 J2 P)) : am_To (am_XX L xs) (d + 1) 147 723 [some (.ref 1000), some (.ref 0), some (.ref 95), some (.int x3)] [.int s0] I J P := by
  obtain ⟨q1, j1, h⟩ := h
  exact am_pcall 7 (fun n => (am_bs j1).trans (rfl)) (am_lv (am_lv (am_lv (am_lv (am_l0))))) h
theorem bk_147_741 {L : Nat} {xs : Nat → Int32} {d : Nat} {P : Option Value → am_I → am_J → Prop} (x3 : Int32) (s0 : Int32) (I : am_I) (J : am_J)  (h : am_To (am_XX L xs) d 140 0 [some (.ref 95)] [] I J (fun r I2 J2 => am_To (am_XX L xs) (d + 1) 147 745 [some (.ref 1000), some (.ref 0), some (.ref 95), some (.int x3)] (r.toList ++ [.int s0]) I2 J2 P)) : am_To (am_XX L xs) (d + 1) 147 741 [some (.ref 1000), some (.ref 0), some (.ref 95), some (.int x3)] [.int s0] I J P := by
  exact am_pcall 2 (fun n => rfl) (am_lv (am_lv (am_lv (am_lv (am_l0))))) h
theorem bk_147_759 {L : Nat} {xs : Nat → Int32} {d : Nat} {P : Option Value → am_I → am_J → Prop} (x3 : Int32) (s0 : Int32) (I : am_I) (J : am_J)  (h : am_Ix (x3 + (1 : Int32)) L fun q1 => am_To (am_XX L xs) d 141 0 [some (.ref 95), some (.int (xs q1)), none, none, none, none, none, none, none, none, none] [] I J (fun r I2 J2 => am_To (am_XX L xs) (d + 1) 147 768 [some (.ref 1000), some (.ref 0), some (.ref 95), some (.int x3)] (r.toList ++ [.int s0]) I2 J2 P)) : am_To (am_XX L xs) (d + 1) 147 759 [some (.ref 1000), some (.ref 0), some (.ref 95), some (.int x3)] [.int s0] I J P := by
  obtain ⟨q1, j1, h⟩ := h
  exact am_pcall 7 (fun n => (am_bs j1).trans (rfl)) (am_lv (am_lv (am_lv (am_lv (am_l0))))) h
theorem bk_147_777 {L : Nat} {xs : Nat → Int32} {d : Nat} {P : Option Value → am_I → am_J → Prop} (x3 : Int32) (s0 : Int32) (I : am_I) (J : am_J)  (h : am_To (am_XX L xs) d 144 0 [some (.ref 95), none] [] I J (fun r I2 J2 => am_To (am_XX L xs) (d + 1) 147 781 [some (.ref 1000), some (.ref 0), some (.ref 95), some (.int x3)] (r.toList ++ [.int s0]) I2 J2 P)) : am_To (am_XX L xs) (d + 1) 147 777 [some (.ref 1000), some (.ref 0), some (.ref 95), some (.int x3)] [.int s0] I J P := by
  exact am_pcall 2 (fun n => rfl) (am_lv (am_lv (am_lv (am_lv (am_l0))))) h
theorem bk_147_795 {L : Nat} {xs : Nat → Int32} {d : Nat} {P : Option Value → am_I → am_J → Prop} (x3 : Int32) (s0 : Int32) (I : am_I) (J : am_J)  (h : am_Ix (x3 + (1 : Int32)) L fun q1 => am_To (am_XX L xs) d 145 0 [some (.ref 95), some (.int (xs q1)), none, none, none] [] I J (fun r I2 J2 => am_To (am_XX L xs) (d + 1) 147 804 [some (.ref 1000), some (.ref 0), some (.ref 95), some (.int x3)] (r.toList ++ [.int s0]) I2 J2 P)) : am_To (am_XX L xs) (d + 1) 147 795 [some (.ref 1000), some (.ref 0), some (.ref 95), some (.int x3)] [.int s0] I J P := by
  obtain ⟨q1, j1, h⟩ := h
  exact am_pcall 7 (fun n => (am_bs j1).trans (rfl)) (am_lv (am_lv (am_lv (am_lv (am_l0))))) h
theorem bk_147_818 {L : Nat} {xs : Nat → Int32} {d : Nat} {P : Option Value → am_I → am_J → Prop} (x3 : Int32) (s0 : Int32) (I : am_I) (J : am_J)  (h : am_Ix (x3 + (1 : Int32)) L fun q1 => am_To (am_XX L xs) d 146 0 [some (.ref 95), some (.int (xs q1)), none, none] [] I J (fun r I2 J2 => am_To (am_XX L xs) (d + 1) 147 827 [some (.ref 1000), some (.ref 0), some (.ref 95), some (.int x3)] (r.toList ++ [.int s0]) I2 J2 P)) : am_To (am_XX L xs) (d + 1) 147 818 [some (.ref 1000), some (.ref 0), some (.ref 95), some (.int x3)] [.int s0] I J P := by
  obtain ⟨q1, j1, h⟩ := h
  exact am_pcall 7 (fun n => (am_bs j1).trans (rfl)) (am_lv (am_lv (am_lv (am_lv (am_l0))))) h
theorem bk_147_194 {L : Nat} {xs : Nat → Int32} {d : Nat} {P : Option Value → am_I → am_J → Prop} (x3 : Int32) (s0 : Int32) (s1 : Int32) (I : am_I) (J : am_J)  (h : am_If (s0 = s1) (am_To (am_XX L xs) d 147 18 [some (.ref 1000), some (.ref 0), some (.ref 95), some (.int (x3 + (6 : Int32)))] [] I J P) (P (some (.int (0 : Int32))) I J)) : am_To (am_XX L xs) d 147 194 [some (.ref 1000), some (.ref 0), some (.ref 95), some (.int x3)] [.int s1, .int s0] I J P := by
  by_cases c1 : s0 = s1
  · replace h := h.1 c1
    exact am_path 3 (fun n => (if_pos c1).trans (rfl)) (am_lv (am_lv (am_lv (am_lv (am_l0))))) h
  · replace h := h.2 c1
    exact am_pret 3 (fun n => (if_neg c1).trans (rfl)) h
theorem bk_147_217 {L : Nat} {xs : Nat → Int32} {d : Nat} {P : Option Value → am_I → am_J → Prop} (x3 : Int32) (s0 : Int32) (s1 : Int32) (I : am_I) (J : am_J)  (h : am_If (s0 = s1) (am_To (am_XX L xs) d 147 18 [some (.ref 1000), some (.ref 0), some (.ref 95), some (.int (x3 + (6 : Int32)))] [] I J P) (P (some (.int (0 : Int32))) I J)) : am_To (am_XX L xs) d 147 217 [some (.ref 1000), some (.ref 0), some (.ref 95), some (.int x3)] [.int s1, .int s0] I J P := by
  by_cases c1 : s0 = s1
  · replace h := h.1 c1
    exact am_path 3 (fun n => (if_pos c1).trans (rfl)) (am_lv (am_lv (am_lv (am_lv (am_l0))))) h
  · replace h := h.2 c1
    exact am_pret 3 (fun n => (if_neg c1).trans (rfl)) h
theorem bk_147_240 {L : Nat} {xs : Nat → Int32} {d : Nat} {P : Option Value → am_I → am_J → Prop} (x3 : Int32) (s0 : Int32) (s1 : Int32) (I : am_I) (J : am_J)  (h : am_If (s0 = s1) (am_To (am_XX L xs) d 147 18 [some (.ref 1000), some (.ref 0), some (.ref 95), some (.int (x3 + (6 : Int32)))] [] I J P) (P (some (.int (0 : Int32))) I J)) : am_To (am_XX L xs) d 147 240 [some (.ref 1000), some (.ref 0), some (.ref 95), some (.int x3)] [.int s1, .int s0] I J P := by
  by_cases c1 : s0 = s1
  · replace h := h.1 c1
    exact am_path 3 (fun n => (if_pos c1).trans (rfl)) (am_lv (am_lv (am_lv (am_lv (am_l0))))) h
  · replace h := h.2 c1
    exact am_pret 3 (fun n => (if_neg c1).trans (rfl)) h
theorem bk_147_263 {L : Nat} {xs : Nat → Int32} {d : Nat} {P : Option Value → am_I → am_J → Prop} (x3 : Int32) (s0 : Int32) (s1 : Int32) (I : am_I) (J : am_J)  (h : am_If (s0 = s1) (am_To (am_XX L xs) d 147 18 [some (.ref 1000), some (.ref 0), some (.ref 95), some (.int (x3 + (6 : Int32)))] [] I J P) (P (some (.int (0 : Int32))) I J)) : am_To (am_XX L xs) d 147 263 [some (.ref 1000), some (.ref 0), some (.ref 95), some (.int x3)] [.int s1, .int s0] I J P := by
  by_cases c1 : s0 = s1
  · replace h := h.1 c1
    exact am_path 3 (fun n => (if_pos c1).trans (rfl)) (am_lv (am_lv (am_lv (am_lv (am_l0))))) h
  · replace h := h.2 c1
    exact am_pret 3 (fun n => (if_neg c1).trans (rfl)) h
theorem bk_147_286 {L : Nat} {xs : Nat → Int32} {d : Nat} {P : Option Value → am_I → am_J → Prop} (x3 : Int32) (s0 : Int32) (s1 : Int32) (I : am_I) (J : am_J)  (h : am_If (s0 = s1) (am_To (am_XX L xs) d 147 18 [some (.ref 1000), some (.ref 0), some (.ref 95), some (.int (x3 + (6 : Int32)))] [] I J P) (P (some (.int (0 : Int32))) I J)) : am_To (am_XX L xs) d 147 286 [some (.ref 1000), some (.ref 0), some (.ref 95), some (.int x3)] [.int s1, .int s0] I J P := by
  by_cases c1 : s0 = s1
  · replace h := h.1 c1
    exact am_path 3 (fun n => (if_pos c1).trans (rfl)) (am_lv (am_lv (am_lv (am_lv (am_l0))))) h
  · replace h := h.2 c1
    exact am_pret 3 (fun n => (if_neg c1).trans (rfl)) h
theorem bk_147_319 {L : Nat} {xs : Nat → Int32} {d : Nat} {P : Option Value → am_I → am_J → Prop} (x3 : Int32) (s0 : Int32) (s1 : Int32) (I : am_I) (J : am_J)  (h : am_If (s0 = s1) (am_To (am_XX L xs) d 147 18 [some (.ref 1000), some (.ref 0), some (.ref 95), some (.int (x3 + (6 : Int32)))] [] I J P) (P (some (.int (0 : Int32))) I J)) : am_To (am_XX L xs) d 147 319 [some (.ref 1000), some (.ref 0), some (.ref 95), some (.int x3)] [.int s1, .int s0] I J P := by
  by_cases c1 : s0 = s1
  · replace h := h.1 c1
    exact am_path 3 (fun n => (if_pos c1).trans (rfl)) (am_lv (am_lv (am_lv (am_lv (am_l0))))) h
  · replace h := h.2 c1
    exact am_pret 3 (fun n => (if_neg c1).trans (rfl)) h
theorem bk_147_382 {L : Nat} {xs : Nat → Int32} {d : Nat} {P : Option Value → am_I → am_J → Prop} (x3 : Int32) (s0 : Int32) (s1 : Int32) (I : am_I) (J : am_J)  (h : am_If (s0 = s1) (am_To (am_XX L xs) d 147 18 [some (.ref 1000), some (.ref 0), some (.ref 95), some (.int (x3 + (6 : Int32)))] [] I J P) (P (some (.int (0 : Int32))) I J)) : am_To (am_XX L xs) d 147 382 [some (.ref 1000), some (.ref 0), some (.ref 95), some (.int x3)] [.int s1, .int s0] I J P := by
  by_cases c1 : s0 = s1
  · replace h := h.1 c1
    exact am_path 3 (fun n => (if_pos c1).trans (rfl)) (am_lv (am_lv (am_lv (am_lv (am_l0))))) h
  · replace h := h.2 c1
    exact am_pret 3 (fun n => (if_neg c1).trans (rfl)) h
theorem bk_147_425 {L : Nat} {xs : Nat → Int32} {d : Nat} {P : Option Value → am_I → am_J → Prop} (x3 : Int32) (s0 : Int32) (s1 : Int32) (I : am_I) (J : am_J)  (h : am_If (s0 = s1) (am_To (am_XX L xs) d 147 18 [some (.ref 1000), some (.ref 0), some (.ref 95), some (.int (x3 + (6 : Int32)))] [] I J P) (P (some (.int (0 : Int32))) I J)) : am_To (am_XX L xs) d 147 425 [some (.ref 1000), some (.ref 0), some (.ref 95), some (.int x3)] [.int s1, .int s0] I J P := by
  by_cases c1 : s0 = s1
  · replace h := h.1 c1
    exact am_path 3 (fun n => (if_pos c1).trans (rfl)) (am_lv (am_lv (am_lv (am_lv (am_l0))))) h
  · replace h := h.2 c1
    exact am_pret 3 (fun n => (if_neg c1).trans (rfl)) h
theorem bk_147_488 {L : Nat} {xs : Nat → Int32} {d : Nat} {P : Option Value → am_I → am_J → Prop} (x3 : Int32) (s0 : Int32) (s1 : Int32) (I : am_I) (J : am_J)  (h : am_If (s0 = s1) (am_To (am_XX L xs) d 147 18 [some (.ref 1000), some (.ref 0), some (.ref 95), some (.int (x3 + (6 : Int32)))] [] I J P) (P (some (.int (0 : Int32))) I J)) : am_To (am_XX L xs) d 147 488 [some (.ref 1000), some (.ref 0), some (.ref 95), some (.int x3)] [.int s1, .int s0] I J P := by
  by_cases c1 : s0 = s1
  · replace h := h.1 c1
    exact am_path 3 (fun n => (if_pos c1).trans (rfl)) (am_lv (am_lv (am_lv (am_lv (am_l0))))) h
  · replace h := h.2 c1
    exact am_pret 3 (fun n => (if_neg c1).trans (rfl)) h
theorem bk_147_511 {L : Nat} {xs : Nat → Int32} {d : Nat} {P : Option Value → am_I → am_J → Prop} (x3 : Int32) (s0 : Int32) (s1 : Int32) (I : am_I) (J : am_J)  (h : am_If (s0 = s1) (am_To (am_XX L xs) d 147 18 [some (.ref 1000), some (.ref 0), some (.ref 95), some (.int (x3 + (6 : Int32)))] [] I J P) (P (some (.int (0 : Int32))) I J)) : am_To (am_XX L xs) d 147 511 [some (.ref 1000), some (.ref 0), some (.ref 95), some (.int x3)] [.int s1, .int s0] I J P := by
  by_cases c1 : s0 = s1
  · replace h := h.1 c1
    exact am_path 3 (fun n => (if_pos c1).trans (rfl)) (am_lv (am_lv (am_lv (am_lv (am_l0))))) h
  · replace h := h.2 c1
    exact am_pret 3 (fun n => (if_neg c1).trans (rfl)) h
theorem bk_147_544 {L : Nat} {xs : Nat → Int32} {d : Nat} {P : Option Value → am_I → am_J → Prop} (x3 : Int32) (s0 : Int32) (s1 : Int32) (I : am_I) (J : am_J)  (h : am_If (s0 = s1) (am_To (am_XX L xs) d 147 18 [some (.ref 1000), some (.ref 0), some (.ref 95), some (.int (x3 + (6 : Int32)))] [] I J P) (P (some (.int (0 : Int32))) I J)) : am_To (am_XX L xs) d 147 544 [some (.ref 1000), some (.ref 0), some (.ref 95), some (.int x3)] [.int s1, .int s0] I J P := by
  by_cases c1 : s0 = s1
  · replace h := h.1 c1
    exact am_path 3 (fun n => (if_pos c1).trans (rfl)) (am_lv (am_lv (am_lv (am_lv (am_l0))))) h
  · replace h := h.2 c1
    exact am_pret 3 (fun n => (if_neg c1).trans (rfl)) h
theorem bk_147_577 {L : Nat} {xs : Nat → Int32} {d : Nat} {P : Option Value → am_I → am_J → Prop} (x3 : Int32) (s0 : Int32) (s1 : Int32) (I : am_I) (J : am_J)  (h : am_If (s0 = s1) (am_To (am_XX L xs) d 147 18 [some (.ref 1000), some (.ref 0), some (.ref 95), some (.int (x3 + (6 : Int32)))] [] I J P) (P (some (.int (0 : Int32))) I J)) : am_To (am_XX L xs) d 147 577 [some (.ref 1000), some (.ref 0), some (.ref 95), some (.int x3)] [.int s1, .int s0] I J P := by
  by_cases c1 : s0 = s1
  · replace h := h.1 c1
    exact am_path 3 (fun n => (if_pos c1).trans (rfl)) (am_lv (am_lv (am_lv (am_lv (am_l0))))) h
  · replace h := h.2 c1
    exact am_pret 3 (fun n => (if_neg c1).trans (rfl)) h
theorem bk_147_610 {L : Nat} {xs : Nat → Int32} {d : Nat} {P : Option Value → am_I → am_J → Prop} (x3 : Int32) (s0 : Int32) (s1 : Int32) (I : am_I) (J : am_J)  (h : am_If (s0 = s1) (am_To (am_XX L xs) d 147 18 [some (.ref 1000), some (.ref 0), some (.ref 95), some (.int (x3 + (6 : Int32)))] [] I J P) (P (some (.int (0 : Int32))) I J)) : am_To (am_XX L xs) d 147 610 [some (.ref 1000), some (.ref 0), some (.ref 95), some (.int x3)] [.int s1, .int s0] I J P := by
  by_cases c1 : s0 = s1
  · replace h := h.1 c1
    exact am_path 3 (fun n => (if_pos c1).trans (rfl)) (am_lv (am_lv (am_lv (am_lv (am_l0))))) h
  · replace h := h.2 c1
    exact am_pret 3 (fun n => (if_neg c1).trans (rfl)) h
theorem bk_147_643 {L : Nat} {xs : Nat → Int32} {d : Nat} {P : Option Value → am_I → am_J → Prop} (x3 : Int32) (s0 : Int32) (s1 : Int32) (I : am_I) (J : am_J)  (h : am_If (s0 = s1) (am_To (am_XX L xs) d 147 18 [some (.ref 1000), some (.ref 0), some (.ref 95), some (.int (x3 + (6 : Int32)))] [] I J P) (P (some (.int (0 : Int32))) I J)) : am_To (am_XX L xs) d 147 643 [some (.ref 1000), some (.ref 0), some (.ref 95), some (.int x3)] [.int s1, .int s0] I J P := by
  by_cases c1 : s0 = s1
  · replace h := h.1 c1
    exact am_path 3 (fun n => (if_pos c1).trans (rfl)) (am_lv (am_lv (am_lv (am_lv (am_l0))))) h
  · replace h := h.2 c1
    exact am_pret 3 (fun n => (if_neg c1).trans (rfl)) h
theorem bk_147_676 {L : Nat} {xs : Nat → Int32} {d : Nat} {P : Option Value → am_I → am_J → Prop} (x3 : Int32) (s0 : Int32) (s1 : Int32) (I : am_I) (J : am_J)  (h : am_If (s0 = s1) (am_To (am_XX L xs) d 147 18 [some (.ref 1000), some (.ref 0), some (.ref 95), some (.int (x3 + (6 : Int32)))] [] I J P) (P (some (.int (0 : Int32))) I J)) : am_To (am_XX L xs) d 147 676 [some (.ref 1000), some (.ref 0), some (.ref 95), some (.int x3)] [.int s1, .int s0] I J P := by
  by_cases c1 : s0 = s1
  · replace h := h.1 c1
    exact am_path 3 (fun n => (if_pos c1).trans (rfl)) (am_lv (am_lv (am_lv (am_lv (am_l0))))) h
  · replace h := h.2 c1
    exact am_pret 3 (fun n => (if_neg c1).trans (rfl)) h
theorem bk_147_709 {L : Nat} {xs : Nat → Int32} {d : Nat} {P : Option Value → am_I → am_J → Prop} (x3 : Int32) (s0 : Int32) (s1 : Int32) (I : am_I) (J : am_J)  (h : am_If (s0 = s1) (am_To (am_XX L xs) d 147 18 [some (.ref 1000), some (.ref 0), some (.ref 95), some (.int (x3 + (6 : Int32)))] [] I J P) (P (some (.int (0 : Int32))) I J)) : am_To (am_XX L xs) d 147 709 [some (.ref 1000), some (.ref 0), some (.ref 95), some (.int x3)] [.int s1, .int s0] I J P := by
  by_cases c1 : s0 = s1
  · replace h := h.1 c1
    exact am_path 3 (fun n => (if_pos c1).trans (rfl)) (am_lv (am_lv (am_lv (am_lv (am_l0))))) h
  · replace h := h.2 c1
    exact am_pret 3 (fun n => (if_neg c1).trans (rfl)) h
theorem bk_147_732 {L : Nat} {xs : Nat → Int32} {d : Nat} {P : Option Value → am_I → am_J → Prop} (x3 : Int32) (s0 : Int32) (s1 : Int32) (I : am_I) (J : am_J)  (h : am_If (s0 = s1) (am_To (am_XX L xs) d 147 18 [some (.ref 1000), some (.ref 0), some (.ref 95), some (.int (x3 + (6 : Int32)))] [] I J P) (P (some (.int (0 : Int32))) I J)) : am_To (am_XX L xs) d 147 732 [some (.ref 1000), some (.ref 0), some (.ref 95), some (.int x3)] [.int s1, .int s0] I J P := by
  by_cases c1 : s0 = s1
  · replace h := h.1 c1
    exact am_path 3 (fun n => (if_pos c1).trans (rfl)) (am_lv (am_lv (am_lv (am_lv (am_l0))))) h
  · replace h := h.2 c1
    exact am_pret 3 (fun n => (if_neg c1).trans (rfl)) h
theorem bk_147_745 {L : Nat} {xs : Nat → Int32} {d : Nat} {P : Option Value → am_I → am_J → Prop} (x3 : Int32) (s0 : Int32) (s1 : Int32) (I : am_I) (J : am_J)  (h : am_If (s0 = s1) (am_To (am_XX L xs) d 147 18 [some (.ref 1000), some (.ref 0), some (.ref 95), some (.int (x3 + (6 : Int32)))] [] I J P) (P (some (.int (0 : Int32))) I J)) : am_To (am_XX L xs) d 147 745 [some (.ref 1000), some (.ref 0), some (.ref 95), some (.int x3)] [.int s1, .int s0] I J P := by
  by_cases c1 : s0 = s1
  · replace h := h.1 c1
    exact am_path 3 (fun n => (if_pos c1).trans (rfl)) (am_lv (am_lv (am_lv (am_lv (am_l0))))) h
  · replace h := h.2 c1
    exact am_pret 3 (fun n => (if_neg c1).trans (rfl)) h
theorem bk_147_768 {L : Nat} {xs : Nat → Int32} {d : Nat} {P : Option Value → am_I → am_J → Prop} (x3 : Int32) (s0 : Int32) (s1 : Int32) (I : am_I) (J : am_J)  (h : am_If (s0 = s1) (am_To (am_XX L xs) d 147 18 [some (.ref 1000), some (.ref 0), some (.ref 95), some (.int (x3 + (6 : Int32)))] [] I J P) (P (some (.int (0 : Int32))) I J)) : am_To (am_XX L xs) d 147 768 [some (.ref 1000), some (.ref 0), some (.ref 95), some (.int x3)] [.int s1, .int s0] I J P := by
  by_cases c1 : s0 = s1
  · replace h := h.1 c1
    exact am_path 3 (fun n => (if_pos c1).trans (rfl)) (am_lv (am_lv (am_lv (am_lv (am_l0))))) h
  · replace h := h.2 c1
    exact am_pret 3 (fun n => (if_neg c1).trans (rfl)) h
theorem bk_147_781 {L : Nat} {xs : Nat → Int32} {d : Nat} {P : Option Value → am_I → am_J → Prop} (x3 : Int32) (s0 : Int32) (s1 : Int32) (I : am_I) (J : am_J)  (h : am_If (s0 = s1) (am_To (am_XX L xs) d 147 18 [some (.ref 1000), some (.ref 0), some (.ref 95), some (.int (x3 + (6 : Int32)))] [] I J P) (P (some (.int (0 : Int32))) I J)) : am_To (am_XX L xs) d 147 781 [some (.ref 1000), some (.ref 0), some (.ref 95), some (.int x3)] [.int s1, .int s0] I J P := by
  by_cases c1 : s0 = s1
  · replace h := h.1 c1
    exact am_path 3 (fun n => (if_pos c1).trans (rfl)) (am_lv (am_lv (am_lv (am_lv (am_l0))))) h
  · replace h := h.2 c1
    exact am_pret 3 (fun n => (if_neg c1).trans (rfl)) h
theorem bk_147_804 {L : Nat} {xs : Nat → Int32} {d : Nat} {P : Option Value → am_I → am_J → Prop} (x3 : Int32) (s0 : Int32) (s1 : Int32) (I : am_I) (J : am_J)  (h : am_If (s0 = s1) (am_To (am_XX L xs) d 147 18 [some (.ref 1000), some (.ref 0), some (.ref 95), some (.int (x3 + (6 : Int32)))] [] I J P) (P (some (.int (0 : Int32))) I J)) : am_To (am_XX L xs) d 147 804 [some (.ref 1000), some (.ref 0), some (.ref 95), some (.int x3)] [.int s1, .int s0] I J P := by
  by_cases c1 : s0 = s1
  · replace h := h.1 c1
    exact am_path 3 (fun n => (if_pos c1).trans (rfl)) (am_lv (am_lv (am_lv (am_lv (am_l0))))) h
  · replace h := h.2 c1
    exact am_pret 3 (fun n => (if_neg c1).trans (rfl)) h
theorem bk_147_827 {L : Nat} {xs : Nat → Int32} {d : Nat} {P : Option Value → am_I → am_J → Prop} (x3 : Int32) (s0 : Int32) (s1 : Int32) (I : am_I) (J : am_J)  (h : am_If (s0 = s1) (am_To (am_XX L xs) d 147 18 [some (.ref 1000), some (.ref 0), some (.ref 95), some (.int (x3 + (6 : Int32)))] [] I J P) (P (some (.int (0 : Int32))) I J)) : am_To (am_XX L xs) d 147 827 [some (.ref 1000), some (.ref 0), some (.ref 95), some (.int x3)] [.int s1, .int s0] I J P := by
  by_cases c1 : s0 = s1
  · replace h := h.1 c1
    exact am_path 3 (fun n => (if_pos c1).trans (rfl)) (am_lv (am_lv (am_lv (am_lv (am_l0))))) h
  · replace h := h.2 c1
    exact am_pret 3 (fun n => (if_neg c1).trans (rfl)) h
