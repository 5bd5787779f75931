set_option maxRecDepth 100000
set_option maxHeartbeats 4000000
theorem bk_10_0 {L : Nat} {xs : Nat → Int32} {d : Nat} {P : Option Value → am_I → am_J → Prop} (x1 : Int32) (x2 : Int32) (x3 : Int32) (x4 : Int32) (x5 : Int32) (I : am_I) (J : am_J)  (h : am_If (((I 1 1) + (20 : Int32)) ≤ (200 : Int32)) (am_To (am_XX L xs) d 11 0 [some (.ref 1), some (.int x1), none] [] I J (fun r I2 J2 => am_To (am_XX L xs) (d + 1) 10 26 [some (.ref 0), none, some (.int x2), some (.int x3), some (.int x4), some (.int x5)] (r.toList ++ []) I2 J2 P)) (P (some (.int (-1 : Int32))) I J)) : am_To (am_XX L xs) (d + 1) 10 0 [some (.ref 0), some (.int x1), some (.int x2), some (.int x3), some (.int x4), some (.int x5)] [] I J P := by
  by_cases c1 : ((I 1 1) + (20 : Int32)) ≤ (200 : Int32)
  · replace h := h.1 c1
    exact am_pcall 11 (fun n => (if_pos c1).trans (rfl)) (am_lv (am_ln (am_lv (am_lv (am_lv (am_lv (am_l0))))))) h
  · replace h := h.2 c1
    exact am_pret 9 (fun n => (if_neg c1).trans (rfl)) h
theorem bk_10_26 {L : Nat} {xs : Nat → Int32} {d : Nat} {P : Option Value → am_I → am_J → Prop} (x2 : Int32) (x3 : Int32) (x4 : Int32) (x5 : Int32) (I : am_I) (J : am_J)  (h : am_To (am_XX L xs) d 11 0 [some (.ref 1), some (.int x2), none] [] I J (fun r I2 J2 => am_To (am_XX L xs) (d + 1) 10 34 [some (.ref 0), none, none, some (.int x3), some (.int x4), some (.int x5)] (r.toList ++ []) I2 J2 P)) : am_To (am_XX L xs) (d + 1) 10 26 [some (.ref 0), none, some (.int x2), some (.int x3), some (.int x4), some (.int x5)] [] I J P := by
  exact am_pcall 4 (fun n => rfl) (am_lv (am_ln (am_ln (am_lv (am_lv (am_lv (am_l0))))))) h
theorem bk_10_34 {L : Nat} {xs : Nat → Int32} {d : Nat} {P : Option Value → am_I → am_J → Prop} (x3 : Int32) (x4 : Int32) (x5 : Int32) (I : am_I) (J : am_J)  (h : am_To (am_XX L xs) d 11 0 [some (.ref 1), some (.int x3), none] [] I J (fun r I2 J2 => am_To (am_XX L xs) (d + 1) 10 42 [some (.ref 0), none, none, none, some (.int x4), some (.int x5)] (r.toList ++ []) I2 J2 P)) : am_To (am_XX L xs) (d + 1) 10 34 [some (.ref 0), none, none, some (.int x3), some (.int x4), some (.int x5)] [] I J P := by
  exact am_pcall 4 (fun n => rfl) (am_lv (am_ln (am_ln (am_ln (am_lv (am_lv (am_l0))))))) h
theorem bk_10_42 {L : Nat} {xs : Nat → Int32} {d : Nat} {P : Option Value → am_I → am_J → Prop} (x4 : Int32) (x5 : Int32) (I : am_I) (J : am_J)  (h : am_To (am_XX L xs) d 11 0 [some (.ref 1), some (.int x4), none] [] I J (fun r I2 J2 => am_To (am_XX L xs) (d + 1) 10 51 [some (.ref 0), none, none, none, none, some (.int x5)] (r.toList ++ []) I2 J2 P)) : am_To (am_XX L xs) (d + 1) 10 42 [some (.ref 0), none, none, none, some (.int x4), some (.int x5)] [] I J P := by
  exact am_pcall 4 (fun n => rfl) (am_lv (am_ln (am_ln (am_ln (am_ln (am_lv (am_l0))))))) h
theorem bk_10_51 {L : Nat} {xs : Nat → Int32} {d : Nat} {P : Option Value → am_I → am_J → Prop} (x5 : Int32) (I : am_I) (J : am_J)  (h : am_To (am_XX L xs) d 11 0 [some (.ref 1), some (.int x5), none] [] I J (fun r I2 J2 => am_To (am_XX L xs) (d + 1) 10 60 [some (.ref 0), none, none, none, none, none] (r.toList ++ []) I2 J2 P)) : am_To (am_XX L xs) (d + 1) 10 51 [some (.ref 0), none, none, none, none, some (.int x5)] [] I J P := by
  exact am_pcall 4 (fun n => rfl) (am_lv (am_ln (am_ln (am_ln (am_ln (am_ln (am_l0))))))) h
theorem bk_10_60 {L : Nat} {xs : Nat → Int32} {d : Nat} {P : Option Value → am_I → am_J → Prop}  (I : am_I) (J : am_J)  (h : P (some (.int (I 1 1))) I J) : am_To (am_XX L xs) d 10 60 [some (.ref 0), none, none, none, none, none] [] I J P := by
  exact am_pret 4 (fun n => rfl) h
theorem bk_11_0 {L : Nat} {xs : Nat → Int32} {d : Nat} {P : Option Value → am_I → am_J → Prop} (x1 : Int32) (I : am_I) (J : am_J)  (h : am_To (am_XX L xs) d 11 3 [some (.ref 1), some (.int x1), some (.int (24 : Int32))] [] I J P) : am_To (am_XX L xs) d 11 0 [some (.ref 1), some (.int x1), none] [] I J P := by
  exact am_path 2 (fun n => rfl) (am_lv (am_lv (am_lv (am_l0)))) h
theorem bk_11_3 {L : Nat} {xs : Nat → Int32} {d : Nat} {P : Option Value → am_I → am_J → Prop} (x1 : Int32) (x2 : Int32) (I : am_I) (J : am_J)  (h : am_If (x2 < 0) (P none I J) (am_If ((200 : Int32) ≤ (I 1 1)) (P none I J) (am_Ix (I 1 1) 200 fun q1 => am_To (am_XX L xs) d 11 3 [some (.ref 1), some (.int x1), some (.int (x2 + (-8 : Int32)))] [] (am_up (am_up I 2 q1 (((x1.toUInt32 >>> (x2.toUInt32 &&& Int32.toUInt32 31)).toInt32) &&& (255 : Int32))) 1 1 (((am_up I 2 q1 (((x1.toUInt32 >>> (x2.toUInt32 &&& Int32.toUInt32 31)).toInt32) &&& (255 : Int32))) 1 1) + (1 : Int32))) J P))) : am_To (am_XX L xs) d 11 3 [some (.ref 1), some (.int x1), some (.int x2)] [] I J P := by
  by_cases c1 : x2 < 0
  · replace h := h.1 c1
    exact am_pret 3 (fun n => (if_pos c1).trans (rfl)) h
  · replace h := h.2 c1
    by_cases c2 : (200 : Int32) ≤ (I 1 1)
    · replace h := h.1 c2
      exact am_pret 7 (fun n => (if_neg c1).trans ((if_pos c2).trans (rfl))) h
    · replace h := h.2 c2
      obtain ⟨q1, j3, h⟩ := h
      exact am_path 24 (fun n => (if_neg c1).trans ((if_neg c2).trans ((am_bs j3).trans (rfl)))) (am_lv (am_lv (am_lv (am_l0)))) h
theorem bk_12_0 {L : Nat} {xs : Nat → Int32} {d : Nat} {P : Option Value → am_I → am_J → Prop} (x1 : Int32) (I : am_I) (J : am_J)  (h : am_To (am_XX L xs) d 13 0 [some (.ref 9), none] [] I J (fun r I2 J2 => am_To (am_XX L xs) (d + 1) 12 7 [some (.ref 0), some (.int x1), none] (r.toList ++ []) I2 J2 P)) : am_To (am_XX L xs) (d + 1) 12 0 [some (.ref 0), some (.int x1), none] [] I J P := by
  exact am_pcall 3 (fun n => rfl) (am_lv (am_lv (am_ln (am_l0)))) h
theorem bk_12_7 {L : Nat} {xs : Nat → Int32} {d : Nat} {P : Option Value → am_I → am_J → Prop} (x1 : Int32) (s0 : Int32) (I : am_I) (J : am_J)  (h : am_To (am_XX L xs) d 14 0 [some (.ref 1), some (.int x1)] [] I J (fun r I2 J2 => am_To (am_XX L xs) (d + 1) 12 16 [some (.ref 0), some (.int x1), some (.int s0)] (r.toList ++ []) I2 J2 P)) : am_To (am_XX L xs) (d + 1) 12 7 [some (.ref 0), some (.int x1), none] [.int s0] I J P := by
  exact am_pcall 5 (fun n => rfl) (am_lv (am_lv (am_lv (am_l0)))) h
theorem bk_12_16 {L : Nat} {xs : Nat → Int32} {d : Nat} {P : Option Value → am_I → am_J → Prop} (x1 : Int32) (x2 : Int32) (s0 : Int32) (I : am_I) (J : am_J)  (h : am_If (s0 = 0) (P (some (.int (-1 : Int32))) I J) (am_If (x2 = (-1 : Int32)) (P (some (.int (-1 : Int32))) I J) (am_To (am_XX L xs) d 15 0 [some (.ref 5), some (.ref 1), some (.int x1), none, none, none, none] [] I J (fun r I2 J2 => am_To (am_XX L xs) (d + 1) 12 38 [some (.ref 0), none, some (.int x2)] (r.toList ++ []) I2 J2 P)))) : am_To (am_XX L xs) (d + 1) 12 16 [some (.ref 0), some (.int x1), some (.int x2)] [.int s0] I J P := by
  by_cases c1 : s0 = 0
  · replace h := h.1 c1
    exact am_pret 3 (fun n => (if_pos c1).trans (rfl)) h
  · replace h := h.2 c1
    by_cases c2 : x2 = (-1 : Int32)
    · replace h := h.1 c2
      exact am_pret 6 (fun n => (if_neg c1).trans ((if_pos c2).trans (rfl))) h
    · replace h := h.2 c2
      exact am_pcall 10 (fun n => (if_neg c1).trans ((if_neg c2).trans (rfl))) (am_lv (am_ln (am_lv (am_l0)))) h
theorem bk_12_38 {L : Nat} {xs : Nat → Int32} {d : Nat} {P : Option Value → am_I → am_J → Prop} (x2 : Int32) (I : am_I) (J : am_J)  (h : am_Ix x2 12 fun q1 => am_To (am_XX L xs) d 12 63 [some (.ref 0), none, some (.int x2)] [(am_rf (am_tL.getD q1 none)), .ref 3, .ref 5] (am_up I 1 1 (0 : Int32)) J P) : am_To (am_XX L xs) d 12 38 [some (.ref 0), none, some (.int x2)] [] I J P := by
  obtain ⟨q1, j1, h⟩ := h
  exact am_path 13 (fun n => (am_bs j1).trans (rfl)) (am_lv (am_ln (am_lv (am_l0)))) h
theorem bk_12_63 {L : Nat} {xs : Nat → Int32} {d : Nat} {P : Option Value → am_I → am_J → Prop} (x2 : Int32) (I : am_I) (J : am_J) (q : Nat) (hq : q < 12) (h : am_To (am_XX L xs) d 21 0 [some (.ref 5), some (.ref 3), some (.ref (gH q)), none, none, none] [] I J (fun r I2 J2 => am_To (am_XX L xs) (d + 1) 12 66 [some (.ref 0), none, some (.int x2)] (r.toList ++ []) I2 J2 P)) : am_To (am_XX L xs) (d + 1) 12 63 [some (.ref 0), none, some (.int x2)] [.ref (gH q), .ref 3, .ref 5] I J P := by
  exact am_pcall 1 (fun n => rfl) (am_lv (am_ln (am_lv (am_l0)))) h
theorem bk_12_66 {L : Nat} {xs : Nat → Int32} {d : Nat} {P : Option Value → am_I → am_J → Prop} (x2 : Int32) (I : am_I) (J : am_J)  (h : am_To (am_XX L xs) d 29 0 [some (.ref 9), some (.int x2)] [] I J (fun r I2 J2 => am_To (am_XX L xs) (d + 1) 12 74 [some (.ref 0), none, some (.int x2)] (r.toList ++ []) I2 J2 P)) : am_To (am_XX L xs) (d + 1) 12 66 [some (.ref 0), none, some (.int x2)] [] I J P := by
  exact am_pcall 4 (fun n => rfl) (am_lv (am_ln (am_lv (am_l0)))) h
theorem bk_12_74 {L : Nat} {xs : Nat → Int32} {d : Nat} {P : Option Value → am_I → am_J → Prop} (x2 : Int32) (I : am_I) (J : am_J)  (h : P (some (.int x2)) (am_up I 0 7 (1 : Int32)) J) : am_To (am_XX L xs) d 12 74 [some (.ref 0), none, some (.int x2)] [] I J P := by
  exact am_pret 5 (fun n => rfl) h
theorem bk_13_0 {L : Nat} {xs : Nat → Int32} {d : Nat} {P : Option Value → am_I → am_J → Prop}  (I : am_I) (J : am_J)  (h : am_To (am_XX L xs) d 13 2 [some (.ref 9), some (.int (0 : Int32))] [] I J P) : am_To (am_XX L xs) d 13 0 [some (.ref 9), none] [] I J P := by
  exact am_path 2 (fun n => rfl) (am_lv (am_lv (am_l0))) h
theorem bk_13_2 {L : Nat} {xs : Nat → Int32} {d : Nat} {P : Option Value → am_I → am_J → Prop} (x1 : Int32) (I : am_I) (J : am_J)  (h : am_If ((12 : Int32) ≤ x1) (P (some (.int (-1 : Int32))) I J) (am_Ix x1 12 fun q1 => am_If ((I 59 q1) = 0) (P (some (.int x1)) I J) (am_To (am_XX L xs) d 13 2 [some (.ref 9), some (.int (x1 + (1 : Int32)))] [] I J P))) : am_To (am_XX L xs) d 13 2 [some (.ref 9), some (.int x1)] [] I J P := by
  by_cases c1 : (12 : Int32) ≤ x1
  · replace h := h.1 c1
    exact am_pret 5 (fun n => (if_pos c1).trans (rfl)) h
  · replace h := h.2 c1
    obtain ⟨q1, j2, h⟩ := h
    by_cases c3 : (I 59 q1) = 0
    · replace h := h.1 c3
      exact am_pret 10 (fun n => (if_neg c1).trans ((am_bs j2).trans ((if_pos c3).trans (rfl)))) h
    · replace h := h.2 c3
      exact am_path 10 (fun n => (if_neg c1).trans ((am_bs j2).trans ((if_neg c3).trans (rfl)))) (am_lv (am_lv (am_l0))) h
theorem bk_14_0 {L : Nat} {xs : Nat → Int32} {d : Nat} {P : Option Value → am_I → am_J → Prop} (x1 : Int32) (I : am_I) (J : am_J)  (h : am_If (x1 < 0) (P (some (.int (0 : Int32))) I J) (am_If ((I 1 1) < x1) (P (some (.int (0 : Int32))) I J) (P (some (.int (1 : Int32))) I J))) : am_To (am_XX L xs) d 14 0 [some (.ref 1), some (.int x1)] [] I J P := by
  by_cases c1 : x1 < 0
  · replace h := h.1 c1
    exact am_pret 4 (fun n => (if_pos c1).trans (rfl)) h
  · replace h := h.2 c1
    by_cases c2 : (I 1 1) < x1
    · replace h := h.1 c2
      exact am_pret 8 (fun n => (if_neg c1).trans ((if_pos c2).trans (rfl))) h
    · replace h := h.2 c2
      exact am_pret 9 (fun n => (if_neg c1).trans ((if_neg c2).trans (rfl))) h
theorem bk_15_0 {L : Nat} {xs : Nat → Int32} {d : Nat} {P : Option Value → am_I → am_J → Prop} (x2 : Int32) (I : am_I) (J : am_J)  (h : am_To (am_XX L xs) d 15 13 [some (.ref 5), some (.ref 1), some (.int x2), some (.int (0 : Int32)), some (.int (1 : Int32)), some (.int (0 : Int32)), none] [] (am_up I 5 3 (0 : Int32)) J P) : am_To (am_XX L xs) d 15 0 [some (.ref 5), some (.ref 1), some (.int x2), none, none, none, none] [] I J P := by
  exact am_path 9 (fun n => rfl) (am_lv (am_lv (am_lv (am_lv (am_lv (am_lv (am_ln (am_l0)))))))) h
theorem bk_15_13 {L : Nat} {xs : Nat → Int32} {d : Nat} {P : Option Value → am_I → am_J → Prop} (x2 : Int32) (x3 : Int32) (x4 : Int32) (x5 : Int32) (I : am_I) (J : am_J)  (h : am_If (x2 ≤ x5) (P none I J) (am_If ((200 : Int32) ≤ x5) (P none I J) (am_Ix x5 200 fun q1 => am_To (am_XX L xs) d 16 0 [some (.int (I 2 q1))] [] I J (fun r I2 J2 => am_To (am_XX L xs) (d + 1) 15 41 [some (.ref 5), some (.ref 1), some (.int x2), some (.int x3), some (.int x4), some (.int x5), some (.int (I 2 q1))] (r.toList ++ []) I2 J2 P)))) : am_To (am_XX L xs) (d + 1) 15 13 [some (.ref 5), some (.ref 1), some (.int x2), some (.int x3), some (.int x4), some (.int x5), none] [] I J P := by
  by_cases c1 : x2 ≤ x5
  · replace h := h.1 c1
    exact am_pret 4 (fun n => (if_pos c1).trans (rfl)) h
  · replace h := h.2 c1
    by_cases c2 : (200 : Int32) ≤ x5
    · replace h := h.1 c2
      exact am_pret 7 (fun n => (if_neg c1).trans ((if_pos c2).trans (rfl))) h
    · replace h := h.2 c2
      obtain ⟨q1, j3, h⟩ := h
      exact am_pcall 13 (fun n => (if_neg c1).trans ((if_neg c2).trans ((am_bs j3).trans (rfl)))) (am_lv (am_lv (am_lv (am_lv (am_lv (am_lv (am_lv (am_l0)))))))) h
theorem bk_15_41 {L : Nat} {xs : Nat → Int32} {d : Nat} {P : Option Value → am_I → am_J → Prop} (x2 : Int32) (x3 : Int32) (x4 : Int32) (x5 : Int32) (x6 : Int32) (s0 : Int32) (I : am_I) (J : am_J)  (h : am_If (s0 = 0) (am_If (x4 = 0) (am_To (am_XX L xs) d 20 0 [some (.int x6)] [] I J (fun r I2 J2 => am_To (am_XX L xs) (d + 1) 15 90 [some (.ref 5), some (.ref 1), some (.int x2), some (.int (0 : Int32)), none, some (.int x5), none] (r.toList ++ []) I2 J2 P)) (am_To (am_XX L xs) (d + 1) 15 93 [some (.ref 5), some (.ref 1), some (.int x2), some (.int (0 : Int32)), none, some (.int x5), none] [] I J P)) (am_If (x3 = 0) (am_If (x4 = 0) (am_To (am_XX L xs) (d + 1) 15 61 [some (.ref 5), some (.ref 1), some (.int x2), none, none, some (.int x5), some (.int x6)] [.int (1 : Int32), .int x5, .ref 5] I J P) (am_To (am_XX L xs) (d + 1) 15 61 [some (.ref 5), some (.ref 1), some (.int x2), none, none, some (.int x5), some (.int x6)] [.int (0 : Int32), .int x5, .ref 5] I J P)) (am_To (am_XX L xs) (d + 1) 15 64 [some (.ref 5), some (.ref 1), some (.int x2), none, none, some (.int x5), some (.int x6)] [] I J P))) : am_To (am_XX L xs) (d + 1) 15 41 [some (.ref 5), some (.ref 1), some (.int x2), some (.int x3), some (.int x4), some (.int x5), some (.int x6)] [.int s0] I J P := by
  by_cases c1 : s0 = 0
  · replace h := h.1 c1
    by_cases c2 : x4 = 0
    · replace h := h.1 c2
      exact am_pcall 7 (fun n => (if_pos c1).trans ((if_pos c2).trans (rfl))) (am_lv (am_lv (am_lv (am_lv (am_ln (am_lv (am_ln (am_l0)))))))) h
    · replace h := h.2 c2
      exact am_path 5 (fun n => (if_pos c1).trans ((if_neg c2).trans (rfl))) (am_lv (am_lv (am_lv (am_lv (am_ln (am_lv (am_ln (am_l0)))))))) h
  · replace h := h.2 c1
    by_cases c3 : x3 = 0
    · replace h := h.1 c3
      by_cases c4 : x4 = 0
      · replace h := h.1 c4
        exact am_path 9 (fun n => (if_neg c1).trans ((if_pos c3).trans ((if_pos c4).trans (rfl)))) (am_lv (am_lv (am_lv (am_ln (am_ln (am_lv (am_lv (am_l0)))))))) h
      · replace h := h.2 c4
        exact am_path 8 (fun n => (if_neg c1).trans ((if_pos c3).trans ((if_neg c4).trans (rfl)))) (am_lv (am_lv (am_lv (am_ln (am_ln (am_lv (am_lv (am_l0)))))))) h
    · replace h := h.2 c3
      exact am_path 3 (fun n => (if_neg c1).trans ((if_neg c3).trans (rfl))) (am_lv (am_lv (am_lv (am_ln (am_ln (am_lv (am_lv (am_l0)))))))) h
theorem bk_15_93 {L : Nat} {xs : Nat → Int32} {d : Nat} {P : Option Value → am_I → am_J → Prop} (x2 : Int32) (x3 : Int32) (x5 : Int32) (I : am_I) (J : am_J)  (h : am_To (am_XX L xs) d 15 13 [some (.ref 5), some (.ref 1), some (.int x2), some (.int x3), some (.int (1 : Int32)), some (.int (x5 + (1 : Int32))), none] [] I J P) : am_To (am_XX L xs) d 15 93 [some (.ref 5), some (.ref 1), some (.int x2), some (.int x3), none, some (.int x5), none] [] I J P := by
  exact am_path 5 (fun n => rfl) (am_lv (am_lv (am_lv (am_lv (am_lv (am_lv (am_ln (am_l0)))))))) h
theorem bk_15_90 {L : Nat} {xs : Nat → Int32} {d : Nat} {P : Option Value → am_I → am_J → Prop} (x2 : Int32) (x3 : Int32) (x5 : Int32) (s0 : Int32) (I : am_I) (J : am_J)  (h : am_If (s0 = 0) (am_To (am_XX L xs) d 15 93 [some (.ref 5), some (.ref 1), some (.int x2), some (.int x3), none, some (.int x5), none] [] I J P) (am_To (am_XX L xs) d 15 13 [some (.ref 5), some (.ref 1), some (.int x2), some (.int x3), some (.int (0 : Int32)), some (.int (x5 + (1 : Int32))), none] [] I J P)) : am_To (am_XX L xs) d 15 90 [some (.ref 5), some (.ref 1), some (.int x2), some (.int x3), none, some (.int x5), none] [.int s0] I J P := by
  by_cases c1 : s0 = 0
  · replace h := h.1 c1
    exact am_path 1 (fun n => (if_pos c1).trans (rfl)) (am_lv (am_lv (am_lv (am_lv (am_ln (am_lv (am_ln (am_l0)))))))) h
  · replace h := h.2 c1
    exact am_path 5 (fun n => (if_neg c1).trans (rfl)) (am_lv (am_lv (am_lv (am_lv (am_lv (am_lv (am_ln (am_l0)))))))) h
theorem bk_15_64 {L : Nat} {xs : Nat → Int32} {d : Nat} {P : Option Value → am_I → am_J → Prop} (x2 : Int32) (x5 : Int32) (x6 : Int32) (I : am_I) (J : am_J)  (h : am_To (am_XX L xs) d 18 0 [some (.ref 5), some (.int x6)] [] I J (fun r I2 J2 => am_To (am_XX L xs) (d + 1) 15 70 [some (.ref 5), some (.ref 1), some (.int x2), none, none, some (.int x5), none] (r.toList ++ []) I2 J2 P)) : am_To (am_XX L xs) (d + 1) 15 64 [some (.ref 5), some (.ref 1), some (.int x2), none, none, some (.int x5), some (.int x6)] [] I J P := by
  exact am_pcall 3 (fun n => rfl) (am_lv (am_lv (am_lv (am_ln (am_ln (am_lv (am_ln (am_l0)))))))) h
theorem bk_15_61 {L : Nat} {xs : Nat → Int32} {d : Nat} {P : Option Value → am_I → am_J → Prop} (x2 : Int32) (x5 : Int32) (x6 : Int32) (s1 : Int32) (s2 : Int32) (I : am_I) (J : am_J)  (h : am_To (am_XX L xs) d 17 0 [some (.ref 5), some (.int s1), some (.int s2)] [] I J (fun r I2 J2 => am_To (am_XX L xs) (d + 1) 15 64 [some (.ref 5), some (.ref 1), some (.int x2), none, none, some (.int x5), some (.int x6)] (r.toList ++ []) I2 J2 P)) : am_To (am_XX L xs) (d + 1) 15 61 [some (.ref 5), some (.ref 1), some (.int x2), none, none, some (.int x5), some (.int x6)] [.int s2, .int s1, .ref 5] I J P := by
  exact am_pcall 1 (fun n => rfl) (am_lv (am_lv (am_lv (am_ln (am_ln (am_lv (am_lv (am_l0)))))))) h
theorem bk_15_70 {L : Nat} {xs : Nat → Int32} {d : Nat} {P : Option Value → am_I → am_J → Prop} (x2 : Int32) (x5 : Int32) (I : am_I) (J : am_J)  (h : am_To (am_XX L xs) d 15 13 [some (.ref 5), some (.ref 1), some (.int x2), some (.int (1 : Int32)), some (.int (0 : Int32)), some (.int (x5 + (1 : Int32))), none] [] I J P) : am_To (am_XX L xs) d 15 70 [some (.ref 5), some (.ref 1), some (.int x2), none, none, some (.int x5), none] [] I J P := by
  exact am_path 7 (fun n => rfl) (am_lv (am_lv (am_lv (am_lv (am_lv (am_lv (am_ln (am_l0)))))))) h
theorem bk_16_0 {L : Nat} {xs : Nat → Int32} {d : Nat} {P : Option Value → am_I → am_J → Prop} (x0 : Int32) (I : am_I) (J : am_J)  (h : am_If (x0 < (97 : Int32)) (P (some (.int (0 : Int32))) I J) (am_If ((122 : Int32) < x0) (P (some (.int (0 : Int32))) I J) (P (some (.int (1 : Int32))) I J))) : am_To (am_XX L xs) d 16 0 [some (.int x0)] [] I J P := by
  by_cases c1 : x0 < (97 : Int32)
  · replace h := h.1 c1
    exact am_pret 5 (fun n => (if_pos c1).trans (rfl)) h
  · replace h := h.2 c1
    by_cases c2 : (122 : Int32) < x0
    · replace h := h.1 c2
      exact am_pret 8 (fun n => (if_neg c1).trans ((if_pos c2).trans (rfl))) h
    · replace h := h.2 c2
      exact am_pret 9 (fun n => (if_neg c1).trans ((if_neg c2).trans (rfl))) h
theorem bk_17_0 {L : Nat} {xs : Nat → Int32} {d : Nat} {P : Option Value → am_I → am_J → Prop} (x1 : Int32) (x2 : Int32) (I : am_I) (J : am_J)  (h : am_If ((100 : Int32) ≤ (I 5 3)) (P none I J) (am_Ix (I 5 3) 100 fun q1 => am_Ix (I 5 3) 100 fun q2 => am_Ix ((am_up I 7 q2 x1) 5 3) 100 fun q3 => P none (am_up (am_up (am_up I 7 q2 x1) 8 q3 (vp_nar .boolean x2)) 5 3 (((am_up (am_up I 7 q2 x1) 8 q3 (vp_nar .boolean x2)) 5 3) + (1 : Int32))) (am_up J 6 q1 (0 : Int64)))) : am_To (am_XX L xs) d 17 0 [some (.ref 5), some (.int x1), some (.int x2)] [] I J P := by
  by_cases c1 : (100 : Int32) ≤ (I 5 3)
  · replace h := h.1 c1
    exact am_pret 5 (fun n => (if_pos c1).trans (rfl)) h
  · replace h := h.2 c1
    obtain ⟨q1, j2, h⟩ := h
    obtain ⟨q2, j3, h⟩ := h
    obtain ⟨q3, j4, h⟩ := h
    exact am_pret 29 (fun n => (if_neg c1).trans ((am_bs j2).trans ((am_bs j3).trans ((am_bs j4).trans (rfl))))) h
theorem bk_18_0 {L : Nat} {xs : Nat → Int32} {d : Nat} {P : Option Value → am_I → am_J → Prop} (x1 : Int32) (I : am_I) (J : am_J)  (h : am_If ((I 5 3) ≤ 0) (P none I J) (am_Ix ((I 5 3) - (1 : Int32)) 100 fun q1 => am_To (am_XX L xs) d 19 0 [some (.long (J 6 q1)), none, some (.int x1), none] [] I J (fun r I2 J2 => am_To (am_XX L xs) (d + 1) 18 32 [none, none] (r.toList ++ [.int ((I 5 3) - (1 : Int32)), .ref 6]) I2 J2 P))) : am_To (am_XX L xs) (d + 1) 18 0 [some (.ref 5), some (.int x1)] [] I J P := by
  by_cases c1 : (I 5 3) ≤ 0
  · replace h := h.1 c1
    exact am_pret 4 (fun n => (if_pos c1).trans (rfl)) h
  · replace h := h.2 c1
    obtain ⟨q1, j2, h⟩ := h
    exact am_pcall 18 (fun n => (if_neg c1).trans ((am_bs j2).trans (rfl))) (am_ln (am_ln (am_l0))) h
theorem bk_18_32 {L : Nat} {xs : Nat → Int32} {d : Nat} {P : Option Value → am_I → am_J → Prop} (s1 : Int32) (s2 : Int64) (I : am_I) (J : am_J)  (h : am_Ix s1 100 fun q1 => P none I (am_up J 6 q1 s2)) : am_To (am_XX L xs) d 18 32 [none, none] [.long s2, .int s1, .ref 6] I J P := by
  obtain ⟨q1, j1, h⟩ := h
  exact am_pret 2 (fun n => (am_bs j1).trans (rfl)) h
theorem bk_19_0 {L : Nat} {xs : Nat → Int32} {d : Nat} {P : Option Value → am_I → am_J → Prop} (x0 : Int64) (x2 : Int32) (I : am_I) (J : am_J)  (h : am_If ((lg_cmp ((x0.toUInt64 >>> ((56 : Int32).toInt64.toUInt64 &&& Int64.toUInt64 63)).toInt64) (0 : Int64)) = 0) (am_To (am_XX L xs) d 19 14 [some (.long x0), none, some (.int x2), none] [.int (0 : Int32)] I J P) (am_To (am_XX L xs) d 19 14 [some (.long x0), none, some (.int x2), none] [.int (1 : Int32)] I J P)) : am_To (am_XX L xs) d 19 0 [some (.long x0), none, some (.int x2), none] [] I J P := by
  by_cases c1 : (lg_cmp ((x0.toUInt64 >>> ((56 : Int32).toInt64.toUInt64 &&& Int64.toUInt64 63)).toInt64) (0 : Int64)) = 0
  · replace h := h.1 c1
    exact am_path 7 (fun n => (if_pos c1).trans (rfl)) (am_lv (am_ln (am_lv (am_ln (am_l0))))) h
  · replace h := h.2 c1
    exact am_path 8 (fun n => (if_neg c1).trans (rfl)) (am_lv (am_ln (am_lv (am_ln (am_l0))))) h
theorem bk_19_14 {L : Nat} {xs : Nat → Int32} {d : Nat} {P : Option Value → am_I → am_J → Prop} (x0 : Int64) (x2 : Int32) (s0 : Int32) (I : am_I) (J : am_J)  (h : am_If (s0 = 0) (P (some (.long ((x0 <<< ((8 : Int32).toInt64 &&& 63)) ||| (x2.toInt64)))) I J) (P (some (.long (-1 : Int64))) I J)) : am_To (am_XX L xs) d 19 14 [some (.long x0), none, some (.int x2), none] [.int s0] I J P := by
  by_cases c1 : s0 = 0
  · replace h := h.1 c1
    exact am_pret 10 (fun n => (if_pos c1).trans (rfl)) h
  · replace h := h.2 c1
    exact am_pret 6 (fun n => (if_neg c1).trans (rfl)) h
theorem bk_20_0 {L : Nat} {xs : Nat → Int32} {d : Nat} {P : Option Value → am_I → am_J → Prop} (x0 : Int32) (I : am_I) (J : am_J)  (h : am_If (x0 = (32 : Int32)) (P (some (.int (1 : Int32))) I J) (am_If (x0 = (10 : Int32)) (P (some (.int (1 : Int32))) I J) (P (some (.int (0 : Int32))) I J))) : am_To (am_XX L xs) d 20 0 [some (.int x0)] [] I J P := by
  by_cases c1 : x0 = (32 : Int32)
  · replace h := h.1 c1
    exact am_pret 6 (fun n => (if_pos c1).trans (rfl)) h
  · replace h := h.2 c1
    by_cases c2 : x0 = (10 : Int32)
    · replace h := h.1 c2
      exact am_pret 9 (fun n => (if_neg c1).trans ((if_pos c2).trans (rfl))) h
    · replace h := h.2 c2
      exact am_pret 8 (fun n => (if_neg c1).trans ((if_neg c2).trans (rfl))) h
theorem bk_21_0 {L : Nat} {xs : Nat → Int32} {d : Nat} {P : Option Value → am_I → am_J → Prop}  (I : am_I) (J : am_J) (t : Nat) (ht : t < 12) (h : am_To (am_XX L xs) d 21 2 [some (.ref 5), some (.ref 3), some (.ref (gH t)), some (.int (0 : Int32)), none, none] [] I J P) : am_To (am_XX L xs) d 21 0 [some (.ref 5), some (.ref 3), some (.ref (gH t)), none, none, none] [] I J P := by
  exact am_path 2 (fun n => rfl) (am_lv (am_lv (am_lv (am_lv (am_ln (am_ln (am_l0))))))) h
theorem bk_21_2 {L : Nat} {xs : Nat → Int32} {d : Nat} {P : Option Value → am_I → am_J → Prop} (x3 : Int32) (I : am_I) (J : am_J) (t : Nat) (ht : t < 12) (h : am_If ((I 5 3) ≤ x3) (P none I J) (am_To (am_XX L xs) d 21 13 [some (.ref 5), some (.ref 3), some (.ref (gH t)), some (.int x3), some (.int (0 : Int32)), none] [] I J P)) : am_To (am_XX L xs) d 21 2 [some (.ref 5), some (.ref 3), some (.ref (gH t)), some (.int x3), none, none] [] I J P := by
  by_cases c1 : (I 5 3) ≤ x3
  · replace h := h.1 c1
    exact am_pret 5 (fun n => (if_pos c1).trans (rfl)) h
  · replace h := h.2 c1
    exact am_path 6 (fun n => (if_neg c1).trans (rfl)) (am_lv (am_lv (am_lv (am_lv (am_lv (am_ln (am_l0))))))) h
theorem bk_21_13 {L : Nat} {xs : Nat → Int32} {d : Nat} {P : Option Value → am_I → am_J → Prop} (x3 : Int32) (x4 : Int32) (I : am_I) (J : am_J) (t : Nat) (ht : t < 12) (h : am_If ((5 : Int32) ≤ x4) (am_To (am_XX L xs) (d + 1) 21 2 [some (.ref 5), some (.ref 3), some (.ref (gH t)), some (.int (x3 + (1 : Int32))), none, none] [] I J P) (am_Ix x3 100 fun q1 => am_To (am_XX L xs) d 22 0 [some (.long (J 6 q1)), none, none, none, none, none, none] [] I J (fun r I2 J2 => am_To (am_XX L xs) (d + 1) 21 28 [some (.ref 5), some (.ref 3), some (.ref (gH t)), some (.int x3), some (.int x4), none] (r.toList ++ []) I2 J2 P))) : am_To (am_XX L xs) (d + 1) 21 13 [some (.ref 5), some (.ref 3), some (.ref (gH t)), some (.int x3), some (.int x4), none] [] I J P := by
  by_cases c1 : (5 : Int32) ≤ x4
  · replace h := h.1 c1
    exact am_path 5 (fun n => (if_pos c1).trans (rfl)) (am_lv (am_lv (am_lv (am_lv (am_ln (am_ln (am_l0))))))) h
  · replace h := h.2 c1
    obtain ⟨q1, j2, h⟩ := h
    exact am_pcall 8 (fun n => (if_neg c1).trans ((am_bs j2).trans (rfl))) (am_lv (am_lv (am_lv (am_lv (am_lv (am_ln (am_l0))))))) h
theorem bk_21_28 {L : Nat} {xs : Nat → Int32} {d : Nat} {P : Option Value → am_I → am_J → Prop} (x3 : Int32) (x4 : Int32) (s0 : Int32) (I : am_I) (J : am_J) (t : Nat) (ht : t < 12) (h : am_If (s0 = 0) (am_To (am_XX L xs) (d + 1) 21 2 [some (.ref 5), some (.ref 3), some (.ref (gH t)), some (.int (x3 + (1 : Int32))), none, none] [] I J P) (am_To (am_XX L xs) d 23 0 [some (.ref 5), some (.int x4), some (.int x3), none, none, none] [] I J (fun r I2 J2 => am_To (am_XX L xs) (d + 1) 21 38 [some (.ref 5), some (.ref 3), some (.ref (gH t)), some (.int x3), some (.int x4), none] (r.toList ++ []) I2 J2 P))) : am_To (am_XX L xs) (d + 1) 21 28 [some (.ref 5), some (.ref 3), some (.ref (gH t)), some (.int x3), some (.int x4), none] [.int s0] I J P := by
  by_cases c1 : s0 = 0
  · replace h := h.1 c1
    exact am_path 3 (fun n => (if_pos c1).trans (rfl)) (am_lv (am_lv (am_lv (am_lv (am_ln (am_ln (am_l0))))))) h
  · replace h := h.2 c1
    exact am_pcall 5 (fun n => (if_neg c1).trans (rfl)) (am_lv (am_lv (am_lv (am_lv (am_lv (am_ln (am_l0))))))) h
theorem bk_21_38 {L : Nat} {xs : Nat → Int32} {d : Nat} {P : Option Value → am_I → am_J → Prop} (x3 : Int32) (x4 : Int32) (s0 : Int32) (I : am_I) (J : am_J) (t : Nat) (ht : t < 12) (h : am_If (s0 = (-1 : Int32)) (am_To (am_XX L xs) (d + 1) 21 13 [some (.ref 5), some (.ref 3), some (.ref (gH t)), some (.int x3), some (.int (x4 + (1 : Int32))), none] [] I J P) (am_To (am_XX L xs) d 24 0 [some (.ref 5), some (.int x4), some (.int x3), some (.int s0), some (.ref 3), some (.ref (gH t)), none, none, none, none] [] I J (fun r I2 J2 => am_To (am_XX L xs) (d + 1) 21 57 [some (.ref 5), some (.ref 3), some (.ref (gH t)), some (.int x3), some (.int x4), none] (r.toList ++ []) I2 J2 P))) : am_To (am_XX L xs) (d + 1) 21 38 [some (.ref 5), some (.ref 3), some (.ref (gH t)), some (.int x3), some (.int x4), none] [.int s0] I J P := by
  by_cases c1 : s0 = (-1 : Int32)
  · replace h := h.1 c1
    exact am_path 6 (fun n => (if_pos c1).trans (rfl)) (am_lv (am_lv (am_lv (am_lv (am_lv (am_ln (am_l0))))))) h
  · replace h := h.2 c1
    exact am_pcall 11 (fun n => (if_neg c1).trans (rfl)) (am_lv (am_lv (am_lv (am_lv (am_lv (am_ln (am_l0))))))) h
theorem bk_21_57 {L : Nat} {xs : Nat → Int32} {d : Nat} {P : Option Value → am_I → am_J → Prop} (x3 : Int32) (x4 : Int32) (I : am_I) (J : am_J) (t : Nat) (ht : t < 12) (h : am_To (am_XX L xs) d 21 13 [some (.ref 5), some (.ref 3), some (.ref (gH t)), some (.int x3), some (.int (x4 + (1 : Int32))), none] [] I J P) : am_To (am_XX L xs) d 21 57 [some (.ref 5), some (.ref 3), some (.ref (gH t)), some (.int x3), some (.int x4), none] [] I J P := by
  exact am_path 2 (fun n => rfl) (am_lv (am_lv (am_lv (am_lv (am_lv (am_ln (am_l0))))))) h
theorem bk_22_0 {L : Nat} {xs : Nat → Int32} {d : Nat} {P : Option Value → am_I → am_J → Prop} (x0 : Int64) (I : am_I) (J : am_J)  (h : am_To (am_XX L xs) d 22 10 [some (.long x0), none, some (.ref 1001), some (.int (Int32.ofNat 10)), some (.int (0 : Int32)), none, none] [] I J P) : am_To (am_XX L xs) d 22 0 [some (.long x0), none, none, none, none, none, none] [] I J P := by
  exact am_path 7 (fun n => rfl) (am_lv (am_ln (am_lv (am_lv (am_lv (am_ln (am_ln (am_l0)))))))) h
theorem bk_22_10 {L : Nat} {xs : Nat → Int32} {d : Nat} {P : Option Value → am_I → am_J → Prop} (x0 : Int64) (x3 : Int32) (x4 : Int32) (I : am_I) (J : am_J)  (h : am_If (x3 ≤ x4) (am_If ((lg_cmp x0 (0 : Int64)) ≤ 0) (P (some (.int (0 : Int32))) I J) (P (some (.int (1 : Int32))) I J)) (am_Ix x4 10 fun q1 => am_If ((lg_cmp x0 (am_s1 q1)) = 0) (P (some (.int (0 : Int32))) I J) (am_To (am_XX L xs) d 22 10 [some (.long x0), none, some (.ref 1001), some (.int x3), some (.int (x4 + (1 : Int32))), none, none] [] I J P))) : am_To (am_XX L xs) d 22 10 [some (.long x0), none, some (.ref 1001), some (.int x3), some (.int x4), none, none] [] I J P := by
  by_cases c1 : x3 ≤ x4
  · replace h := h.1 c1
    by_cases c2 : (lg_cmp x0 (0 : Int64)) ≤ 0
    · replace h := h.1 c2
      exact am_pret 9 (fun n => (if_pos c1).trans ((if_pos c2).trans (rfl))) h
    · replace h := h.2 c2
      exact am_pret 10 (fun n => (if_pos c1).trans ((if_neg c2).trans (rfl))) h
  · replace h := h.2 c1
    obtain ⟨q1, j3, h⟩ := h
    by_cases c4 : (lg_cmp x0 (am_s1 q1)) = 0
    · replace h := h.1 c4
      exact am_pret 13 (fun n => (if_neg c1).trans ((am_bs j3).trans ((if_pos c4).trans (rfl)))) h
    · replace h := h.2 c4
      exact am_path 13 (fun n => (if_neg c1).trans ((am_bs j3).trans ((if_neg c4).trans (rfl)))) (am_lv (am_ln (am_lv (am_lv (am_lv (am_ln (am_ln (am_l0)))))))) h
theorem bk_23_0 {L : Nat} {xs : Nat → Int32} {d : Nat} {P : Option Value → am_I → am_J → Prop} (x1 : Int32) (x2 : Int32) (I : am_I) (J : am_J)  (h : am_Ix x1 6 fun q1 => am_Ix (x1 + (1 : Int32)) 6 fun q2 => am_If ((I 5 3) ≤ (((x2 + (1 : Int32)) + (am_s3 q2)) - (am_s3 q1))) (P (some (.int (-1 : Int32))) I J) (am_Ix (((x2 + (1 : Int32)) + (am_s3 q2)) - (am_s3 q1)) 100 fun q3 => am_If ((I 8 q3) = 0) (P (some (.int (-1 : Int32))) I J) (am_Ix (((x2 + (1 : Int32)) + (am_s3 q2)) - (am_s3 q1)) 100 fun q4 => am_Ix x2 100 fun q5 => am_If ((lg_cmp (J 6 q4) (J 6 q5)) = 0) (P (some (.int (-1 : Int32))) I J) (am_Ix (((x2 + (1 : Int32)) + (am_s3 q2)) - (am_s3 q1)) 100 fun q6 => am_To (am_XX L xs) d 22 0 [some (.long (J 6 q6)), none, none, none, none, none, none] [] I J (fun r I2 J2 => am_To (am_XX L xs) (d + 1) 23 67 [some (.ref 5), none, some (.int x2), some (.int (am_s3 q1)), some (.int (((x2 + (1 : Int32)) + (am_s3 q2)) - (am_s3 q1))), none] (r.toList ++ []) I2 J2 P))))) : am_To (am_XX L xs) (d + 1) 23 0 [some (.ref 5), some (.int x1), some (.int x2), none, none, none] [] I J P := by
  obtain ⟨q1, j1, h⟩ := h
  obtain ⟨q2, j2, h⟩ := h
  by_cases c3 : (I 5 3) ≤ (((x2 + (1 : Int32)) + (am_s3 q2)) - (am_s3 q1))
  · replace h := h.1 c3
    exact am_pret 22 (fun n => (am_bs j1).trans ((am_bs j2).trans ((if_pos c3).trans (rfl)))) h
  · replace h := h.2 c3
    obtain ⟨q3, j4, h⟩ := h
    by_cases c5 : (I 8 q3) = 0
    · replace h := h.1 c5
      exact am_pret 27 (fun n => (am_bs j1).trans ((am_bs j2).trans ((if_neg c3).trans ((am_bs j4).trans ((if_pos c5).trans (rfl)))))) h
    · replace h := h.2 c5
      obtain ⟨q4, j6, h⟩ := h
      obtain ⟨q5, j7, h⟩ := h
      by_cases c8 : (lg_cmp (J 6 q4) (J 6 q5)) = 0
      · replace h := h.1 c8
        exact am_pret 37 (fun n => (am_bs j1).trans ((am_bs j2).trans ((if_neg c3).trans ((am_bs j4).trans ((if_neg c5).trans ((am_bs j6).trans ((am_bs j7).trans ((if_pos c8).trans (rfl))))))))) h
      · replace h := h.2 c8
        obtain ⟨q6, j9, h⟩ := h
        exact am_pcall 40 (fun n => (am_bs j1).trans ((am_bs j2).trans ((if_neg c3).trans ((am_bs j4).trans ((if_neg c5).trans ((am_bs j6).trans ((am_bs j7).trans ((if_neg c8).trans ((am_bs j9).trans (rfl)))))))))) (am_lv (am_ln (am_lv (am_lv (am_lv (am_ln (am_l0))))))) h
theorem bk_23_67 {L : Nat} {xs : Nat → Int32} {d : Nat} {P : Option Value → am_I → am_J → Prop} (x2 : Int32) (x3 : Int32) (x4 : Int32) (s0 : Int32) (I : am_I) (J : am_J)  (h : am_If (s0 = 0) (P (some (.int (-1 : Int32))) I J) (am_To (am_XX L xs) d 23 77 [some (.ref 5), none, some (.int x2), some (.int x3), some (.int x4), some (.int (x2 + (1 : Int32)))] [] I J P)) : am_To (am_XX L xs) d 23 67 [some (.ref 5), none, some (.int x2), some (.int x3), some (.int x4), none] [.int s0] I J P := by
  by_cases c1 : s0 = 0
  · replace h := h.1 c1
    exact am_pret 3 (fun n => (if_pos c1).trans (rfl)) h
  · replace h := h.2 c1
    exact am_path 5 (fun n => (if_neg c1).trans (rfl)) (am_lv (am_ln (am_lv (am_lv (am_lv (am_lv (am_l0))))))) h
theorem bk_23_77 {L : Nat} {xs : Nat → Int32} {d : Nat} {P : Option Value → am_I → am_J → Prop} (x2 : Int32) (x3 : Int32) (x4 : Int32) (x5 : Int32) (I : am_I) (J : am_J)  (h : am_If (x4 ≤ x5) (P (some (.int x4)) I J) (am_Ix x5 100 fun q1 => am_If ((I 8 q1) = 0) (P (some (.int (-1 : Int32))) I J) (am_Ix x5 100 fun q2 => am_Ix (((x3 + x5) - x2) - (1 : Int32)) 11 fun q3 => am_If ((lg_cmp (J 6 q2) (am_s2 q3)) = 0) (am_To (am_XX L xs) d 23 77 [some (.ref 5), none, some (.int x2), some (.int x3), some (.int x4), some (.int (x5 + (1 : Int32)))] [] I J P) (P (some (.int (-1 : Int32))) I J)))) : am_To (am_XX L xs) d 23 77 [some (.ref 5), none, some (.int x2), some (.int x3), some (.int x4), some (.int x5)] [] I J P := by
  by_cases c1 : x4 ≤ x5
  · replace h := h.1 c1
    exact am_pret 5 (fun n => (if_pos c1).trans (rfl)) h
  · replace h := h.2 c1
    obtain ⟨q1, j2, h⟩ := h
    by_cases c3 : (I 8 q1) = 0
    · replace h := h.1 c3
      exact am_pret 10 (fun n => (if_neg c1).trans ((am_bs j2).trans ((if_pos c3).trans (rfl)))) h
    · replace h := h.2 c3
      obtain ⟨q2, j4, h⟩ := h
      obtain ⟨q3, j5, h⟩ := h
      by_cases c6 : (lg_cmp (J 6 q2) (am_s2 q3)) = 0
      · replace h := h.1 c6
        exact am_path 25 (fun n => (if_neg c1).trans ((am_bs j2).trans ((if_neg c3).trans ((am_bs j4).trans ((am_bs j5).trans ((if_pos c6).trans (rfl))))))) (am_lv (am_ln (am_lv (am_lv (am_lv (am_lv (am_l0))))))) h
      · replace h := h.2 c6
        exact am_pret 25 (fun n => (if_neg c1).trans ((am_bs j2).trans ((if_neg c3).trans ((am_bs j4).trans ((am_bs j5).trans ((if_neg c6).trans (rfl))))))) h
theorem bk_24_0 {L : Nat} {xs : Nat → Int32} {d : Nat} {P : Option Value → am_I → am_J → Prop} (x1 : Int32) (x2 : Int32) (x3 : Int32) (I : am_I) (J : am_J) (t : Nat) (ht : t < 12) (h : am_Ix x2 100 fun q1 => am_To (am_XX L xs) d 25 0 [some (.ref 3), some (.long (J 6 q1)), none, none] [] I J (fun r I2 J2 => am_To (am_XX L xs) (d + 1) 24 11 [some (.ref 5), some (.int x1), some (.int x2), some (.int x3), some (.ref 3), some (.ref (gH t)), none, none, none, none] (r.toList ++ []) I2 J2 P)) : am_To (am_XX L xs) (d + 1) 24 0 [some (.ref 5), some (.int x1), some (.int x2), some (.int x3), some (.ref 3), some (.ref (gH t)), none, none, none, none] [] I J P := by
  obtain ⟨q1, j1, h⟩ := h
  exact am_pcall 6 (fun n => (am_bs j1).trans (rfl)) (am_lv (am_lv (am_lv (am_lv (am_lv (am_lv (am_ln (am_ln (am_ln (am_ln (am_l0))))))))))) h
theorem bk_24_11 {L : Nat} {xs : Nat → Int32} {d : Nat} {P : Option Value → am_I → am_J → Prop} (x1 : Int32) (x2 : Int32) (x3 : Int32) (s0 : Int32) (I : am_I) (J : am_J) (t : Nat) (ht : t < 12) (h : am_If (s0 = (-1 : Int32)) (am_To (am_XX L xs) (d + 1) 24 34 [some (.ref 5), some (.int x1), some (.int x2), none, none, some (.ref (gH t)), some (.int s0), none, none, none] [.int (-1 : Int32)] I J P) (am_Ix x3 100 fun q1 => am_To (am_XX L xs) d 25 0 [some (.ref 3), some (.long (J 6 q1)), none, none] [] I J (fun r I2 J2 => am_To (am_XX L xs) (d + 1) 24 34 [some (.ref 5), some (.int x1), some (.int x2), none, none, some (.ref (gH t)), some (.int s0), none, none, none] (r.toList ++ []) I2 J2 P))) : am_To (am_XX L xs) (d + 1) 24 11 [some (.ref 5), some (.int x1), some (.int x2), some (.int x3), some (.ref 3), some (.ref (gH t)), none, none, none, none] [.int s0] I J P := by
  by_cases c1 : s0 = (-1 : Int32)
  · replace h := h.1 c1
    exact am_path 6 (fun n => (if_pos c1).trans (rfl)) (am_lv (am_lv (am_lv (am_ln (am_ln (am_lv (am_lv (am_ln (am_ln (am_ln (am_l0))))))))))) h
  · replace h := h.2 c1
    obtain ⟨q1, j2, h⟩ := h
    exact am_pcall 10 (fun n => (if_neg c1).trans ((am_bs j2).trans (rfl))) (am_lv (am_lv (am_lv (am_ln (am_ln (am_lv (am_lv (am_ln (am_ln (am_ln (am_l0))))))))))) h
theorem bk_24_34 {L : Nat} {xs : Nat → Int32} {d : Nat} {P : Option Value → am_I → am_J → Prop} (x1 : Int32) (x2 : Int32) (x6 : Int32) (s0 : Int32) (I : am_I) (J : am_J) (t : Nat) (ht : t < 12) (h : am_If (s0 = (-1 : Int32)) (P none I J) (am_Ix x1 5 fun q1 => am_If ((am_s6 q1) = (1 : Int32)) (am_To (am_XX L xs) d 24 57 [some (.ref 5), some (.int x1), some (.int x2), none, none, some (.ref (gH t)), some (.int x6), some (.int s0), none, none] [.int (1 : Int32)] I J P) (am_To (am_XX L xs) d 24 57 [some (.ref 5), some (.int x1), some (.int x2), none, none, some (.ref (gH t)), some (.int x6), some (.int s0), none, none] [.int (0 : Int32)] I J P))) : am_To (am_XX L xs) d 24 34 [some (.ref 5), some (.int x1), some (.int x2), none, none, some (.ref (gH t)), some (.int x6), none, none, none] [.int s0] I J P := by
  by_cases c1 : s0 = (-1 : Int32)
  · replace h := h.1 c1
    exact am_pret 5 (fun n => (if_pos c1).trans (rfl)) h
  · replace h := h.2 c1
    obtain ⟨q1, j2, h⟩ := h
    by_cases c3 : (am_s6 q1) = (1 : Int32)
    · replace h := h.1 c3
      exact am_path 11 (fun n => (if_neg c1).trans ((am_bs j2).trans ((if_pos c3).trans (rfl)))) (am_lv (am_lv (am_lv (am_ln (am_ln (am_lv (am_lv (am_lv (am_ln (am_ln (am_l0))))))))))) h
    · replace h := h.2 c3
      exact am_path 10 (fun n => (if_neg c1).trans ((am_bs j2).trans ((if_neg c3).trans (rfl)))) (am_lv (am_lv (am_lv (am_ln (am_ln (am_lv (am_lv (am_lv (am_ln (am_ln (am_l0))))))))))) h
theorem bk_24_57 {L : Nat} {xs : Nat → Int32} {d : Nat} {P : Option Value → am_I → am_J → Prop} (x1 : Int32) (x2 : Int32) (x6 : Int32) (x7 : Int32) (s0 : Int32) (I : am_I) (J : am_J) (t : Nat) (ht : t < 12) (h : am_Ix x1 5 fun q1 => am_If (s0 = 0) (am_To (am_XX L xs) d 24 76 [some (.ref 5), some (.int x1), some (.int x2), none, none, some (.ref (gH t)), some (.int x6), some (.int x7), some (.int s0), none] [.int x6, .int (am_s4 q1)] I J P) (am_To (am_XX L xs) d 24 76 [some (.ref 5), some (.int x1), some (.int x2), none, none, some (.ref (gH t)), some (.int x6), some (.int x7), some (.int s0), none] [.int x7, .int (am_s4 q1)] I J P)) : am_To (am_XX L xs) d 24 57 [some (.ref 5), some (.int x1), some (.int x2), none, none, some (.ref (gH t)), some (.int x6), some (.int x7), none, none] [.int s0] I J P := by
  obtain ⟨q1, j1, h⟩ := h
  by_cases c2 : s0 = 0
  · replace h := h.1 c2
    exact am_path 7 (fun n => (am_bs j1).trans ((if_pos c2).trans (rfl))) (am_lv (am_lv (am_lv (am_ln (am_ln (am_lv (am_lv (am_lv (am_lv (am_ln (am_l0))))))))))) h
  · replace h := h.2 c2
    exact am_path 8 (fun n => (am_bs j1).trans ((if_neg c2).trans (rfl))) (am_lv (am_lv (am_lv (am_ln (am_ln (am_lv (am_lv (am_lv (am_lv (am_ln (am_l0))))))))))) h
theorem bk_24_76 {L : Nat} {xs : Nat → Int32} {d : Nat} {P : Option Value → am_I → am_J → Prop} (x1 : Int32) (x2 : Int32) (x6 : Int32) (x7 : Int32) (x8 : Int32) (s0 : Int32) (s1 : Int32) (I : am_I) (J : am_J) (t : Nat) (ht : t < 12) (h : am_If (x8 = 0) (am_To (am_XX L xs) d 24 88 [some (.ref 5), some (.int x1), some (.int x2), none, none, some (.ref (gH t)), none, none, none, none] [.int x7, .int s1, .int s0] I J P) (am_To (am_XX L xs) d 24 88 [some (.ref 5), some (.int x1), some (.int x2), none, none, some (.ref (gH t)), none, none, none, none] [.int x6, .int s1, .int s0] I J P)) : am_To (am_XX L xs) d 24 76 [some (.ref 5), some (.int x1), some (.int x2), none, none, some (.ref (gH t)), some (.int x6), some (.int x7), some (.int x8), none] [.int s1, .int s0] I J P := by
  by_cases c1 : x8 = 0
  · replace h := h.1 c1
    exact am_path 3 (fun n => (if_pos c1).trans (rfl)) (am_lv (am_lv (am_lv (am_ln (am_ln (am_lv (am_ln (am_ln (am_ln (am_ln (am_l0))))))))))) h
  · replace h := h.2 c1
    exact am_path 4 (fun n => (if_neg c1).trans (rfl)) (am_lv (am_lv (am_lv (am_ln (am_ln (am_lv (am_ln (am_ln (am_ln (am_ln (am_l0))))))))))) h
theorem bk_24_88 {L : Nat} {xs : Nat → Int32} {d : Nat} {P : Option Value → am_I → am_J → Prop} (x1 : Int32) (x2 : Int32) (s0 : Int32) (s1 : Int32) (s2 : Int32) (I : am_I) (J : am_J) (t : Nat) (ht : t < 12) (h : am_To (am_XX L xs) d 26 0 [some (.int s0), some (.int s1), some (.int s2), none, none, none] [] I J (fun r I2 J2 => am_To (am_XX L xs) (d + 1) 24 91 [some (.ref 5), some (.int x1), some (.int x2), none, none, some (.ref (gH t)), none, none, none, none] (r.toList ++ []) I2 J2 P)) : am_To (am_XX L xs) (d + 1) 24 88 [some (.ref 5), some (.int x1), some (.int x2), none, none, some (.ref (gH t)), none, none, none, none] [.int s2, .int s1, .int s0] I J P := by
  exact am_pcall 1 (fun n => rfl) (am_lv (am_lv (am_lv (am_ln (am_ln (am_lv (am_ln (am_ln (am_ln (am_ln (am_l0))))))))))) h
theorem bk_24_91 {L : Nat} {xs : Nat → Int32} {d : Nat} {P : Option Value → am_I → am_J → Prop} (x1 : Int32) (x2 : Int32) (s0 : Int32) (I : am_I) (J : am_J) (t : Nat) (ht : t < 12) (h : am_Ix x1 5 fun q1 => am_Ix x2 100 fun q2 => am_To (am_XX L xs) d 27 0 [some (.ref (gH t)), some (.int s0), some (.int (am_s5 q1)), some (.int (I 7 q2))] [] I J (fun r I2 J2 => am_To (am_XX L xs) (d + 1) 24 111 [none, none, none, none, none, none, none, none, none, none] (r.toList ++ []) I2 J2 P)) : am_To (am_XX L xs) (d + 1) 24 91 [some (.ref 5), some (.int x1), some (.int x2), none, none, some (.ref (gH t)), none, none, none, none] [.int s0] I J P := by
  match t, ht, h with
  | 0, _, h =>
    obtain ⟨q1, j1, h⟩ := h
    obtain ⟨q2, j2, h⟩ := h
    exact am_pcall 11 (fun n => (am_bs j1).trans ((am_bs j2).trans (rfl))) (am_ln (am_ln (am_ln (am_ln (am_ln (am_ln (am_ln (am_ln (am_ln (am_ln (am_l0))))))))))) h
  | 1, _, h =>
    obtain ⟨q1, j1, h⟩ := h
    obtain ⟨q2, j2, h⟩ := h
    exact am_pcall 11 (fun n => (am_bs j1).trans ((am_bs j2).trans (rfl))) (am_ln (am_ln (am_ln (am_ln (am_ln (am_ln (am_ln (am_ln (am_ln (am_ln (am_l0))))))))))) h
  | 2, _, h =>
    obtain ⟨q1, j1, h⟩ := h
    obtain ⟨q2, j2, h⟩ := h
    exact am_pcall 11 (fun n => (am_bs j1).trans ((am_bs j2).trans (rfl))) (am_ln (am_ln (am_ln (am_ln (am_ln (am_ln (am_ln (am_ln (am_ln (am_ln (am_l0))))))))))) h
  | 3, _, h =>
    obtain ⟨q1, j1, h⟩ := h
    obtain ⟨q2, j2, h⟩ := h
    exact am_pcall 11 (fun n => (am_bs j1).trans ((am_bs j2).trans (rfl))) (am_ln (am_ln (am_ln (am_ln (am_ln (am_ln (am_ln (am_ln (am_ln (am_ln (am_l0))))))))))) h
  | 4, _, h =>
    obtain ⟨q1, j1, h⟩ := h
    obtain ⟨q2, j2, h⟩ := h
    exact am_pcall 11 (fun n => (am_bs j1).trans ((am_bs j2).trans (rfl))) (am_ln (am_ln (am_ln (am_ln (am_ln (am_ln (am_ln (am_ln (am_ln (am_ln (am_l0))))))))))) h
  | 5, _, h =>
    obtain ⟨q1, j1, h⟩ := h
    obtain ⟨q2, j2, h⟩ := h
    exact am_pcall 11 (fun n => (am_bs j1).trans ((am_bs j2).trans (rfl))) (am_ln (am_ln (am_ln (am_ln (am_ln (am_ln (am_ln (am_ln (am_ln (am_ln (am_l0))))))))))) h
  | 6, _, h =>
    obtain ⟨q1, j1, h⟩ := h
    obtain ⟨q2, j2, h⟩ := h
    exact am_pcall 11 (fun n => (am_bs j1).trans ((am_bs j2).trans (rfl))) (am_ln (am_ln (am_ln (am_ln (am_ln (am_ln (am_ln (am_ln (am_ln (am_ln (am_l0))))))))))) h
  | 7, _, h =>
    obtain ⟨q1, j1, h⟩ := h
    obtain ⟨q2, j2, h⟩ := h
    exact am_pcall 11 (fun n => (am_bs j1).trans ((am_bs j2).trans (rfl))) (am_ln (am_ln (am_ln (am_ln (am_ln (am_ln (am_ln (am_ln (am_ln (am_ln (am_l0))))))))))) h
  | 8, _, h =>
    obtain ⟨q1, j1, h⟩ := h
    obtain ⟨q2, j2, h⟩ := h
    exact am_pcall 11 (fun n => (am_bs j1).trans ((am_bs j2).trans (rfl))) (am_ln (am_ln (am_ln (am_ln (am_ln (am_ln (am_ln (am_ln (am_ln (am_ln (am_l0))))))))))) h
  | 9, _, h =>
    obtain ⟨q1, j1, h⟩ := h
    obtain ⟨q2, j2, h⟩ := h
    exact am_pcall 11 (fun n => (am_bs j1).trans ((am_bs j2).trans (rfl))) (am_ln (am_ln (am_ln (am_ln (am_ln (am_ln (am_ln (am_ln (am_ln (am_ln (am_l0))))))))))) h
  | 10, _, h =>
    obtain ⟨q1, j1, h⟩ := h
    obtain ⟨q2, j2, h⟩ := h
    exact am_pcall 11 (fun n => (am_bs j1).trans ((am_bs j2).trans (rfl))) (am_ln (am_ln (am_ln (am_ln (am_ln (am_ln (am_ln (am_ln (am_ln (am_ln (am_l0))))))))))) h
  | 11, _, h =>
    obtain ⟨q1, j1, h⟩ := h
    obtain ⟨q2, j2, h⟩ := h
    exact am_pcall 11 (fun n => (am_bs j1).trans ((am_bs j2).trans (rfl))) (am_ln (am_ln (am_ln (am_ln (am_ln (am_ln (am_ln (am_ln (am_ln (am_ln (am_l0))))))))))) h
  | t + 12, h0, _ => exact absurd h0 (by omega)
theorem bk_24_111 {L : Nat} {xs : Nat → Int32} {d : Nat} {P : Option Value → am_I → am_J → Prop}  (I : am_I) (J : am_J)  (h : P none I J) : am_To (am_XX L xs) d 24 111 [none, none, none, none, none, none, none, none, none, none] [] I J P := by
  exact am_pret 1 (fun n => rfl) h
