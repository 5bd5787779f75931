set_option maxRecDepth 100000
set_option maxHeartbeats 4000000
theorem bk_104_0 {L : Nat} {xs : Nat → Int32} {d : Nat} {P : Option Value → am_I → am_J → Prop} (x1 : Int32) (x2 : Int32) (I : am_I) (J : am_J)  (h : am_If (x2 ≤ x1) (P (some (.int (0 : Int32))) I J) (am_Ix x1 200 fun q1 => am_If ((I 96 q1) < (97 : Int32)) (P (some (.int (0 : Int32))) I J) (am_Ix x1 200 fun q2 => am_If ((122 : Int32) < (I 96 q2)) (P (some (.int (0 : Int32))) I J) (P (some (.int (1 : Int32))) I J)))) : am_To (am_XX L xs) d 104 0 [some (.ref 95), some (.int x1), some (.int x2)] [] I J P := by
  by_cases c1 : x2 ≤ x1
  · replace h := h.1 c1
    exact am_pret 5 (fun n => (if_pos c1).trans (rfl)) h
  · replace h := h.2 c1
    obtain ⟨q1, j2, h⟩ := h
    by_cases c3 : (I 96 q1) < (97 : Int32)
    · replace h := h.1 c3
      exact am_pret 11 (fun n => (if_neg c1).trans ((am_bs j2).trans ((if_pos c3).trans (rfl)))) h
    · replace h := h.2 c3
      obtain ⟨q2, j4, h⟩ := h
      by_cases c5 : (122 : Int32) < (I 96 q2)
      · replace h := h.1 c5
        exact am_pret 17 (fun n => (if_neg c1).trans ((am_bs j2).trans ((if_neg c3).trans ((am_bs j4).trans ((if_pos c5).trans (rfl)))))) h
      · replace h := h.2 c5
        exact am_pret 18 (fun n => (if_neg c1).trans ((am_bs j2).trans ((if_neg c3).trans ((am_bs j4).trans ((if_neg c5).trans (rfl)))))) h
theorem bk_105_0 {L : Nat} {xs : Nat → Int32} {d : Nat} {P : Option Value → am_I → am_J → Prop} (x0 : Int64) (I : am_I) (J : am_J)  (h : am_If ((lg_cmp x0 (0 : Int64)) = 0) (P (some (.int (0 : Int32))) I J) (am_If ((lg_cmp x0 (1937073000 : Int64)) = 0) (P (some (.int (0 : Int32))) I J) (am_If ((lg_cmp x0 (24947 : Int64)) = 0) (P (some (.int (0 : Int32))) I J) (am_If ((lg_cmp x0 (6385252 : Int64)) = 0) (P (some (.int (0 : Int32))) I J) (am_If ((lg_cmp x0 (478694368626 : Int64)) = 0) (P (some (.int (0 : Int32))) I J) (am_If ((lg_cmp x0 (26995 : Int64)) = 0) (P (some (.int (0 : Int32))) I J) (am_If ((lg_cmp x0 (97 : Int64)) = 0) (P (some (.int (0 : Int32))) I J) (am_If ((lg_cmp x0 (1802071652 : Int64)) = 0) (P (some (.int (0 : Int32))) I J) (am_If ((lg_cmp x0 (28518 : Int64)) = 0) (P (some (.int (0 : Int32))) I J) (am_If ((lg_cmp x0 (1885434484 : Int64)) = 0) (P (some (.int (0 : Int32))) I J) (am_If ((lg_cmp x0 (28530 : Int64)) = 0) (P (some (.int (0 : Int32))) I J) (P (some (.int (1 : Int32))) I J)))))))))))) : am_To (am_XX L xs) d 105 0 [some (.long x0), none] [] I J P := by
  by_cases c1 : (lg_cmp x0 (0 : Int64)) = 0
  · replace h := h.1 c1
    exact am_pret 6 (fun n => (if_pos c1).trans (rfl)) h
  · replace h := h.2 c1
    by_cases c2 : (lg_cmp x0 (1937073000 : Int64)) = 0
    · replace h := h.1 c2
      exact am_pret 10 (fun n => (if_neg c1).trans ((if_pos c2).trans (rfl))) h
    · replace h := h.2 c2
      by_cases c3 : (lg_cmp x0 (24947 : Int64)) = 0
      · replace h := h.1 c3
        exact am_pret 14 (fun n => (if_neg c1).trans ((if_neg c2).trans ((if_pos c3).trans (rfl)))) h
      · replace h := h.2 c3
        by_cases c4 : (lg_cmp x0 (6385252 : Int64)) = 0
        · replace h := h.1 c4
          exact am_pret 18 (fun n => (if_neg c1).trans ((if_neg c2).trans ((if_neg c3).trans ((if_pos c4).trans (rfl))))) h
        · replace h := h.2 c4
          by_cases c5 : (lg_cmp x0 (478694368626 : Int64)) = 0
          · replace h := h.1 c5
            exact am_pret 22 (fun n => (if_neg c1).trans ((if_neg c2).trans ((if_neg c3).trans ((if_neg c4).trans ((if_pos c5).trans (rfl)))))) h
          · replace h := h.2 c5
            by_cases c6 : (lg_cmp x0 (26995 : Int64)) = 0
            · replace h := h.1 c6
              exact am_pret 26 (fun n => (if_neg c1).trans ((if_neg c2).trans ((if_neg c3).trans ((if_neg c4).trans ((if_neg c5).trans ((if_pos c6).trans (rfl))))))) h
            · replace h := h.2 c6
              by_cases c7 : (lg_cmp x0 (97 : Int64)) = 0
              · replace h := h.1 c7
                exact am_pret 30 (fun n => (if_neg c1).trans ((if_neg c2).trans ((if_neg c3).trans ((if_neg c4).trans ((if_neg c5).trans ((if_neg c6).trans ((if_pos c7).trans (rfl)))))))) h
              · replace h := h.2 c7
                by_cases c8 : (lg_cmp x0 (1802071652 : Int64)) = 0
                · replace h := h.1 c8
                  exact am_pret 34 (fun n => (if_neg c1).trans ((if_neg c2).trans ((if_neg c3).trans ((if_neg c4).trans ((if_neg c5).trans ((if_neg c6).trans ((if_neg c7).trans ((if_pos c8).trans (rfl))))))))) h
                · replace h := h.2 c8
                  by_cases c9 : (lg_cmp x0 (28518 : Int64)) = 0
                  · replace h := h.1 c9
                    exact am_pret 38 (fun n => (if_neg c1).trans ((if_neg c2).trans ((if_neg c3).trans ((if_neg c4).trans ((if_neg c5).trans ((if_neg c6).trans ((if_neg c7).trans ((if_neg c8).trans ((if_pos c9).trans (rfl)))))))))) h
                  · replace h := h.2 c9
                    by_cases c10 : (lg_cmp x0 (1885434484 : Int64)) = 0
                    · replace h := h.1 c10
                      exact am_pret 42 (fun n => (if_neg c1).trans ((if_neg c2).trans ((if_neg c3).trans ((if_neg c4).trans ((if_neg c5).trans ((if_neg c6).trans ((if_neg c7).trans ((if_neg c8).trans ((if_neg c9).trans ((if_pos c10).trans (rfl))))))))))) h
                    · replace h := h.2 c10
                      by_cases c11 : (lg_cmp x0 (28530 : Int64)) = 0
                      · replace h := h.1 c11
                        exact am_pret 46 (fun n => (if_neg c1).trans ((if_neg c2).trans ((if_neg c3).trans ((if_neg c4).trans ((if_neg c5).trans ((if_neg c6).trans ((if_neg c7).trans ((if_neg c8).trans ((if_neg c9).trans ((if_neg c10).trans ((if_pos c11).trans (rfl)))))))))))) h
                      · replace h := h.2 c11
                        exact am_pret 47 (fun n => (if_neg c1).trans ((if_neg c2).trans ((if_neg c3).trans ((if_neg c4).trans ((if_neg c5).trans ((if_neg c6).trans ((if_neg c7).trans ((if_neg c8).trans ((if_neg c9).trans ((if_neg c10).trans ((if_neg c11).trans (rfl)))))))))))) h
theorem bk_106_0 {L : Nat} {xs : Nat → Int32} {d : Nat} {P : Option Value → am_I → am_J → Prop} (x1 : Int32) (x2 : Int32) (I : am_I) (J : am_J)  (h : am_If (x2 = 0) (am_To (am_XX L xs) d 107 0 [some (.ref 95), some (.int (x1 + (1 : Int32))), some (.long (1937073000 : Int64)), none] [] I J (fun r I2 J2 => am_To (am_XX L xs) (d + 1) 106 14 [some (.ref 95), some (.int x1), some (.int x2), none, none] (r.toList ++ []) I2 J2 P)) (am_If (x2 = (1 : Int32)) (am_To (am_XX L xs) d 107 0 [some (.ref 95), some (.int (x1 + (1 : Int32))), some (.long (6385252 : Int64)), none] [] I J (fun r I2 J2 => am_To (am_XX L xs) (d + 1) 106 53 [some (.ref 95), some (.int x1), some (.int x2), none, none] (r.toList ++ []) I2 J2 P)) (am_If (x2 = (2 : Int32)) (am_To (am_XX L xs) d 107 0 [some (.ref 95), some (.int (x1 + (1 : Int32))), some (.long (26995 : Int64)), none] [] I J (fun r I2 J2 => am_To (am_XX L xs) (d + 1) 106 92 [some (.ref 95), some (.int x1), some (.int x2), none, none] (r.toList ++ []) I2 J2 P)) (am_If (x2 = (3 : Int32)) (am_To (am_XX L xs) d 107 0 [some (.ref 95), some (.int (x1 + (1 : Int32))), some (.long (1885434484 : Int64)), none] [] I J (fun r I2 J2 => am_To (am_XX L xs) (d + 1) 106 157 [some (.ref 95), some (.int x1), some (.int x2), none, none] (r.toList ++ []) I2 J2 P)) (am_To (am_XX L xs) d 107 0 [some (.ref 95), some (.int (x1 + (1 : Int32))), some (.long (28530 : Int64)), none] [] I J (fun r I2 J2 => am_To (am_XX L xs) (d + 1) 106 191 [some (.ref 95), some (.int x1), some (.int x2), none, none] (r.toList ++ []) I2 J2 P)))))) : am_To (am_XX L xs) (d + 1) 106 0 [some (.ref 95), some (.int x1), some (.int x2), none, none] [] I J P := by
  by_cases c1 : x2 = 0
  · replace h := h.1 c1
    exact am_pcall 8 (fun n => (if_pos c1).trans (rfl)) (am_lv (am_lv (am_lv (am_ln (am_ln (am_l0)))))) h
  · replace h := h.2 c1
    by_cases c2 : x2 = (1 : Int32)
    · replace h := h.1 c2
      exact am_pcall 11 (fun n => (if_neg c1).trans ((if_pos c2).trans (rfl))) (am_lv (am_lv (am_lv (am_ln (am_ln (am_l0)))))) h
    · replace h := h.2 c2
      by_cases c3 : x2 = (2 : Int32)
      · replace h := h.1 c3
        exact am_pcall 14 (fun n => (if_neg c1).trans ((if_neg c2).trans ((if_pos c3).trans (rfl)))) (am_lv (am_lv (am_lv (am_ln (am_ln (am_l0)))))) h
      · replace h := h.2 c3
        by_cases c4 : x2 = (3 : Int32)
        · replace h := h.1 c4
          exact am_pcall 17 (fun n => (if_neg c1).trans ((if_neg c2).trans ((if_neg c3).trans ((if_pos c4).trans (rfl))))) (am_lv (am_lv (am_lv (am_ln (am_ln (am_l0)))))) h
        · replace h := h.2 c4
          exact am_pcall 17 (fun n => (if_neg c1).trans ((if_neg c2).trans ((if_neg c3).trans ((if_neg c4).trans (rfl))))) (am_lv (am_lv (am_lv (am_ln (am_ln (am_l0)))))) h
theorem bk_106_191 {L : Nat} {xs : Nat → Int32} {d : Nat} {P : Option Value → am_I → am_J → Prop} (x1 : Int32) (x2 : Int32) (s0 : Int32) (I : am_I) (J : am_J)  (h : am_If (x2 = (2 : Int32)) (am_To (am_XX L xs) d 106 212 [some (.ref 95), some (.int x1), none, some (.int s0), none] [.int (5 : Int32), .int x1] I J P) (am_If (x2 = (4 : Int32)) (am_To (am_XX L xs) d 106 212 [some (.ref 95), some (.int x1), none, some (.int s0), none] [.int (2 : Int32), .int x1] I J P) (am_To (am_XX L xs) d 106 212 [some (.ref 95), some (.int x1), none, some (.int s0), none] [.int (3 : Int32), .int x1] I J P))) : am_To (am_XX L xs) d 106 191 [some (.ref 95), some (.int x1), some (.int x2), none, none] [.int s0] I J P := by
  by_cases c1 : x2 = (2 : Int32)
  · replace h := h.1 c1
    exact am_path 7 (fun n => (if_pos c1).trans (rfl)) (am_lv (am_lv (am_ln (am_lv (am_ln (am_l0)))))) h
  · replace h := h.2 c1
    by_cases c2 : x2 = (4 : Int32)
    · replace h := h.1 c2
      exact am_path 10 (fun n => (if_neg c1).trans ((if_pos c2).trans (rfl))) (am_lv (am_lv (am_ln (am_lv (am_ln (am_l0)))))) h
    · replace h := h.2 c2
      exact am_path 9 (fun n => (if_neg c1).trans ((if_neg c2).trans (rfl))) (am_lv (am_lv (am_ln (am_lv (am_ln (am_l0)))))) h
theorem bk_106_157 {L : Nat} {xs : Nat → Int32} {d : Nat} {P : Option Value → am_I → am_J → Prop} (x1 : Int32) (x2 : Int32) (s0 : Int32) (I : am_I) (J : am_J)  (h : am_If (s0 = 0) (am_To (am_XX L xs) (d + 1) 106 177 [some (.ref 95), some (.int x1), some (.int x2), none, none] [] I J P) (am_To (am_XX L xs) d 107 0 [some (.ref 95), some (.int (x1 + (2 : Int32))), some (.long (28518 : Int64)), none] [] I J (fun r I2 J2 => am_To (am_XX L xs) (d + 1) 106 170 [some (.ref 95), some (.int x1), some (.int x2), none, none] (r.toList ++ []) I2 J2 P))) : am_To (am_XX L xs) (d + 1) 106 157 [some (.ref 95), some (.int x1), some (.int x2), none, none] [.int s0] I J P := by
  by_cases c1 : s0 = 0
  · replace h := h.1 c1
    exact am_path 1 (fun n => (if_pos c1).trans (rfl)) (am_lv (am_lv (am_lv (am_ln (am_ln (am_l0)))))) h
  · replace h := h.2 c1
    exact am_pcall 7 (fun n => (if_neg c1).trans (rfl)) (am_lv (am_lv (am_lv (am_ln (am_ln (am_l0)))))) h
theorem bk_106_92 {L : Nat} {xs : Nat → Int32} {d : Nat} {P : Option Value → am_I → am_J → Prop} (x1 : Int32) (x2 : Int32) (s0 : Int32) (I : am_I) (J : am_J)  (h : am_If (s0 = 0) (am_To (am_XX L xs) (d + 1) 106 138 [some (.ref 95), some (.int x1), some (.int x2), none, none] [] I J P) (am_To (am_XX L xs) d 107 0 [some (.ref 95), some (.int (x1 + (2 : Int32))), some (.long (97 : Int64)), none] [] I J (fun r I2 J2 => am_To (am_XX L xs) (d + 1) 106 105 [some (.ref 95), some (.int x1), some (.int x2), none, none] (r.toList ++ []) I2 J2 P))) : am_To (am_XX L xs) (d + 1) 106 92 [some (.ref 95), some (.int x1), some (.int x2), none, none] [.int s0] I J P := by
  by_cases c1 : s0 = 0
  · replace h := h.1 c1
    exact am_path 1 (fun n => (if_pos c1).trans (rfl)) (am_lv (am_lv (am_lv (am_ln (am_ln (am_l0)))))) h
  · replace h := h.2 c1
    exact am_pcall 7 (fun n => (if_neg c1).trans (rfl)) (am_lv (am_lv (am_lv (am_ln (am_ln (am_l0)))))) h
theorem bk_106_53 {L : Nat} {xs : Nat → Int32} {d : Nat} {P : Option Value → am_I → am_J → Prop} (x1 : Int32) (x2 : Int32) (s0 : Int32) (I : am_I) (J : am_J)  (h : am_If (s0 = 0) (am_To (am_XX L xs) (d + 1) 106 73 [some (.ref 95), some (.int x1), some (.int x2), none, none] [] I J P) (am_To (am_XX L xs) d 107 0 [some (.ref 95), some (.int (x1 + (2 : Int32))), some (.long (478694368626 : Int64)), none] [] I J (fun r I2 J2 => am_To (am_XX L xs) (d + 1) 106 66 [some (.ref 95), some (.int x1), some (.int x2), none, none] (r.toList ++ []) I2 J2 P))) : am_To (am_XX L xs) (d + 1) 106 53 [some (.ref 95), some (.int x1), some (.int x2), none, none] [.int s0] I J P := by
  by_cases c1 : s0 = 0
  · replace h := h.1 c1
    exact am_path 1 (fun n => (if_pos c1).trans (rfl)) (am_lv (am_lv (am_lv (am_ln (am_ln (am_l0)))))) h
  · replace h := h.2 c1
    exact am_pcall 7 (fun n => (if_neg c1).trans (rfl)) (am_lv (am_lv (am_lv (am_ln (am_ln (am_l0)))))) h
theorem bk_106_14 {L : Nat} {xs : Nat → Int32} {d : Nat} {P : Option Value → am_I → am_J → Prop} (x1 : Int32) (x2 : Int32) (s0 : Int32) (I : am_I) (J : am_J)  (h : am_If (s0 = 0) (am_To (am_XX L xs) (d + 1) 106 34 [some (.ref 95), some (.int x1), some (.int x2), none, none] [] I J P) (am_To (am_XX L xs) d 107 0 [some (.ref 95), some (.int (x1 + (2 : Int32))), some (.long (24947 : Int64)), none] [] I J (fun r I2 J2 => am_To (am_XX L xs) (d + 1) 106 27 [some (.ref 95), some (.int x1), some (.int x2), none, none] (r.toList ++ []) I2 J2 P))) : am_To (am_XX L xs) (d + 1) 106 14 [some (.ref 95), some (.int x1), some (.int x2), none, none] [.int s0] I J P := by
  by_cases c1 : s0 = 0
  · replace h := h.1 c1
    exact am_path 1 (fun n => (if_pos c1).trans (rfl)) (am_lv (am_lv (am_lv (am_ln (am_ln (am_l0)))))) h
  · replace h := h.2 c1
    exact am_pcall 7 (fun n => (if_neg c1).trans (rfl)) (am_lv (am_lv (am_lv (am_ln (am_ln (am_l0)))))) h
theorem bk_106_212 {L : Nat} {xs : Nat → Int32} {d : Nat} {P : Option Value → am_I → am_J → Prop} (x1 : Int32) (x3 : Int32) (s0 : Int32) (s1 : Int32) (I : am_I) (J : am_J)  (h : am_If (x3 = 0) (P (some (.int (-1 : Int32))) I J) (am_If ((I 95 20) ≤ (s0 + s1)) (P (some (.int (-1 : Int32))) I J) (am_Ix ((s0 + s1) - (1 : Int32)) 101 fun q1 => am_If ((I 112 q1) = 0) (P (some (.int (-1 : Int32))) I J) (am_Ix (s0 + s1) 101 fun q2 => am_To (am_XX L xs) d 105 0 [some (.long (J 111 q2)), none] [] I J (fun r I2 J2 => am_To (am_XX L xs) (d + 1) 106 250 [some (.ref 95), some (.int x1), none, none, some (.int (s0 + s1))] (r.toList ++ []) I2 J2 P))))) : am_To (am_XX L xs) (d + 1) 106 212 [some (.ref 95), some (.int x1), none, some (.int x3), none] [.int s1, .int s0] I J P := by
  by_cases c1 : x3 = 0
  · replace h := h.1 c1
    exact am_pret 6 (fun n => (if_pos c1).trans (rfl)) h
  · replace h := h.2 c1
    by_cases c2 : (I 95 20) ≤ (s0 + s1)
    · replace h := h.1 c2
      exact am_pret 10 (fun n => (if_neg c1).trans ((if_pos c2).trans (rfl))) h
    · replace h := h.2 c2
      obtain ⟨q1, j3, h⟩ := h
      by_cases c4 : (I 112 q1) = 0
      · replace h := h.1 c4
        exact am_pret 17 (fun n => (if_neg c1).trans ((if_neg c2).trans ((am_bs j3).trans ((if_pos c4).trans (rfl))))) h
      · replace h := h.2 c4
        obtain ⟨q2, j5, h⟩ := h
        exact am_pcall 20 (fun n => (if_neg c1).trans ((if_neg c2).trans ((am_bs j3).trans ((if_neg c4).trans ((am_bs j5).trans (rfl)))))) (am_lv (am_lv (am_ln (am_ln (am_lv (am_l0)))))) h
theorem bk_106_177 {L : Nat} {xs : Nat → Int32} {d : Nat} {P : Option Value → am_I → am_J → Prop} (x1 : Int32) (x2 : Int32) (I : am_I) (J : am_J)  (h : am_To (am_XX L xs) d 106 191 [some (.ref 95), some (.int x1), some (.int x2), none, none] [.int (0 : Int32)] I J P) : am_To (am_XX L xs) d 106 177 [some (.ref 95), some (.int x1), some (.int x2), none, none] [] I J P := by
  exact am_path 2 (fun n => rfl) (am_lv (am_lv (am_lv (am_ln (am_ln (am_l0)))))) h
theorem bk_106_170 {L : Nat} {xs : Nat → Int32} {d : Nat} {P : Option Value → am_I → am_J → Prop} (x1 : Int32) (x2 : Int32) (s0 : Int32) (I : am_I) (J : am_J)  (h : am_If (s0 = 0) (am_To (am_XX L xs) d 106 177 [some (.ref 95), some (.int x1), some (.int x2), none, none] [] I J P) (am_To (am_XX L xs) d 106 191 [some (.ref 95), some (.int x1), some (.int x2), none, none] [.int (1 : Int32)] I J P)) : am_To (am_XX L xs) d 106 170 [some (.ref 95), some (.int x1), some (.int x2), none, none] [.int s0] I J P := by
  by_cases c1 : s0 = 0
  · replace h := h.1 c1
    exact am_path 1 (fun n => (if_pos c1).trans (rfl)) (am_lv (am_lv (am_lv (am_ln (am_ln (am_l0)))))) h
  · replace h := h.2 c1
    exact am_path 3 (fun n => (if_neg c1).trans (rfl)) (am_lv (am_lv (am_lv (am_ln (am_ln (am_l0)))))) h
theorem bk_106_138 {L : Nat} {xs : Nat → Int32} {d : Nat} {P : Option Value → am_I → am_J → Prop} (x1 : Int32) (x2 : Int32) (I : am_I) (J : am_J)  (h : am_To (am_XX L xs) d 106 191 [some (.ref 95), some (.int x1), some (.int x2), none, none] [.int (0 : Int32)] I J P) : am_To (am_XX L xs) d 106 138 [some (.ref 95), some (.int x1), some (.int x2), none, none] [] I J P := by
  exact am_path 2 (fun n => rfl) (am_lv (am_lv (am_lv (am_ln (am_ln (am_l0)))))) h
theorem bk_106_105 {L : Nat} {xs : Nat → Int32} {d : Nat} {P : Option Value → am_I → am_J → Prop} (x1 : Int32) (x2 : Int32) (s0 : Int32) (I : am_I) (J : am_J)  (h : am_If (s0 = 0) (am_To (am_XX L xs) (d + 1) 106 138 [some (.ref 95), some (.int x1), some (.int x2), none, none] [] I J P) (am_To (am_XX L xs) d 107 0 [some (.ref 95), some (.int (x1 + (3 : Int32))), some (.long (1802071652 : Int64)), none] [] I J (fun r I2 J2 => am_To (am_XX L xs) (d + 1) 106 118 [some (.ref 95), some (.int x1), some (.int x2), none, none] (r.toList ++ []) I2 J2 P))) : am_To (am_XX L xs) (d + 1) 106 105 [some (.ref 95), some (.int x1), some (.int x2), none, none] [.int s0] I J P := by
  by_cases c1 : s0 = 0
  · replace h := h.1 c1
    exact am_path 1 (fun n => (if_pos c1).trans (rfl)) (am_lv (am_lv (am_lv (am_ln (am_ln (am_l0)))))) h
  · replace h := h.2 c1
    exact am_pcall 7 (fun n => (if_neg c1).trans (rfl)) (am_lv (am_lv (am_lv (am_ln (am_ln (am_l0)))))) h
theorem bk_106_73 {L : Nat} {xs : Nat → Int32} {d : Nat} {P : Option Value → am_I → am_J → Prop} (x1 : Int32) (x2 : Int32) (I : am_I) (J : am_J)  (h : am_To (am_XX L xs) d 106 191 [some (.ref 95), some (.int x1), some (.int x2), none, none] [.int (0 : Int32)] I J P) : am_To (am_XX L xs) d 106 73 [some (.ref 95), some (.int x1), some (.int x2), none, none] [] I J P := by
  exact am_path 2 (fun n => rfl) (am_lv (am_lv (am_lv (am_ln (am_ln (am_l0)))))) h
theorem bk_106_66 {L : Nat} {xs : Nat → Int32} {d : Nat} {P : Option Value → am_I → am_J → Prop} (x1 : Int32) (x2 : Int32) (s0 : Int32) (I : am_I) (J : am_J)  (h : am_If (s0 = 0) (am_To (am_XX L xs) d 106 73 [some (.ref 95), some (.int x1), some (.int x2), none, none] [] I J P) (am_To (am_XX L xs) d 106 191 [some (.ref 95), some (.int x1), some (.int x2), none, none] [.int (1 : Int32)] I J P)) : am_To (am_XX L xs) d 106 66 [some (.ref 95), some (.int x1), some (.int x2), none, none] [.int s0] I J P := by
  by_cases c1 : s0 = 0
  · replace h := h.1 c1
    exact am_path 1 (fun n => (if_pos c1).trans (rfl)) (am_lv (am_lv (am_lv (am_ln (am_ln (am_l0)))))) h
  · replace h := h.2 c1
    exact am_path 3 (fun n => (if_neg c1).trans (rfl)) (am_lv (am_lv (am_lv (am_ln (am_ln (am_l0)))))) h
theorem bk_106_34 {L : Nat} {xs : Nat → Int32} {d : Nat} {P : Option Value → am_I → am_J → Prop} (x1 : Int32) (x2 : Int32) (I : am_I) (J : am_J)  (h : am_To (am_XX L xs) d 106 191 [some (.ref 95), some (.int x1), some (.int x2), none, none] [.int (0 : Int32)] I J P) : am_To (am_XX L xs) d 106 34 [some (.ref 95), some (.int x1), some (.int x2), none, none] [] I J P := by
  exact am_path 2 (fun n => rfl) (am_lv (am_lv (am_lv (am_ln (am_ln (am_l0)))))) h
theorem bk_106_27 {L : Nat} {xs : Nat → Int32} {d : Nat} {P : Option Value → am_I → am_J → Prop} (x1 : Int32) (x2 : Int32) (s0 : Int32) (I : am_I) (J : am_J)  (h : am_If (s0 = 0) (am_To (am_XX L xs) d 106 34 [some (.ref 95), some (.int x1), some (.int x2), none, none] [] I J P) (am_To (am_XX L xs) d 106 191 [some (.ref 95), some (.int x1), some (.int x2), none, none] [.int (1 : Int32)] I J P)) : am_To (am_XX L xs) d 106 27 [some (.ref 95), some (.int x1), some (.int x2), none, none] [.int s0] I J P := by
  by_cases c1 : s0 = 0
  · replace h := h.1 c1
    exact am_path 1 (fun n => (if_pos c1).trans (rfl)) (am_lv (am_lv (am_lv (am_ln (am_ln (am_l0)))))) h
  · replace h := h.2 c1
    exact am_path 3 (fun n => (if_neg c1).trans (rfl)) (am_lv (am_lv (am_lv (am_ln (am_ln (am_l0)))))) h
theorem bk_106_250 {L : Nat} {xs : Nat → Int32} {d : Nat} {P : Option Value → am_I → am_J → Prop} (x1 : Int32) (x4 : Int32) (s0 : Int32) (I : am_I) (J : am_J)  (h : am_If (s0 = 0) (P (some (.int (-1 : Int32))) I J) (am_Ix x4 101 fun q1 => am_Ix x1 101 fun q2 => am_If ((lg_cmp (J 111 q1) (J 111 q2)) = 0) (P (some (.int (-1 : Int32))) I J) (P (some (.int x4)) I J))) : am_To (am_XX L xs) d 106 250 [some (.ref 95), some (.int x1), none, none, some (.int x4)] [.int s0] I J P := by
  by_cases c1 : s0 = 0
  · replace h := h.1 c1
    exact am_pret 3 (fun n => (if_pos c1).trans (rfl)) h
  · replace h := h.2 c1
    obtain ⟨q1, j2, h⟩ := h
    obtain ⟨q2, j3, h⟩ := h
    by_cases c4 : (lg_cmp (J 111 q1) (J 111 q2)) = 0
    · replace h := h.1 c4
      exact am_pret 13 (fun n => (if_neg c1).trans ((am_bs j2).trans ((am_bs j3).trans ((if_pos c4).trans (rfl))))) h
    · replace h := h.2 c4
      exact am_pret 14 (fun n => (if_neg c1).trans ((am_bs j2).trans ((am_bs j3).trans ((if_neg c4).trans (rfl))))) h
theorem bk_106_118 {L : Nat} {xs : Nat → Int32} {d : Nat} {P : Option Value → am_I → am_J → Prop} (x1 : Int32) (x2 : Int32) (s0 : Int32) (I : am_I) (J : am_J)  (h : am_If (s0 = 0) (am_To (am_XX L xs) (d + 1) 106 138 [some (.ref 95), some (.int x1), some (.int x2), none, none] [] I J P) (am_To (am_XX L xs) d 107 0 [some (.ref 95), some (.int (x1 + (4 : Int32))), some (.long (28518 : Int64)), none] [] I J (fun r I2 J2 => am_To (am_XX L xs) (d + 1) 106 131 [some (.ref 95), some (.int x1), some (.int x2), none, none] (r.toList ++ []) I2 J2 P))) : am_To (am_XX L xs) (d + 1) 106 118 [some (.ref 95), some (.int x1), some (.int x2), none, none] [.int s0] I J P := by
  by_cases c1 : s0 = 0
  · replace h := h.1 c1
    exact am_path 1 (fun n => (if_pos c1).trans (rfl)) (am_lv (am_lv (am_lv (am_ln (am_ln (am_l0)))))) h
  · replace h := h.2 c1
    exact am_pcall 7 (fun n => (if_neg c1).trans (rfl)) (am_lv (am_lv (am_lv (am_ln (am_ln (am_l0)))))) h
theorem bk_106_131 {L : Nat} {xs : Nat → Int32} {d : Nat} {P : Option Value → am_I → am_J → Prop} (x1 : Int32) (x2 : Int32) (s0 : Int32) (I : am_I) (J : am_J)  (h : am_If (s0 = 0) (am_To (am_XX L xs) d 106 138 [some (.ref 95), some (.int x1), some (.int x2), none, none] [] I J P) (am_To (am_XX L xs) d 106 191 [some (.ref 95), some (.int x1), some (.int x2), none, none] [.int (1 : Int32)] I J P)) : am_To (am_XX L xs) d 106 131 [some (.ref 95), some (.int x1), some (.int x2), none, none] [.int s0] I J P := by
  by_cases c1 : s0 = 0
  · replace h := h.1 c1
    exact am_path 1 (fun n => (if_pos c1).trans (rfl)) (am_lv (am_lv (am_lv (am_ln (am_ln (am_l0)))))) h
  · replace h := h.2 c1
    exact am_path 3 (fun n => (if_neg c1).trans (rfl)) (am_lv (am_lv (am_lv (am_ln (am_ln (am_l0)))))) h
theorem bk_107_0 {L : Nat} {xs : Nat → Int32} {d : Nat} {P : Option Value → am_I → am_J → Prop} (x1 : Int32) (x2 : Int64) (I : am_I) (J : am_J)  (h : am_If ((I 95 20) ≤ x1) (P (some (.int (0 : Int32))) I J) (am_Ix (x1 - (1 : Int32)) 101 fun q1 => am_If ((I 112 q1) = 0) (P (some (.int (0 : Int32))) I J) (am_Ix x1 101 fun q2 => am_If ((lg_cmp (J 111 q2) x2) = 0) (P (some (.int (1 : Int32))) I J) (P (some (.int (0 : Int32))) I J)))) : am_To (am_XX L xs) d 107 0 [some (.ref 95), some (.int x1), some (.long x2), none] [] I J P := by
  by_cases c1 : (I 95 20) ≤ x1
  · replace h := h.1 c1
    exact am_pret 6 (fun n => (if_pos c1).trans (rfl)) h
  · replace h := h.2 c1
    obtain ⟨q1, j2, h⟩ := h
    by_cases c3 : (I 112 q1) = 0
    · replace h := h.1 c3
      exact am_pret 13 (fun n => (if_neg c1).trans ((am_bs j2).trans ((if_pos c3).trans (rfl)))) h
    · replace h := h.2 c3
      obtain ⟨q2, j4, h⟩ := h
      by_cases c5 : (lg_cmp (J 111 q2) x2) = 0
      · replace h := h.1 c5
        exact am_pret 21 (fun n => (if_neg c1).trans ((am_bs j2).trans ((if_neg c3).trans ((am_bs j4).trans ((if_pos c5).trans (rfl)))))) h
      · replace h := h.2 c5
        exact am_pret 20 (fun n => (if_neg c1).trans ((am_bs j2).trans ((if_neg c3).trans ((am_bs j4).trans ((if_neg c5).trans (rfl)))))) h
theorem bk_108_0 {L : Nat} {xs : Nat → Int32} {d : Nat} {P : Option Value → am_I → am_J → Prop} (x1 : Int64) (I : am_I) (J : am_J)  (h : am_To (am_XX L xs) d 108 2 [some (.ref 95), some (.long x1), none, some (.int (0 : Int32))] [] I J P) : am_To (am_XX L xs) d 108 0 [some (.ref 95), some (.long x1), none, none] [] I J P := by
  exact am_path 2 (fun n => rfl) (am_lv (am_lv (am_ln (am_lv (am_l0))))) h
theorem bk_108_2 {L : Nat} {xs : Nat → Int32} {d : Nat} {P : Option Value → am_I → am_J → Prop} (x1 : Int64) (x3 : Int32) (I : am_I) (J : am_J)  (h : am_If ((I 95 2) ≤ x3) (am_If ((I 95 2) = (24 : Int32)) (P (some (.int (-1 : Int32))) I J) (am_Ix (I 95 2) 24 fun q1 => P (some (.int (((am_up I 95 2 ((I 95 2) + (1 : Int32))) 95 2) - (1 : Int32)))) (am_up I 95 2 ((I 95 2) + (1 : Int32))) (am_up J 97 q1 x1))) (am_Ix x3 24 fun q2 => am_If ((lg_cmp (J 97 q2) x1) = 0) (P (some (.int x3)) I J) (am_To (am_XX L xs) d 108 2 [some (.ref 95), some (.long x1), none, some (.int (x3 + (1 : Int32)))] [] I J P))) : am_To (am_XX L xs) d 108 2 [some (.ref 95), some (.long x1), none, some (.int x3)] [] I J P := by
  by_cases c1 : (I 95 2) ≤ x3
  · replace h := h.1 c1
    by_cases c2 : (I 95 2) = (24 : Int32)
    · replace h := h.1 c2
      exact am_pret 10 (fun n => (if_pos c1).trans ((if_pos c2).trans (rfl))) h
    · replace h := h.2 c2
      obtain ⟨q1, j3, h⟩ := h
      exact am_pret 25 (fun n => (if_pos c1).trans ((if_neg c2).trans ((am_bs j3).trans (rfl)))) h
  · replace h := h.2 c1
    obtain ⟨q2, j4, h⟩ := h
    by_cases c5 : (lg_cmp (J 97 q2) x1) = 0
    · replace h := h.1 c5
      exact am_pret 13 (fun n => (if_neg c1).trans ((am_bs j4).trans ((if_pos c5).trans (rfl)))) h
    · replace h := h.2 c5
      exact am_path 13 (fun n => (if_neg c1).trans ((am_bs j4).trans ((if_neg c5).trans (rfl)))) (am_lv (am_lv (am_ln (am_lv (am_l0))))) h
theorem bk_109_0 {L : Nat} {xs : Nat → Int32} {d : Nat} {P : Option Value → am_I → am_J → Prop} (x1 : Int32) (I : am_I) (J : am_J)  (h : am_To (am_XX L xs) d 110 0 [some (.ref 95), some (.int x1)] [] I J (fun r I2 J2 => am_To (am_XX L xs) (d + 1) 109 5 [some (.ref 95), some (.int x1)] (r.toList ++ []) I2 J2 P)) : am_To (am_XX L xs) (d + 1) 109 0 [some (.ref 95), some (.int x1)] [] I J P := by
  exact am_pcall 3 (fun n => rfl) (am_lv (am_lv (am_l0))) h
theorem bk_109_5 {L : Nat} {xs : Nat → Int32} {d : Nat} {P : Option Value → am_I → am_J → Prop} (x1 : Int32) (s0 : Int32) (I : am_I) (J : am_J)  (h : am_If (s0 = 0) (P (some (.int (0 : Int32))) I J) (am_Ix x1 12 fun q1 => P (some (.int (1 : Int32))) (am_up I 98 q1 (vp_nar .boolean (0 : Int32))) J)) : am_To (am_XX L xs) d 109 5 [some (.ref 95), some (.int x1)] [.int s0] I J P := by
  by_cases c1 : s0 = 0
  · replace h := h.1 c1
    exact am_pret 3 (fun n => (if_pos c1).trans (rfl)) h
  · replace h := h.2 c1
    obtain ⟨q1, j2, h⟩ := h
    exact am_pret 8 (fun n => (if_neg c1).trans ((am_bs j2).trans (rfl))) h
theorem bk_110_0 {L : Nat} {xs : Nat → Int32} {d : Nat} {P : Option Value → am_I → am_J → Prop} (x1 : Int32) (I : am_I) (J : am_J)  (h : am_To (am_XX L xs) d 102 0 [some (.int x1), some (.int (0 : Int32)), some (.int (11 : Int32))] [] I J (fun r I2 J2 => am_To (am_XX L xs) (d + 1) 110 7 [some (.ref 95), some (.int x1)] (r.toList ++ []) I2 J2 P)) : am_To (am_XX L xs) (d + 1) 110 0 [some (.ref 95), some (.int x1)] [] I J P := by
  exact am_pcall 4 (fun n => rfl) (am_lv (am_lv (am_l0))) h
theorem bk_110_7 {L : Nat} {xs : Nat → Int32} {d : Nat} {P : Option Value → am_I → am_J → Prop} (x1 : Int32) (s0 : Int32) (I : am_I) (J : am_J)  (h : am_If (s0 = 0) (P (some (.int (0 : Int32))) I J) (am_Ix x1 12 fun q1 => am_If ((I 98 q1) = 0) (P (some (.int (0 : Int32))) I J) (P (some (.int (1 : Int32))) I J))) : am_To (am_XX L xs) d 110 7 [some (.ref 95), some (.int x1)] [.int s0] I J P := by
  by_cases c1 : s0 = 0
  · replace h := h.1 c1
    exact am_pret 3 (fun n => (if_pos c1).trans (rfl)) h
  · replace h := h.2 c1
    obtain ⟨q1, j2, h⟩ := h
    by_cases c3 : (I 98 q1) = 0
    · replace h := h.1 c3
      exact am_pret 8 (fun n => (if_neg c1).trans ((am_bs j2).trans ((if_pos c3).trans (rfl)))) h
    · replace h := h.2 c3
      exact am_pret 9 (fun n => (if_neg c1).trans ((am_bs j2).trans ((if_neg c3).trans (rfl)))) h
theorem bk_111_0 {L : Nat} {xs : Nat → Int32} {d : Nat} {P : Option Value → am_I → am_J → Prop} (x1 : Int32) (I : am_I) (J : am_J)  (h : am_To (am_XX L xs) d 110 0 [some (.ref 95), some (.int x1)] [] I J (fun r I2 J2 => am_To (am_XX L xs) (d + 1) 111 5 [some (.ref 95), some (.int x1)] (r.toList ++ []) I2 J2 P)) : am_To (am_XX L xs) (d + 1) 111 0 [some (.ref 95), some (.int x1)] [] I J P := by
  exact am_pcall 3 (fun n => rfl) (am_lv (am_lv (am_l0))) h
theorem bk_111_5 {L : Nat} {xs : Nat → Int32} {d : Nat} {P : Option Value → am_I → am_J → Prop} (x1 : Int32) (s0 : Int32) (I : am_I) (J : am_J)  (h : am_If (s0 = 0) (P (some (.int (-1 : Int32))) I J) (am_Ix x1 12 fun q1 => P (some (.int (I 99 q1))) I J)) : am_To (am_XX L xs) d 111 5 [some (.ref 95), some (.int x1)] [.int s0] I J P := by
  by_cases c1 : s0 = 0
  · replace h := h.1 c1
    exact am_pret 3 (fun n => (if_pos c1).trans (rfl)) h
  · replace h := h.2 c1
    obtain ⟨q1, j2, h⟩ := h
    exact am_pret 7 (fun n => (if_neg c1).trans ((am_bs j2).trans (rfl))) h
theorem bk_112_0 {L : Nat} {xs : Nat → Int32} {d : Nat} {P : Option Value → am_I → am_J → Prop} (x1 : Int32) (I : am_I) (J : am_J)  (h : am_To (am_XX L xs) d 102 0 [some (.int x1), some (.int (0 : Int32)), some (.int (I 95 1))] [] I J (fun r I2 J2 => am_To (am_XX L xs) (d + 1) 112 9 [some (.ref 95), some (.int x1), none, none, none, none] (r.toList ++ []) I2 J2 P)) : am_To (am_XX L xs) (d + 1) 112 0 [some (.ref 95), some (.int x1), none, none, none, none] [] I J P := by
  exact am_pcall 5 (fun n => rfl) (am_lv (am_lv (am_ln (am_ln (am_ln (am_ln (am_l0))))))) h
theorem bk_112_9 {L : Nat} {xs : Nat → Int32} {d : Nat} {P : Option Value → am_I → am_J → Prop} (x1 : Int32) (s0 : Int32) (I : am_I) (J : am_J)  (h : am_If (s0 = 0) (P (some (.int (-2 : Int32))) I J) (am_If (x1 ≤ 0) (am_To (am_XX L xs) d 112 31 [some (.ref 95), some (.int x1), some (.long (0 : Int64)), none, none, none] [] I J P) (am_If ((9 : Int32) ≤ x1) (am_To (am_XX L xs) d 112 31 [some (.ref 95), some (.int x1), some (.long (0 : Int64)), none, none, none] [] I J P) (am_To (am_XX L xs) d 112 37 [some (.ref 95), some (.int x1), some (.long (0 : Int64)), none, some (.int (1 : Int32)), some (.int (0 : Int32))] [] I J P)))) : am_To (am_XX L xs) d 112 9 [some (.ref 95), some (.int x1), none, none, none, none] [.int s0] I J P := by
  by_cases c1 : s0 = 0
  · replace h := h.1 c1
    exact am_pret 3 (fun n => (if_pos c1).trans (rfl)) h
  · replace h := h.2 c1
    by_cases c2 : x1 ≤ 0
    · replace h := h.1 c2
      exact am_path 5 (fun n => (if_neg c1).trans ((if_pos c2).trans (rfl))) (am_lv (am_lv (am_lv (am_ln (am_ln (am_ln (am_l0))))))) h
    · replace h := h.2 c2
      by_cases c3 : (9 : Int32) ≤ x1
      · replace h := h.1 c3
        exact am_path 8 (fun n => (if_neg c1).trans ((if_neg c2).trans ((if_pos c3).trans (rfl)))) (am_lv (am_lv (am_lv (am_ln (am_ln (am_ln (am_l0))))))) h
      · replace h := h.2 c3
        exact am_path 13 (fun n => (if_neg c1).trans ((if_neg c2).trans ((if_neg c3).trans (rfl)))) (am_lv (am_lv (am_lv (am_ln (am_lv (am_lv (am_l0))))))) h
theorem bk_112_31 {L : Nat} {xs : Nat → Int32} {d : Nat} {P : Option Value → am_I → am_J → Prop} (x1 : Int32) (x2 : Int64) (I : am_I) (J : am_J)  (h : am_To (am_XX L xs) d 112 37 [some (.ref 95), some (.int x1), some (.long x2), none, some (.int (0 : Int32)), some (.int (0 : Int32))] [] I J P) : am_To (am_XX L xs) d 112 31 [some (.ref 95), some (.int x1), some (.long x2), none, none, none] [] I J P := by
  exact am_path 4 (fun n => rfl) (am_lv (am_lv (am_lv (am_ln (am_lv (am_lv (am_l0))))))) h
theorem bk_112_37 {L : Nat} {xs : Nat → Int32} {d : Nat} {P : Option Value → am_I → am_J → Prop} (x1 : Int32) (x2 : Int64) (x4 : Int32) (x5 : Int32) (I : am_I) (J : am_J)  (h : am_If (x1 ≤ x5) (am_To (am_XX L xs) (d + 1) 112 77 [some (.ref 95), none, some (.long x2), none, some (.int x4), none] [] I J P) (am_If (x4 = 0) (am_To (am_XX L xs) (d + 1) 112 77 [some (.ref 95), none, some (.long x2), none, some (.int x4), none] [] I J P) (am_To (am_XX L xs) d 104 0 [some (.ref 95), some (.int x5), some (.int x1)] [] I J (fun r I2 J2 => am_To (am_XX L xs) (d + 1) 112 55 [some (.ref 95), some (.int x1), some (.long x2), none, none, some (.int x5)] (r.toList ++ []) I2 J2 P)))) : am_To (am_XX L xs) (d + 1) 112 37 [some (.ref 95), some (.int x1), some (.long x2), none, some (.int x4), some (.int x5)] [] I J P := by
  by_cases c1 : x1 ≤ x5
  · replace h := h.1 c1
    exact am_path 3 (fun n => (if_pos c1).trans (rfl)) (am_lv (am_ln (am_lv (am_ln (am_lv (am_ln (am_l0))))))) h
  · replace h := h.2 c1
    by_cases c2 : x4 = 0
    · replace h := h.1 c2
      exact am_path 5 (fun n => (if_neg c1).trans ((if_pos c2).trans (rfl))) (am_lv (am_ln (am_lv (am_ln (am_lv (am_ln (am_l0))))))) h
    · replace h := h.2 c2
      exact am_pcall 9 (fun n => (if_neg c1).trans ((if_neg c2).trans (rfl))) (am_lv (am_lv (am_lv (am_ln (am_ln (am_lv (am_l0))))))) h
theorem bk_112_77 {L : Nat} {xs : Nat → Int32} {d : Nat} {P : Option Value → am_I → am_J → Prop} (x2 : Int64) (x4 : Int32) (I : am_I) (J : am_J)  (h : am_If (x4 = 0) (P (some (.int (-1 : Int32))) (am_up I 95 1 (0 : Int32)) J) (am_To (am_XX L xs) d 105 0 [some (.long x2), none] [] (am_up I 95 1 (0 : Int32)) J (fun r I2 J2 => am_To (am_XX L xs) (d + 1) 112 91 [some (.ref 95), none, some (.long x2), none, none, none] (r.toList ++ []) I2 J2 P))) : am_To (am_XX L xs) (d + 1) 112 77 [some (.ref 95), none, some (.long x2), none, some (.int x4), none] [] I J P := by
  by_cases c1 : x4 = 0
  · replace h := h.1 c1
    exact am_pret 7 (fun n => (if_pos c1).trans (rfl)) h
  · replace h := h.2 c1
    exact am_pcall 7 (fun n => (if_neg c1).trans (rfl)) (am_lv (am_ln (am_lv (am_ln (am_ln (am_ln (am_l0))))))) h
theorem bk_112_55 {L : Nat} {xs : Nat → Int32} {d : Nat} {P : Option Value → am_I → am_J → Prop} (x1 : Int32) (x2 : Int64) (x5 : Int32) (s0 : Int32) (I : am_I) (J : am_J)  (h : am_Ix x5 200 fun q1 => am_To (am_XX L xs) d 112 37 [some (.ref 95), some (.int x1), some (.long ((x2 <<< ((8 : Int32).toInt64 &&& 63)) ||| ((I 96 q1).toInt64))), none, some (.int s0), some (.int (x5 + (1 : Int32)))] [] I J P) : am_To (am_XX L xs) d 112 55 [some (.ref 95), some (.int x1), some (.long x2), none, none, some (.int x5)] [.int s0] I J P := by
  obtain ⟨q1, j1, h⟩ := h
  exact am_path 13 (fun n => (am_bs j1).trans (rfl)) (am_lv (am_lv (am_lv (am_ln (am_lv (am_lv (am_l0))))))) h
theorem bk_112_91 {L : Nat} {xs : Nat → Int32} {d : Nat} {P : Option Value → am_I → am_J → Prop} (x2 : Int64) (s0 : Int32) (I : am_I) (J : am_J)  (h : am_If (s0 = 0) (P (some (.int (-1 : Int32))) I J) (am_To (am_XX L xs) d 108 0 [some (.ref 95), some (.long x2), none, none] [] I J (fun r I2 J2 => am_To (am_XX L xs) (d + 1) 112 99 [none, none, none, none, none, none] (r.toList ++ []) I2 J2 P))) : am_To (am_XX L xs) (d + 1) 112 91 [some (.ref 95), none, some (.long x2), none, none, none] [.int s0] I J P := by
  by_cases c1 : s0 = 0
  · replace h := h.1 c1
    exact am_pret 3 (fun n => (if_pos c1).trans (rfl)) h
  · replace h := h.2 c1
    exact am_pcall 4 (fun n => (if_neg c1).trans (rfl)) (am_ln (am_ln (am_ln (am_ln (am_ln (am_ln (am_l0))))))) h
theorem bk_112_99 {L : Nat} {xs : Nat → Int32} {d : Nat} {P : Option Value → am_I → am_J → Prop} (s0 : Int32) (I : am_I) (J : am_J)  (h : P (some (.int s0)) I J) : am_To (am_XX L xs) d 112 99 [none, none, none, none, none, none] [.int s0] I J P := by
  exact am_pret 2 (fun n => rfl) h
theorem bk_113_0 {L : Nat} {xs : Nat → Int32} {d : Nat} {P : Option Value → am_I → am_J → Prop} (x1 : Int32) (x2 : Int32) (I : am_I) (J : am_J)  (h : am_To (am_XX L xs) d 114 0 [some (.ref 95), some (.int x1)] [] I J (fun r I2 J2 => am_To (am_XX L xs) (d + 1) 113 5 [some (.ref 95), some (.int x1), some (.int x2), none, none, none] (r.toList ++ []) I2 J2 P)) : am_To (am_XX L xs) (d + 1) 113 0 [some (.ref 95), some (.int x1), some (.int x2), none, none, none] [] I J P := by
  exact am_pcall 3 (fun n => rfl) (am_lv (am_lv (am_lv (am_ln (am_ln (am_ln (am_l0))))))) h
theorem bk_113_5 {L : Nat} {xs : Nat → Int32} {d : Nat} {P : Option Value → am_I → am_J → Prop} (x1 : Int32) (x2 : Int32) (s0 : Int32) (I : am_I) (J : am_J)  (h : am_If (s0 = 0) (P (some (.int (-1 : Int32))) I J) (am_Ix x1 24 fun q1 => am_To (am_XX L xs) d 113 20 [some (.ref 95), some (.int x1), some (.int x2), some (.int (0 : Int32)), some (.long (J 97 q1)), none] [] I J P)) : am_To (am_XX L xs) d 113 5 [some (.ref 95), some (.int x1), some (.int x2), none, none, none] [.int s0] I J P := by
  by_cases c1 : s0 = 0
  · replace h := h.1 c1
    exact am_pret 3 (fun n => (if_pos c1).trans (rfl)) h
  · replace h := h.2 c1
    obtain ⟨q1, j2, h⟩ := h
    exact am_path 8 (fun n => (if_neg c1).trans ((am_bs j2).trans (rfl))) (am_lv (am_lv (am_lv (am_lv (am_lv (am_ln (am_l0))))))) h
theorem bk_113_20 {L : Nat} {xs : Nat → Int32} {d : Nat} {P : Option Value → am_I → am_J → Prop} (x1 : Int32) (x2 : Int32) (x3 : Int32) (x4 : Int64) (I : am_I) (J : am_J)  (h : am_If ((lg_cmp x4 (0 : Int64)) = 0) (am_If (x2 = (-1 : Int32)) (P (some (.int x3)) I J) (am_To (am_XX L xs) d 102 0 [some (.int x2), some (.int (0 : Int32)), some (.int (x3 - (1 : Int32)))] [] I J (fun r I2 J2 => am_To (am_XX L xs) (d + 1) 113 57 [some (.ref 95), some (.int x1), some (.int x2), some (.int x3), none, none] (r.toList ++ []) I2 J2 P))) (am_To (am_XX L xs) (d + 1) 113 20 [some (.ref 95), some (.int x1), some (.int x2), some (.int (x3 + (1 : Int32))), some (.long (x4 >>> ((8 : Int32).toInt64 &&& 63))), none] [] I J P)) : am_To (am_XX L xs) (d + 1) 113 20 [some (.ref 95), some (.int x1), some (.int x2), some (.int x3), some (.long x4), none] [] I J P := by
  by_cases c1 : (lg_cmp x4 (0 : Int64)) = 0
  · replace h := h.1 c1
    by_cases c2 : x2 = (-1 : Int32)
    · replace h := h.1 c2
      exact am_pret 10 (fun n => (if_pos c1).trans ((if_pos c2).trans (rfl))) h
    · replace h := h.2 c2
      exact am_pcall 13 (fun n => (if_pos c1).trans ((if_neg c2).trans (rfl))) (am_lv (am_lv (am_lv (am_lv (am_ln (am_ln (am_l0))))))) h
  · replace h := h.2 c1
    exact am_path 10 (fun n => (if_neg c1).trans (rfl)) (am_lv (am_lv (am_lv (am_lv (am_lv (am_ln (am_l0))))))) h
theorem bk_113_57 {L : Nat} {xs : Nat → Int32} {d : Nat} {P : Option Value → am_I → am_J → Prop} (x1 : Int32) (x2 : Int32) (x3 : Int32) (s0 : Int32) (I : am_I) (J : am_J)  (h : am_If (s0 = 0) (P (some (.int (-1 : Int32))) I J) (am_Ix x1 24 fun q1 => P (some (.int ((((J 97 q1) >>> (((8 : Int32) * ((x3 - (1 : Int32)) - x2)).toInt64 &&& 63)) &&& (255 : Int64)).toInt32))) I J)) : am_To (am_XX L xs) d 113 57 [some (.ref 95), some (.int x1), some (.int x2), some (.int x3), none, none] [.int s0] I J P := by
  by_cases c1 : s0 = 0
  · replace h := h.1 c1
    exact am_pret 3 (fun n => (if_pos c1).trans (rfl)) h
  · replace h := h.2 c1
    obtain ⟨q1, j2, h⟩ := h
    exact am_pret 18 (fun n => (if_neg c1).trans ((am_bs j2).trans (rfl))) h
