set_option maxRecDepth 100000
set_option maxHeartbeats 4000000
theorem bk_43_0 {L : Nat} {xs : Nat → Int32} {d : Nat} {P : Option Value → am_I → am_J → Prop} (x1 : Int32) (x2 : Int32) (x3 : Int32) (I : am_I) (J : am_J)  (h : am_To (am_XX L xs) d 26 0 [some (.int (3 : Int32)), some (.int x2), some (.int x3), none, none, none] [] I J (fun r I2 J2 => am_To (am_XX L xs) (d + 1) 43 10 [some (.ref 9), some (.int x1), some (.int x2), some (.int x3)] (r.toList ++ [.ref 60]) I2 J2 P)) : am_To (am_XX L xs) (d + 1) 43 0 [some (.ref 9), some (.int x1), some (.int x2), some (.int x3)] [] I J P := by
  exact am_pcall 6 (fun n => rfl) (am_lv (am_lv (am_lv (am_lv (am_l0))))) h
theorem bk_43_10 {L : Nat} {xs : Nat → Int32} {d : Nat} {P : Option Value → am_I → am_J → Prop} (x1 : Int32) (x2 : Int32) (x3 : Int32) (s1 : Int32) (I : am_I) (J : am_J)  (h : am_To (am_XX L xs) d 27 0 [some (.ref 60), some (.int s1), some (.int (0 : Int32)), some (.int x1)] [] I J (fun r I2 J2 => am_To (am_XX L xs) (d + 1) 43 15 [some (.ref 9), none, some (.int x2), some (.int x3)] (r.toList ++ []) I2 J2 P)) : am_To (am_XX L xs) (d + 1) 43 10 [some (.ref 9), some (.int x1), some (.int x2), some (.int x3)] [.int s1, .ref 60] I J P := by
  exact am_pcall 3 (fun n => rfl) (am_lv (am_ln (am_lv (am_lv (am_l0))))) h
theorem bk_43_15 {L : Nat} {xs : Nat → Int32} {d : Nat} {P : Option Value → am_I → am_J → Prop} (x2 : Int32) (x3 : Int32) (I : am_I) (J : am_J)  (h : am_Ix x3 24 fun q1 => am_Ix x3 24 fun q2 => P (some (.int (((am_up I 65 q2 ((I 65 q1) ||| ((1 : Int32) <<< (x2 &&& 31)))) 60 3) - (1 : Int32)))) (am_up I 65 q2 ((I 65 q1) ||| ((1 : Int32) <<< (x2 &&& 31)))) J) : am_To (am_XX L xs) d 43 15 [some (.ref 9), none, some (.int x2), some (.int x3)] [] I J P := by
  obtain ⟨q1, j1, h⟩ := h
  obtain ⟨q2, j2, h⟩ := h
  exact am_pret 16 (fun n => (am_bs j1).trans ((am_bs j2).trans (rfl))) h
theorem bk_44_0 {L : Nat} {xs : Nat → Int32} {d : Nat} {P : Option Value → am_I → am_J → Prop} (x1 : Int32) (x2 : Int32) (x3 : Int32) (I : am_I) (J : am_J)  (h : am_To (am_XX L xs) d 27 0 [some (.ref 60), some (.int x2), some (.int x3), some (.int x1)] [] I J (fun r I2 J2 => am_To (am_XX L xs) (d + 1) 44 10 [some (.ref 9), none, some (.int x2), some (.int x3)] (r.toList ++ []) I2 J2 P)) : am_To (am_XX L xs) (d + 1) 44 0 [some (.ref 9), some (.int x1), some (.int x2), some (.int x3)] [] I J P := by
  exact am_pcall 6 (fun n => rfl) (am_lv (am_ln (am_lv (am_lv (am_l0))))) h
theorem bk_44_10 {L : Nat} {xs : Nat → Int32} {d : Nat} {P : Option Value → am_I → am_J → Prop} (x2 : Int32) (x3 : Int32) (I : am_I) (J : am_J)  (h : am_Ix x2 1728 fun q1 => am_Ix x2 1728 fun q2 => P (some (.int (((am_up I 64 q2 ((I 64 q1) + x3)) 60 3) - (1 : Int32)))) (am_up I 64 q2 ((I 64 q1) + x3)) J) : am_To (am_XX L xs) d 44 10 [some (.ref 9), none, some (.int x2), some (.int x3)] [] I J P := by
  obtain ⟨q1, j1, h⟩ := h
  obtain ⟨q2, j2, h⟩ := h
  exact am_pret 14 (fun n => (am_bs j1).trans ((am_bs j2).trans (rfl))) h
theorem bk_45_0 {L : Nat} {xs : Nat → Int32} {d : Nat} {P : Option Value → am_I → am_J → Prop} (x1 : Int32) (x2 : Int32) (x3 : Int32) (I : am_I) (J : am_J)  (h : am_To (am_XX L xs) d 46 0 [some (.ref 0), some (.int x1), some (.int x2), some (.int x3)] [] I J (fun r I2 J2 => am_To (am_XX L xs) (d + 1) 45 7 [some (.ref 0), some (.int x1), some (.int x2), some (.int x3)] (r.toList ++ []) I2 J2 P)) : am_To (am_XX L xs) (d + 1) 45 0 [some (.ref 0), some (.int x1), some (.int x2), some (.int x3)] [] I J P := by
  exact am_pcall 5 (fun n => rfl) (am_lv (am_lv (am_lv (am_lv (am_l0))))) h
theorem bk_45_7 {L : Nat} {xs : Nat → Int32} {d : Nat} {P : Option Value → am_I → am_J → Prop} (x1 : Int32) (x2 : Int32) (x3 : Int32) (s0 : Int32) (I : am_I) (J : am_J)  (h : am_If (s0 = 0) (P (some (.int (-1 : Int32))) I J) (am_To (am_XX L xs) d 26 0 [some (.int x1), some (.int x2), some (.int x3), none, none, none] [] I J (fun r I2 J2 => am_To (am_XX L xs) (d + 1) 45 23 [none, none, none, none] (r.toList ++ [.ref 64]) I2 J2 P))) : am_To (am_XX L xs) (d + 1) 45 7 [some (.ref 0), some (.int x1), some (.int x2), some (.int x3)] [.int s0] I J P := by
  by_cases c1 : s0 = 0
  · replace h := h.1 c1
    exact am_pret 3 (fun n => (if_pos c1).trans (rfl)) h
  · replace h := h.2 c1
    exact am_pcall 8 (fun n => (if_neg c1).trans (rfl)) (am_ln (am_ln (am_ln (am_ln (am_l0))))) h
theorem bk_45_23 {L : Nat} {xs : Nat → Int32} {d : Nat} {P : Option Value → am_I → am_J → Prop} (s1 : Int32) (I : am_I) (J : am_J)  (h : am_Ix s1 1728 fun q1 => P (some (.int (I 64 q1))) I J) : am_To (am_XX L xs) d 45 23 [none, none, none, none] [.int s1, .ref 64] I J P := by
  obtain ⟨q1, j1, h⟩ := h
  exact am_pret 3 (fun n => (am_bs j1).trans (rfl)) h
theorem bk_46_0 {L : Nat} {xs : Nat → Int32} {d : Nat} {P : Option Value → am_I → am_J → Prop} (x1 : Int32) (x2 : Int32) (x3 : Int32) (I : am_I) (J : am_J)  (h : am_If (x1 < 0) (P (some (.int (0 : Int32))) I J) (am_If ((3 : Int32) ≤ x1) (P (some (.int (0 : Int32))) I J) (am_To (am_XX L xs) d 42 0 [some (.ref 3), some (.int x2), some (.int x3)] [] I J (fun r I2 J2 => am_To (am_XX L xs) (d + 1) 46 18 [none, none, none, none] (r.toList ++ []) I2 J2 P)))) : am_To (am_XX L xs) (d + 1) 46 0 [some (.ref 0), some (.int x1), some (.int x2), some (.int x3)] [] I J P := by
  by_cases c1 : x1 < 0
  · replace h := h.1 c1
    exact am_pret 4 (fun n => (if_pos c1).trans (rfl)) h
  · replace h := h.2 c1
    by_cases c2 : (3 : Int32) ≤ x1
    · replace h := h.1 c2
      exact am_pret 7 (fun n => (if_neg c1).trans ((if_pos c2).trans (rfl))) h
    · replace h := h.2 c2
      exact am_pcall 10 (fun n => (if_neg c1).trans ((if_neg c2).trans (rfl))) (am_ln (am_ln (am_ln (am_ln (am_l0))))) h
theorem bk_46_18 {L : Nat} {xs : Nat → Int32} {d : Nat} {P : Option Value → am_I → am_J → Prop} (s0 : Int32) (I : am_I) (J : am_J)  (h : am_If (s0 = 0) (P (some (.int (0 : Int32))) I J) (P (some (.int (1 : Int32))) I J)) : am_To (am_XX L xs) d 46 18 [none, none, none, none] [.int s0] I J P := by
  by_cases c1 : s0 = 0
  · replace h := h.1 c1
    exact am_pret 3 (fun n => (if_pos c1).trans (rfl)) h
  · replace h := h.2 c1
    exact am_pret 4 (fun n => (if_neg c1).trans (rfl)) h
theorem bk_47_0 {L : Nat} {xs : Nat → Int32} {d : Nat} {P : Option Value → am_I → am_J → Prop} (x1 : Int32) (x2 : Int32) (x3 : Int32) (x4 : Int32) (x5 : Int32) (I : am_I) (J : am_J)  (h : am_To (am_XX L xs) d 46 0 [some (.ref 0), some (.int x1), some (.int x2), some (.int x3)] [] I J (fun r I2 J2 => am_To (am_XX L xs) (d + 1) 47 7 [some (.ref 0), some (.int x1), some (.int x2), some (.int x3), some (.int x4), some (.int x5)] (r.toList ++ []) I2 J2 P)) : am_To (am_XX L xs) (d + 1) 47 0 [some (.ref 0), some (.int x1), some (.int x2), some (.int x3), some (.int x4), some (.int x5)] [] I J P := by
  exact am_pcall 5 (fun n => rfl) (am_lv (am_lv (am_lv (am_lv (am_lv (am_lv (am_l0))))))) h
theorem bk_47_7 {L : Nat} {xs : Nat → Int32} {d : Nat} {P : Option Value → am_I → am_J → Prop} (x1 : Int32) (x2 : Int32) (x3 : Int32) (x4 : Int32) (x5 : Int32) (s0 : Int32) (I : am_I) (J : am_J)  (h : am_If (s0 = 0) (P (some (.int (-1 : Int32))) I J) (am_If (x4 < 0) (P (some (.int (-1 : Int32))) I J) (am_To (am_XX L xs) d 26 0 [some (.int x1), some (.int x2), some (.int x3), none, none, none] [] I J (fun r I2 J2 => am_To (am_XX L xs) (d + 1) 47 25 [none, none, none, none, some (.int x4), some (.int x5)] (r.toList ++ [.ref 9]) I2 J2 P)))) : am_To (am_XX L xs) (d + 1) 47 7 [some (.ref 0), some (.int x1), some (.int x2), some (.int x3), some (.int x4), some (.int x5)] [.int s0] I J P := by
  by_cases c1 : s0 = 0
  · replace h := h.1 c1
    exact am_pret 3 (fun n => (if_pos c1).trans (rfl)) h
  · replace h := h.2 c1
    by_cases c2 : x4 < 0
    · replace h := h.1 c2
      exact am_pret 5 (fun n => (if_neg c1).trans ((if_pos c2).trans (rfl))) h
    · replace h := h.2 c2
      exact am_pcall 9 (fun n => (if_neg c1).trans ((if_neg c2).trans (rfl))) (am_ln (am_ln (am_ln (am_ln (am_lv (am_lv (am_l0))))))) h
theorem bk_47_25 {L : Nat} {xs : Nat → Int32} {d : Nat} {P : Option Value → am_I → am_J → Prop} (x4 : Int32) (x5 : Int32) (s1 : Int32) (I : am_I) (J : am_J)  (h : am_To (am_XX L xs) d 48 0 [some (.ref 9), some (.int s1), some (.int x4), some (.int x5), none, none, none] [] I J (fun r I2 J2 => am_To (am_XX L xs) (d + 1) 47 32 [none, none, none, none, none, none] (r.toList ++ []) I2 J2 P)) : am_To (am_XX L xs) (d + 1) 47 25 [none, none, none, none, some (.int x4), some (.int x5)] [.int s1, .ref 9] I J P := by
  exact am_pcall 3 (fun n => rfl) (am_ln (am_ln (am_ln (am_ln (am_ln (am_ln (am_l0))))))) h
theorem bk_47_32 {L : Nat} {xs : Nat → Int32} {d : Nat} {P : Option Value → am_I → am_J → Prop} (s0 : Int32) (I : am_I) (J : am_J)  (h : P (some (.int s0)) I J) : am_To (am_XX L xs) d 47 32 [none, none, none, none, none, none] [.int s0] I J P := by
  exact am_pret 2 (fun n => rfl) h
theorem bk_48_0 {L : Nat} {xs : Nat → Int32} {d : Nat} {P : Option Value → am_I → am_J → Prop} (x1 : Int32) (x2 : Int32) (x3 : Int32) (I : am_I) (J : am_J)  (h : am_To (am_XX L xs) d 48 6 [some (.ref 9), some (.int x1), none, some (.int x3), some (.int x2), some (.int (0 : Int32)), none] [] I J P) : am_To (am_XX L xs) d 48 0 [some (.ref 9), some (.int x1), some (.int x2), some (.int x3), none, none, none] [] I J P := by
  exact am_path 4 (fun n => rfl) (am_lv (am_lv (am_ln (am_lv (am_lv (am_lv (am_ln (am_l0)))))))) h
theorem bk_48_6 {L : Nat} {xs : Nat → Int32} {d : Nat} {P : Option Value → am_I → am_J → Prop} (x1 : Int32) (x3 : Int32) (x4 : Int32) (x5 : Int32) (I : am_I) (J : am_J)  (h : am_If ((12 : Int32) ≤ x5) (am_To (am_XX L xs) d 51 0 [some (.ref 60), some (.int x1), some (.int x4), none, none] [] I J (fun r I2 J2 => am_To (am_XX L xs) (d + 1) 48 68 [none, none, none, some (.int x3), none, none, none] (r.toList ++ [.ref 9]) I2 J2 P)) (am_Ix x5 12 fun q1 => am_To (am_XX L xs) (d + 1) 48 20 [some (.ref 9), some (.int x1), none, some (.int x3), some (.int x4), some (.int x5), none] [(am_rf (am_tL.getD q1 none))] I J P)) : am_To (am_XX L xs) (d + 1) 48 6 [some (.ref 9), some (.int x1), none, some (.int x3), some (.int x4), some (.int x5), none] [] I J P := by
  by_cases c1 : (12 : Int32) ≤ x5
  · replace h := h.1 c1
    exact am_pcall 9 (fun n => (if_pos c1).trans (rfl)) (am_ln (am_ln (am_ln (am_lv (am_ln (am_ln (am_ln (am_l0)))))))) h
  · replace h := h.2 c1
    obtain ⟨q1, j2, h⟩ := h
    exact am_path 7 (fun n => (if_neg c1).trans ((am_bs j2).trans (rfl))) (am_lv (am_lv (am_ln (am_lv (am_lv (am_lv (am_ln (am_l0)))))))) h
theorem bk_48_68 {L : Nat} {xs : Nat → Int32} {d : Nat} {P : Option Value → am_I → am_J → Prop} (x3 : Int32) (s1 : Int32) (I : am_I) (J : am_J)  (h : am_To (am_XX L xs) d 52 0 [some (.ref 9), some (.int s1), some (.int x3)] [] I J (fun r I2 J2 => am_To (am_XX L xs) (d + 1) 48 72 [none, none, none, none, none, none, none] (r.toList ++ []) I2 J2 P)) : am_To (am_XX L xs) (d + 1) 48 68 [none, none, none, some (.int x3), none, none, none] [.int s1, .ref 9] I J P := by
  exact am_pcall 2 (fun n => rfl) (am_ln (am_ln (am_ln (am_ln (am_ln (am_ln (am_ln (am_l0)))))))) h
theorem bk_48_20 {L : Nat} {xs : Nat → Int32} {d : Nat} {P : Option Value → am_I → am_J → Prop} (x1 : Int32) (x3 : Int32) (x4 : Int32) (x5 : Int32) (I : am_I) (J : am_J) (q : Nat) (hq : q < 12) (h : am_To (am_XX L xs) d 49 0 [some (.ref (gH q)), some (.int x1), none, none] [] I J (fun r I2 J2 => am_To (am_XX L xs) (d + 1) 48 24 [some (.ref 9), some (.int x1), none, some (.int x3), some (.int x4), some (.int x5), none] (r.toList ++ []) I2 J2 P)) : am_To (am_XX L xs) (d + 1) 48 20 [some (.ref 9), some (.int x1), none, some (.int x3), some (.int x4), some (.int x5), none] [.ref (gH q)] I J P := by
  match q, hq, h with
  | 0, _, h =>
    exact am_pcall 2 (fun n => rfl) (am_lv (am_lv (am_ln (am_lv (am_lv (am_lv (am_ln (am_l0)))))))) h
  | 1, _, h =>
    exact am_pcall 2 (fun n => rfl) (am_lv (am_lv (am_ln (am_lv (am_lv (am_lv (am_ln (am_l0)))))))) h
  | 2, _, h =>
    exact am_pcall 2 (fun n => rfl) (am_lv (am_lv (am_ln (am_lv (am_lv (am_lv (am_ln (am_l0)))))))) h
  | 3, _, h =>
    exact am_pcall 2 (fun n => rfl) (am_lv (am_lv (am_ln (am_lv (am_lv (am_lv (am_ln (am_l0)))))))) h
  | 4, _, h =>
    exact am_pcall 2 (fun n => rfl) (am_lv (am_lv (am_ln (am_lv (am_lv (am_lv (am_ln (am_l0)))))))) h
  | 5, _, h =>
    exact am_pcall 2 (fun n => rfl) (am_lv (am_lv (am_ln (am_lv (am_lv (am_lv (am_ln (am_l0)))))))) h
  | 6, _, h =>
    exact am_pcall 2 (fun n => rfl) (am_lv (am_lv (am_ln (am_lv (am_lv (am_lv (am_ln (am_l0)))))))) h
  | 7, _, h =>
    exact am_pcall 2 (fun n => rfl) (am_lv (am_lv (am_ln (am_lv (am_lv (am_lv (am_ln (am_l0)))))))) h
  | 8, _, h =>
    exact am_pcall 2 (fun n => rfl) (am_lv (am_lv (am_ln (am_lv (am_lv (am_lv (am_ln (am_l0)))))))) h
  | 9, _, h =>
    exact am_pcall 2 (fun n => rfl) (am_lv (am_lv (am_ln (am_lv (am_lv (am_lv (am_ln (am_l0)))))))) h
  | 10, _, h =>
    exact am_pcall 2 (fun n => rfl) (am_lv (am_lv (am_ln (am_lv (am_lv (am_lv (am_ln (am_l0)))))))) h
  | 11, _, h =>
    exact am_pcall 2 (fun n => rfl) (am_lv (am_lv (am_ln (am_lv (am_lv (am_lv (am_ln (am_l0)))))))) h
  | q + 12, h0, _ => exact absurd h0 (by omega)
theorem bk_48_72 {L : Nat} {xs : Nat → Int32} {d : Nat} {P : Option Value → am_I → am_J → Prop} (s0 : Int32) (I : am_I) (J : am_J)  (h : P (some (.int s0)) I J) : am_To (am_XX L xs) d 48 72 [none, none, none, none, none, none, none] [.int s0] I J P := by
  exact am_pret 1 (fun n => rfl) h
theorem bk_48_24 {L : Nat} {xs : Nat → Int32} {d : Nat} {P : Option Value → am_I → am_J → Prop} (x1 : Int32) (x3 : Int32) (x4 : Int32) (x5 : Int32) (s0 : Int32) (I : am_I) (J : am_J)  (h : am_If (s0 ≤ x4) (am_To (am_XX L xs) (d + 1) 48 6 [some (.ref 9), some (.int x1), none, some (.int x3), some (.int (x4 - s0)), some (.int (x5 + (1 : Int32))), none] [] I J P) (am_To (am_XX L xs) d 50 0 [some (.ref 9), some (.int x5), some (.int x1), some (.int x4), some (.int x3), none] [] I J (fun r I2 J2 => am_To (am_XX L xs) (d + 1) 48 43 [none, none, none, none, none, none, none] (r.toList ++ []) I2 J2 P))) : am_To (am_XX L xs) (d + 1) 48 24 [some (.ref 9), some (.int x1), none, some (.int x3), some (.int x4), some (.int x5), none] [.int s0] I J P := by
  by_cases c1 : s0 ≤ x4
  · replace h := h.1 c1
    exact am_path 10 (fun n => (if_pos c1).trans (rfl)) (am_lv (am_lv (am_ln (am_lv (am_lv (am_lv (am_ln (am_l0)))))))) h
  · replace h := h.2 c1
    exact am_pcall 10 (fun n => (if_neg c1).trans (rfl)) (am_ln (am_ln (am_ln (am_ln (am_ln (am_ln (am_ln (am_l0)))))))) h
theorem bk_48_43 {L : Nat} {xs : Nat → Int32} {d : Nat} {P : Option Value → am_I → am_J → Prop} (s0 : Int32) (I : am_I) (J : am_J)  (h : P (some (.int s0)) I J) : am_To (am_XX L xs) d 48 43 [none, none, none, none, none, none, none] [.int s0] I J P := by
  exact am_pret 1 (fun n => rfl) h
theorem bk_49_0 {L : Nat} {xs : Nat → Int32} {d : Nat} {P : Option Value → am_I → am_J → Prop} (x1 : Int32) (I : am_I) (J : am_J) (t : Nat) (ht : t < 13) (h : am_To (am_XX L xs) d 49 4 [some (.ref (gH t)), some (.int x1), some (.int (0 : Int32)), some (.int (0 : Int32))] [] I J P) : am_To (am_XX L xs) d 49 0 [some (.ref (gH t)), some (.int x1), none, none] [] I J P := by
  exact am_path 4 (fun n => rfl) (am_lv (am_lv (am_lv (am_lv (am_l0))))) h
theorem bk_49_4 {L : Nat} {xs : Nat → Int32} {d : Nat} {P : Option Value → am_I → am_J → Prop} (x1 : Int32) (x2 : Int32) (x3 : Int32) (I : am_I) (J : am_J) (t : Nat) (ht : t < 13) (h : am_If ((I (gH t) 3) ≤ x3) (P (some (.int x2)) I J) (am_Ix x3 (gN t) fun q1 => am_If ((I (gA0 t) q1) = x1) (am_To (am_XX L xs) d 49 4 [some (.ref (gH t)), some (.int x1), some (.int (x2 + (1 : Int32))), some (.int (x3 + (1 : Int32)))] [] I J P) (am_To (am_XX L xs) d 49 4 [some (.ref (gH t)), some (.int x1), some (.int x2), some (.int (x3 + (1 : Int32)))] [] I J P))) : am_To (am_XX L xs) d 49 4 [some (.ref (gH t)), some (.int x1), some (.int x2), some (.int x3)] [] I J P := by
  match t, ht, h with
  | 0, _, h =>
    by_cases c1 : (I (gH 0) 3) ≤ x3
    · replace h := h.1 c1
      exact am_pret 6 (fun n => (if_pos c1).trans (rfl)) h
    · replace h := h.2 c1
      obtain ⟨q1, j2, h⟩ := h
      by_cases c3 : (I (gA0 0) q1) = x1
      · replace h := h.1 c3
        exact am_path 13 (fun n => (if_neg c1).trans ((am_bs j2).trans ((if_pos c3).trans (rfl)))) (am_lv (am_lv (am_lv (am_lv (am_l0))))) h
      · replace h := h.2 c3
        exact am_path 12 (fun n => (if_neg c1).trans ((am_bs j2).trans ((if_neg c3).trans (rfl)))) (am_lv (am_lv (am_lv (am_lv (am_l0))))) h
  | 1, _, h =>
    by_cases c1 : (I (gH 1) 3) ≤ x3
    · replace h := h.1 c1
      exact am_pret 6 (fun n => (if_pos c1).trans (rfl)) h
    · replace h := h.2 c1
      obtain ⟨q1, j2, h⟩ := h
      by_cases c3 : (I (gA0 1) q1) = x1
      · replace h := h.1 c3
        exact am_path 13 (fun n => (if_neg c1).trans ((am_bs j2).trans ((if_pos c3).trans (rfl)))) (am_lv (am_lv (am_lv (am_lv (am_l0))))) h
      · replace h := h.2 c3
        exact am_path 12 (fun n => (if_neg c1).trans ((am_bs j2).trans ((if_neg c3).trans (rfl)))) (am_lv (am_lv (am_lv (am_lv (am_l0))))) h
  | 2, _, h =>
    by_cases c1 : (I (gH 2) 3) ≤ x3
    · replace h := h.1 c1
      exact am_pret 6 (fun n => (if_pos c1).trans (rfl)) h
    · replace h := h.2 c1
      obtain ⟨q1, j2, h⟩ := h
      by_cases c3 : (I (gA0 2) q1) = x1
      · replace h := h.1 c3
        exact am_path 13 (fun n => (if_neg c1).trans ((am_bs j2).trans ((if_pos c3).trans (rfl)))) (am_lv (am_lv (am_lv (am_lv (am_l0))))) h
      · replace h := h.2 c3
        exact am_path 12 (fun n => (if_neg c1).trans ((am_bs j2).trans ((if_neg c3).trans (rfl)))) (am_lv (am_lv (am_lv (am_lv (am_l0))))) h
  | 3, _, h =>
    by_cases c1 : (I (gH 3) 3) ≤ x3
    · replace h := h.1 c1
      exact am_pret 6 (fun n => (if_pos c1).trans (rfl)) h
    · replace h := h.2 c1
      obtain ⟨q1, j2, h⟩ := h
      by_cases c3 : (I (gA0 3) q1) = x1
      · replace h := h.1 c3
        exact am_path 13 (fun n => (if_neg c1).trans ((am_bs j2).trans ((if_pos c3).trans (rfl)))) (am_lv (am_lv (am_lv (am_lv (am_l0))))) h
      · replace h := h.2 c3
        exact am_path 12 (fun n => (if_neg c1).trans ((am_bs j2).trans ((if_neg c3).trans (rfl)))) (am_lv (am_lv (am_lv (am_lv (am_l0))))) h
  | 4, _, h =>
    by_cases c1 : (I (gH 4) 3) ≤ x3
    · replace h := h.1 c1
      exact am_pret 6 (fun n => (if_pos c1).trans (rfl)) h
    · replace h := h.2 c1
      obtain ⟨q1, j2, h⟩ := h
      by_cases c3 : (I (gA0 4) q1) = x1
      · replace h := h.1 c3
        exact am_path 13 (fun n => (if_neg c1).trans ((am_bs j2).trans ((if_pos c3).trans (rfl)))) (am_lv (am_lv (am_lv (am_lv (am_l0))))) h
      · replace h := h.2 c3
        exact am_path 12 (fun n => (if_neg c1).trans ((am_bs j2).trans ((if_neg c3).trans (rfl)))) (am_lv (am_lv (am_lv (am_lv (am_l0))))) h
  | 5, _, h =>
    by_cases c1 : (I (gH 5) 3) ≤ x3
    · replace h := h.1 c1
      exact am_pret 6 (fun n => (if_pos c1).trans (rfl)) h
    · replace h := h.2 c1
      obtain ⟨q1, j2, h⟩ := h
      by_cases c3 : (I (gA0 5) q1) = x1
      · replace h := h.1 c3
        exact am_path 13 (fun n => (if_neg c1).trans ((am_bs j2).trans ((if_pos c3).trans (rfl)))) (am_lv (am_lv (am_lv (am_lv (am_l0))))) h
      · replace h := h.2 c3
        exact am_path 12 (fun n => (if_neg c1).trans ((am_bs j2).trans ((if_neg c3).trans (rfl)))) (am_lv (am_lv (am_lv (am_lv (am_l0))))) h
  | 6, _, h =>
    by_cases c1 : (I (gH 6) 3) ≤ x3
    · replace h := h.1 c1
      exact am_pret 6 (fun n => (if_pos c1).trans (rfl)) h
    · replace h := h.2 c1
      obtain ⟨q1, j2, h⟩ := h
      by_cases c3 : (I (gA0 6) q1) = x1
      · replace h := h.1 c3
        exact am_path 13 (fun n => (if_neg c1).trans ((am_bs j2).trans ((if_pos c3).trans (rfl)))) (am_lv (am_lv (am_lv (am_lv (am_l0))))) h
      · replace h := h.2 c3
        exact am_path 12 (fun n => (if_neg c1).trans ((am_bs j2).trans ((if_neg c3).trans (rfl)))) (am_lv (am_lv (am_lv (am_lv (am_l0))))) h
  | 7, _, h =>
    by_cases c1 : (I (gH 7) 3) ≤ x3
    · replace h := h.1 c1
      exact am_pret 6 (fun n => (if_pos c1).trans (rfl)) h
    · replace h := h.2 c1
      obtain ⟨q1, j2, h⟩ := h
      by_cases c3 : (I (gA0 7) q1) = x1
      · replace h := h.1 c3
        exact am_path 13 (fun n => (if_neg c1).trans ((am_bs j2).trans ((if_pos c3).trans (rfl)))) (am_lv (am_lv (am_lv (am_lv (am_l0))))) h
      · replace h := h.2 c3
        exact am_path 12 (fun n => (if_neg c1).trans ((am_bs j2).trans ((if_neg c3).trans (rfl)))) (am_lv (am_lv (am_lv (am_lv (am_l0))))) h
  | 8, _, h =>
    by_cases c1 : (I (gH 8) 3) ≤ x3
    · replace h := h.1 c1
      exact am_pret 6 (fun n => (if_pos c1).trans (rfl)) h
    · replace h := h.2 c1
      obtain ⟨q1, j2, h⟩ := h
      by_cases c3 : (I (gA0 8) q1) = x1
      · replace h := h.1 c3
        exact am_path 13 (fun n => (if_neg c1).trans ((am_bs j2).trans ((if_pos c3).trans (rfl)))) (am_lv (am_lv (am_lv (am_lv (am_l0))))) h
      · replace h := h.2 c3
        exact am_path 12 (fun n => (if_neg c1).trans ((am_bs j2).trans ((if_neg c3).trans (rfl)))) (am_lv (am_lv (am_lv (am_lv (am_l0))))) h
  | 9, _, h =>
    by_cases c1 : (I (gH 9) 3) ≤ x3
    · replace h := h.1 c1
      exact am_pret 6 (fun n => (if_pos c1).trans (rfl)) h
    · replace h := h.2 c1
      obtain ⟨q1, j2, h⟩ := h
      by_cases c3 : (I (gA0 9) q1) = x1
      · replace h := h.1 c3
        exact am_path 13 (fun n => (if_neg c1).trans ((am_bs j2).trans ((if_pos c3).trans (rfl)))) (am_lv (am_lv (am_lv (am_lv (am_l0))))) h
      · replace h := h.2 c3
        exact am_path 12 (fun n => (if_neg c1).trans ((am_bs j2).trans ((if_neg c3).trans (rfl)))) (am_lv (am_lv (am_lv (am_lv (am_l0))))) h
  | 10, _, h =>
    by_cases c1 : (I (gH 10) 3) ≤ x3
    · replace h := h.1 c1
      exact am_pret 6 (fun n => (if_pos c1).trans (rfl)) h
    · replace h := h.2 c1
      obtain ⟨q1, j2, h⟩ := h
      by_cases c3 : (I (gA0 10) q1) = x1
      · replace h := h.1 c3
        exact am_path 13 (fun n => (if_neg c1).trans ((am_bs j2).trans ((if_pos c3).trans (rfl)))) (am_lv (am_lv (am_lv (am_lv (am_l0))))) h
      · replace h := h.2 c3
        exact am_path 12 (fun n => (if_neg c1).trans ((am_bs j2).trans ((if_neg c3).trans (rfl)))) (am_lv (am_lv (am_lv (am_lv (am_l0))))) h
  | 11, _, h =>
    by_cases c1 : (I (gH 11) 3) ≤ x3
    · replace h := h.1 c1
      exact am_pret 6 (fun n => (if_pos c1).trans (rfl)) h
    · replace h := h.2 c1
      obtain ⟨q1, j2, h⟩ := h
      by_cases c3 : (I (gA0 11) q1) = x1
      · replace h := h.1 c3
        exact am_path 13 (fun n => (if_neg c1).trans ((am_bs j2).trans ((if_pos c3).trans (rfl)))) (am_lv (am_lv (am_lv (am_lv (am_l0))))) h
      · replace h := h.2 c3
        exact am_path 12 (fun n => (if_neg c1).trans ((am_bs j2).trans ((if_neg c3).trans (rfl)))) (am_lv (am_lv (am_lv (am_lv (am_l0))))) h
  | 12, _, h =>
    by_cases c1 : (I (gH 12) 3) ≤ x3
    · replace h := h.1 c1
      exact am_pret 6 (fun n => (if_pos c1).trans (rfl)) h
    · replace h := h.2 c1
      obtain ⟨q1, j2, h⟩ := h
      by_cases c3 : (I (gA0 12) q1) = x1
      · replace h := h.1 c3
        exact am_path 13 (fun n => (if_neg c1).trans ((am_bs j2).trans ((if_pos c3).trans (rfl)))) (am_lv (am_lv (am_lv (am_lv (am_l0))))) h
      · replace h := h.2 c3
        exact am_path 12 (fun n => (if_neg c1).trans ((am_bs j2).trans ((if_neg c3).trans (rfl)))) (am_lv (am_lv (am_lv (am_lv (am_l0))))) h
  | t + 13, h0, _ => exact absurd h0 (by omega)
theorem bk_50_0 {L : Nat} {xs : Nat → Int32} {d : Nat} {P : Option Value → am_I → am_J → Prop} (x1 : Int32) (x2 : Int32) (x3 : Int32) (x4 : Int32) (I : am_I) (J : am_J)  (h : am_Ix x1 12 fun q1 => am_To (am_XX L xs) d 50 6 [some (.ref 9), some (.int x1), some (.int x2), some (.int x3), some (.int x4), none] [(am_rf (am_tL.getD q1 none))] I J P) : am_To (am_XX L xs) d 50 0 [some (.ref 9), some (.int x1), some (.int x2), some (.int x3), some (.int x4), none] [] I J P := by
  obtain ⟨q1, j1, h⟩ := h
  exact am_path 4 (fun n => (am_bs j1).trans (rfl)) (am_lv (am_lv (am_lv (am_lv (am_lv (am_ln (am_l0))))))) h
theorem bk_50_6 {L : Nat} {xs : Nat → Int32} {d : Nat} {P : Option Value → am_I → am_J → Prop} (x1 : Int32) (x2 : Int32) (x3 : Int32) (x4 : Int32) (I : am_I) (J : am_J) (q : Nat) (hq : q < 12) (h : am_To (am_XX L xs) d 51 0 [some (.ref (gH q)), some (.int x2), some (.int x3), none, none] [] I J (fun r I2 J2 => am_To (am_XX L xs) (d + 1) 50 11 [some (.ref 9), some (.int x1), none, some (.int x3), some (.int x4), none] (r.toList ++ []) I2 J2 P)) : am_To (am_XX L xs) (d + 1) 50 6 [some (.ref 9), some (.int x1), some (.int x2), some (.int x3), some (.int x4), none] [.ref (gH q)] I J P := by
  match q, hq, h with
  | 0, _, h =>
    exact am_pcall 3 (fun n => rfl) (am_lv (am_lv (am_ln (am_lv (am_lv (am_ln (am_l0))))))) h
  | 1, _, h =>
    exact am_pcall 3 (fun n => rfl) (am_lv (am_lv (am_ln (am_lv (am_lv (am_ln (am_l0))))))) h
  | 2, _, h =>
    exact am_pcall 3 (fun n => rfl) (am_lv (am_lv (am_ln (am_lv (am_lv (am_ln (am_l0))))))) h
  | 3, _, h =>
    exact am_pcall 3 (fun n => rfl) (am_lv (am_lv (am_ln (am_lv (am_lv (am_ln (am_l0))))))) h
  | 4, _, h =>
    exact am_pcall 3 (fun n => rfl) (am_lv (am_lv (am_ln (am_lv (am_lv (am_ln (am_l0))))))) h
  | 5, _, h =>
    exact am_pcall 3 (fun n => rfl) (am_lv (am_lv (am_ln (am_lv (am_lv (am_ln (am_l0))))))) h
  | 6, _, h =>
    exact am_pcall 3 (fun n => rfl) (am_lv (am_lv (am_ln (am_lv (am_lv (am_ln (am_l0))))))) h
  | 7, _, h =>
    exact am_pcall 3 (fun n => rfl) (am_lv (am_lv (am_ln (am_lv (am_lv (am_ln (am_l0))))))) h
  | 8, _, h =>
    exact am_pcall 3 (fun n => rfl) (am_lv (am_lv (am_ln (am_lv (am_lv (am_ln (am_l0))))))) h
  | 9, _, h =>
    exact am_pcall 3 (fun n => rfl) (am_lv (am_lv (am_ln (am_lv (am_lv (am_ln (am_l0))))))) h
  | 10, _, h =>
    exact am_pcall 3 (fun n => rfl) (am_lv (am_lv (am_ln (am_lv (am_lv (am_ln (am_l0))))))) h
  | 11, _, h =>
    exact am_pcall 3 (fun n => rfl) (am_lv (am_lv (am_ln (am_lv (am_lv (am_ln (am_l0))))))) h
  | q + 12, h0, _ => exact absurd h0 (by omega)
theorem bk_50_11 {L : Nat} {xs : Nat → Int32} {d : Nat} {P : Option Value → am_I → am_J → Prop} (x1 : Int32) (x3 : Int32) (x4 : Int32) (s0 : Int32) (I : am_I) (J : am_J)  (h : am_If (s0 = (-1 : Int32)) (P (some (.int (-1 : Int32))) I J) (am_To (am_XX L xs) d 50 (am_sw 85 x4 [(0, 52), (1, 59), (2, 85), (3, 72)]) [some (.ref 9), some (.int x1), none, some (.int x3), none, some (.int s0)] [] I J P)) : am_To (am_XX L xs) d 50 11 [some (.ref 9), some (.int x1), none, some (.int x3), some (.int x4), none] [.int s0] I J P := by
  by_cases c1 : s0 = (-1 : Int32)
  · replace h := h.1 c1
    exact am_pret 6 (fun n => (if_pos c1).trans (rfl)) h
  · replace h := h.2 c1
    exact am_path 6 (fun n => (if_neg c1).trans (rfl)) (am_lv (am_lv (am_ln (am_lv (am_ln (am_lv (am_l0))))))) h
theorem bk_50_52 {L : Nat} {xs : Nat → Int32} {d : Nat} {P : Option Value → am_I → am_J → Prop} (x1 : Int32) (x3 : Int32) (I : am_I) (J : am_J)  (h : P (some (.int (((100 : Int32) * x1) + x3))) I J) : am_To (am_XX L xs) d 50 52 [none, some (.int x1), none, some (.int x3), none, none] [] I J P := by
  exact am_pret 6 (fun n => rfl) h
theorem bk_50_59 {L : Nat} {xs : Nat → Int32} {d : Nat} {P : Option Value → am_I → am_J → Prop} (x1 : Int32) (x5 : Int32) (I : am_I) (J : am_J)  (h : am_Ix x1 12 fun q1 => am_To (am_XX L xs) d 50 65 [none, none, none, none, none, some (.int x5)] [(am_rf (am_tL.getD q1 none))] I J P) : am_To (am_XX L xs) d 50 59 [some (.ref 9), some (.int x1), none, none, none, some (.int x5)] [] I J P := by
  obtain ⟨q1, j1, h⟩ := h
  exact am_path 4 (fun n => (am_bs j1).trans (rfl)) (am_ln (am_ln (am_ln (am_ln (am_ln (am_lv (am_l0))))))) h
theorem bk_50_72 {L : Nat} {xs : Nat → Int32} {d : Nat} {P : Option Value → am_I → am_J → Prop} (x1 : Int32) (x5 : Int32) (I : am_I) (J : am_J)  (h : am_Ix x1 12 fun q1 => am_To (am_XX L xs) d 50 78 [none, none, none, none, none, some (.int x5)] [(am_rf (am_tL.getD q1 none))] I J P) : am_To (am_XX L xs) d 50 72 [some (.ref 9), some (.int x1), none, none, none, some (.int x5)] [] I J P := by
  obtain ⟨q1, j1, h⟩ := h
  exact am_path 4 (fun n => (am_bs j1).trans (rfl)) (am_ln (am_ln (am_ln (am_ln (am_ln (am_lv (am_l0))))))) h
theorem bk_50_85 {L : Nat} {xs : Nat → Int32} {d : Nat} {P : Option Value → am_I → am_J → Prop}  (I : am_I) (J : am_J)  (h : P (some (.int (-1 : Int32))) I J) : am_To (am_XX L xs) d 50 85 [none, none, none, none, none, none] [] I J P := by
  exact am_pret 2 (fun n => rfl) h
theorem bk_50_65 {L : Nat} {xs : Nat → Int32} {d : Nat} {P : Option Value → am_I → am_J → Prop} (x5 : Int32) (I : am_I) (J : am_J) (q : Nat) (hq : q < 12) (h : am_Ix x5 (gN q) fun q1 => P (some (.int (I (gA2 q) q1))) I J) : am_To (am_XX L xs) d 50 65 [none, none, none, none, none, some (.int x5)] [.ref (gH q)] I J P := by
  match q, hq, h with
  | 0, _, h =>
    obtain ⟨q1, j1, h⟩ := h
    exact am_pret 4 (fun n => (am_bs j1).trans (rfl)) h
  | 1, _, h =>
    obtain ⟨q1, j1, h⟩ := h
    exact am_pret 4 (fun n => (am_bs j1).trans (rfl)) h
  | 2, _, h =>
    obtain ⟨q1, j1, h⟩ := h
    exact am_pret 4 (fun n => (am_bs j1).trans (rfl)) h
  | 3, _, h =>
    obtain ⟨q1, j1, h⟩ := h
    exact am_pret 4 (fun n => (am_bs j1).trans (rfl)) h
  | 4, _, h =>
    obtain ⟨q1, j1, h⟩ := h
    exact am_pret 4 (fun n => (am_bs j1).trans (rfl)) h
  | 5, _, h =>
    obtain ⟨q1, j1, h⟩ := h
    exact am_pret 4 (fun n => (am_bs j1).trans (rfl)) h
  | 6, _, h =>
    obtain ⟨q1, j1, h⟩ := h
    exact am_pret 4 (fun n => (am_bs j1).trans (rfl)) h
  | 7, _, h =>
    obtain ⟨q1, j1, h⟩ := h
    exact am_pret 4 (fun n => (am_bs j1).trans (rfl)) h
  | 8, _, h =>
    obtain ⟨q1, j1, h⟩ := h
    exact am_pret 4 (fun n => (am_bs j1).trans (rfl)) h
  | 9, _, h =>
    obtain ⟨q1, j1, h⟩ := h
    exact am_pret 4 (fun n => (am_bs j1).trans (rfl)) h
  | 10, _, h =>
    obtain ⟨q1, j1, h⟩ := h
    exact am_pret 4 (fun n => (am_bs j1).trans (rfl)) h
  | 11, _, h =>
    obtain ⟨q1, j1, h⟩ := h
    exact am_pret 4 (fun n => (am_bs j1).trans (rfl)) h
  | q + 12, h0, _ => exact absurd h0 (by omega)
theorem bk_50_78 {L : Nat} {xs : Nat → Int32} {d : Nat} {P : Option Value → am_I → am_J → Prop} (x5 : Int32) (I : am_I) (J : am_J) (q : Nat) (hq : q < 12) (h : am_Ix x5 (gN q) fun q1 => P (some (.int (I (gA1 q) q1))) I J) : am_To (am_XX L xs) d 50 78 [none, none, none, none, none, some (.int x5)] [.ref (gH q)] I J P := by
  match q, hq, h with
  | 0, _, h =>
    obtain ⟨q1, j1, h⟩ := h
    exact am_pret 4 (fun n => (am_bs j1).trans (rfl)) h
  | 1, _, h =>
    obtain ⟨q1, j1, h⟩ := h
    exact am_pret 4 (fun n => (am_bs j1).trans (rfl)) h
  | 2, _, h =>
    obtain ⟨q1, j1, h⟩ := h
    exact am_pret 4 (fun n => (am_bs j1).trans (rfl)) h
  | 3, _, h =>
    obtain ⟨q1, j1, h⟩ := h
    exact am_pret 4 (fun n => (am_bs j1).trans (rfl)) h
  | 4, _, h =>
    obtain ⟨q1, j1, h⟩ := h
    exact am_pret 4 (fun n => (am_bs j1).trans (rfl)) h
  | 5, _, h =>
    obtain ⟨q1, j1, h⟩ := h
    exact am_pret 4 (fun n => (am_bs j1).trans (rfl)) h
  | 6, _, h =>
    obtain ⟨q1, j1, h⟩ := h
    exact am_pret 4 (fun n => (am_bs j1).trans (rfl)) h
  | 7, _, h =>
    obtain ⟨q1, j1, h⟩ := h
    exact am_pret 4 (fun n => (am_bs j1).trans (rfl)) h
  | 8, _, h =>
    obtain ⟨q1, j1, h⟩ := h
    exact am_pret 4 (fun n => (am_bs j1).trans (rfl)) h
  | 9, _, h =>
    obtain ⟨q1, j1, h⟩ := h
    exact am_pret 4 (fun n => (am_bs j1).trans (rfl)) h
  | 10, _, h =>
    obtain ⟨q1, j1, h⟩ := h
    exact am_pret 4 (fun n => (am_bs j1).trans (rfl)) h
  | 11, _, h =>
    obtain ⟨q1, j1, h⟩ := h
    exact am_pret 4 (fun n => (am_bs j1).trans (rfl)) h
  | q + 12, h0, _ => exact absurd h0 (by omega)
theorem bk_51_0 {L : Nat} {xs : Nat → Int32} {d : Nat} {P : Option Value → am_I → am_J → Prop} (x1 : Int32) (x2 : Int32) (I : am_I) (J : am_J) (t : Nat) (ht : t < 13) (h : am_To (am_XX L xs) d 51 5 [some (.ref (gH t)), some (.int x1), none, some (.int x2), some (.int (0 : Int32))] [] I J P) : am_To (am_XX L xs) d 51 0 [some (.ref (gH t)), some (.int x1), some (.int x2), none, none] [] I J P := by
  exact am_path 4 (fun n => rfl) (am_lv (am_lv (am_ln (am_lv (am_lv (am_l0)))))) h
theorem bk_51_5 {L : Nat} {xs : Nat → Int32} {d : Nat} {P : Option Value → am_I → am_J → Prop} (x1 : Int32) (x3 : Int32) (x4 : Int32) (I : am_I) (J : am_J) (t : Nat) (ht : t < 13) (h : am_If ((I (gH t) 3) ≤ x4) (P (some (.int (-1 : Int32))) I J) (am_Ix x4 (gN t) fun q1 => am_If ((I (gA0 t) q1) = x1) (am_If (x3 = 0) (P (some (.int x4)) I J) (am_To (am_XX L xs) d 51 5 [some (.ref (gH t)), some (.int x1), none, some (.int (x3 + (-1 : Int32))), some (.int (x4 + (1 : Int32)))] [] I J P)) (am_To (am_XX L xs) d 51 5 [some (.ref (gH t)), some (.int x1), none, some (.int x3), some (.int (x4 + (1 : Int32)))] [] I J P))) : am_To (am_XX L xs) d 51 5 [some (.ref (gH t)), some (.int x1), none, some (.int x3), some (.int x4)] [] I J P := by
  match t, ht, h with
  | 0, _, h =>
    by_cases c1 : (I (gH 0) 3) ≤ x4
    · replace h := h.1 c1
      exact am_pret 6 (fun n => (if_pos c1).trans (rfl)) h
    · replace h := h.2 c1
      obtain ⟨q1, j2, h⟩ := h
      by_cases c3 : (I (gA0 0) q1) = x1
      · replace h := h.1 c3
        by_cases c4 : x3 = 0
        · replace h := h.1 c4
          exact am_pret 14 (fun n => (if_neg c1).trans ((am_bs j2).trans ((if_pos c3).trans ((if_pos c4).trans (rfl))))) h
        · replace h := h.2 c4
          exact am_path 15 (fun n => (if_neg c1).trans ((am_bs j2).trans ((if_pos c3).trans ((if_neg c4).trans (rfl))))) (am_lv (am_lv (am_ln (am_lv (am_lv (am_l0)))))) h
      · replace h := h.2 c3
        exact am_path 12 (fun n => (if_neg c1).trans ((am_bs j2).trans ((if_neg c3).trans (rfl)))) (am_lv (am_lv (am_ln (am_lv (am_lv (am_l0)))))) h
  | 1, _, h =>
    by_cases c1 : (I (gH 1) 3) ≤ x4
    · replace h := h.1 c1
      exact am_pret 6 (fun n => (if_pos c1).trans (rfl)) h
    · replace h := h.2 c1
      obtain ⟨q1, j2, h⟩ := h
      by_cases c3 : (I (gA0 1) q1) = x1
      · replace h := h.1 c3
        by_cases c4 : x3 = 0
        · replace h := h.1 c4
          exact am_pret 14 (fun n => (if_neg c1).trans ((am_bs j2).trans ((if_pos c3).trans ((if_pos c4).trans (rfl))))) h
        · replace h := h.2 c4
          exact am_path 15 (fun n => (if_neg c1).trans ((am_bs j2).trans ((if_pos c3).trans ((if_neg c4).trans (rfl))))) (am_lv (am_lv (am_ln (am_lv (am_lv (am_l0)))))) h
      · replace h := h.2 c3
        exact am_path 12 (fun n => (if_neg c1).trans ((am_bs j2).trans ((if_neg c3).trans (rfl)))) (am_lv (am_lv (am_ln (am_lv (am_lv (am_l0)))))) h
  | 2, _, h =>
    by_cases c1 : (I (gH 2) 3) ≤ x4
    · replace h := h.1 c1
      exact am_pret 6 (fun n => (if_pos c1).trans (rfl)) h
    · replace h := h.2 c1
      obtain ⟨q1, j2, h⟩ := h
      by_cases c3 : (I (gA0 2) q1) = x1
      · replace h := h.1 c3
        by_cases c4 : x3 = 0
        · replace h := h.1 c4
          exact am_pret 14 (fun n => (if_neg c1).trans ((am_bs j2).trans ((if_pos c3).trans ((if_pos c4).trans (rfl))))) h
        · replace h := h.2 c4
          exact am_path 15 (fun n => (if_neg c1).trans ((am_bs j2).trans ((if_pos c3).trans ((if_neg c4).trans (rfl))))) (am_lv (am_lv (am_ln (am_lv (am_lv (am_l0)))))) h
      · replace h := h.2 c3
        exact am_path 12 (fun n => (if_neg c1).trans ((am_bs j2).trans ((if_neg c3).trans (rfl)))) (am_lv (am_lv (am_ln (am_lv (am_lv (am_l0)))))) h
  | 3, _, h =>
    by_cases c1 : (I (gH 3) 3) ≤ x4
    · replace h := h.1 c1
      exact am_pret 6 (fun n => (if_pos c1).trans (rfl)) h
    · replace h := h.2 c1
      obtain ⟨q1, j2, h⟩ := h
      by_cases c3 : (I (gA0 3) q1) = x1
      · replace h := h.1 c3
        by_cases c4 : x3 = 0
        · replace h := h.1 c4
          exact am_pret 14 (fun n => (if_neg c1).trans ((am_bs j2).trans ((if_pos c3).trans ((if_pos c4).trans (rfl))))) h
        · replace h := h.2 c4
          exact am_path 15 (fun n => (if_neg c1).trans ((am_bs j2).trans ((if_pos c3).trans ((if_neg c4).trans (rfl))))) (am_lv (am_lv (am_ln (am_lv (am_lv (am_l0)))))) h
      · replace h := h.2 c3
        exact am_path 12 (fun n => (if_neg c1).trans ((am_bs j2).trans ((if_neg c3).trans (rfl)))) (am_lv (am_lv (am_ln (am_lv (am_lv (am_l0)))))) h
  | 4, _, h =>
    by_cases c1 : (I (gH 4) 3) ≤ x4
    · replace h := h.1 c1
      exact am_pret 6 (fun n => (if_pos c1).trans (rfl)) h
    · replace h := h.2 c1
      obtain ⟨q1, j2, h⟩ := h
      by_cases c3 : (I (gA0 4) q1) = x1
      · replace h := h.1 c3
        by_cases c4 : x3 = 0
        · replace h := h.1 c4
          exact am_pret 14 (fun n => (if_neg c1).trans ((am_bs j2).trans ((if_pos c3).trans ((if_pos c4).trans (rfl))))) h
        · replace h := h.2 c4
          exact am_path 15 (fun n => (if_neg c1).trans ((am_bs j2).trans ((if_pos c3).trans ((if_neg c4).trans (rfl))))) (am_lv (am_lv (am_ln (am_lv (am_lv (am_l0)))))) h
      · replace h := h.2 c3
        exact am_path 12 (fun n => (if_neg c1).trans ((am_bs j2).trans ((if_neg c3).trans (rfl)))) (am_lv (am_lv (am_ln (am_lv (am_lv (am_l0)))))) h
  | 5, _, h =>
    by_cases c1 : (I (gH 5) 3) ≤ x4
    · replace h := h.1 c1
      exact am_pret 6 (fun n => (if_pos c1).trans (rfl)) h
    · replace h := h.2 c1
      obtain ⟨q1, j2, h⟩ := h
      by_cases c3 : (I (gA0 5) q1) = x1
      · replace h := h.1 c3
        by_cases c4 : x3 = 0
        · replace h := h.1 c4
          exact am_pret 14 (fun n => (if_neg c1).trans ((am_bs j2).trans ((if_pos c3).trans ((if_pos c4).trans (rfl))))) h
        · replace h := h.2 c4
          exact am_path 15 (fun n => (if_neg c1).trans ((am_bs j2).trans ((if_pos c3).trans ((if_neg c4).trans (rfl))))) (am_lv (am_lv (am_ln (am_lv (am_lv (am_l0)))))) h
      · replace h := h.2 c3
        exact am_path 12 (fun n => (if_neg c1).trans ((am_bs j2).trans ((if_neg c3).trans (rfl)))) (am_lv (am_lv (am_ln (am_lv (am_lv (am_l0)))))) h
  | 6, _, h =>
    by_cases c1 : (I (gH 6) 3) ≤ x4
    · replace h := h.1 c1
      exact am_pret 6 (fun n => (if_pos c1).trans (rfl)) h
    · replace h := h.2 c1
      obtain ⟨q1, j2, h⟩ := h
      by_cases c3 : (I (gA0 6) q1) = x1
      · replace h := h.1 c3
        by_cases c4 : x3 = 0
        · replace h := h.1 c4
          exact am_pret 14 (fun n => (if_neg c1).trans ((am_bs j2).trans ((if_pos c3).trans ((if_pos c4).trans (rfl))))) h
        · replace h := h.2 c4
          exact am_path 15 (fun n => (if_neg c1).trans ((am_bs j2).trans ((if_pos c3).trans ((if_neg c4).trans (rfl))))) (am_lv (am_lv (am_ln (am_lv (am_lv (am_l0)))))) h
      · replace h := h.2 c3
        exact am_path 12 (fun n => (if_neg c1).trans ((am_bs j2).trans ((if_neg c3).trans (rfl)))) (am_lv (am_lv (am_ln (am_lv (am_lv (am_l0)))))) h
  | 7, _, h =>
    by_cases c1 : (I (gH 7) 3) ≤ x4
    · replace h := h.1 c1
      exact am_pret 6 (fun n => (if_pos c1).trans (rfl)) h
    · replace h := h.2 c1
      obtain ⟨q1, j2, h⟩ := h
      by_cases c3 : (I (gA0 7) q1) = x1
      · replace h := h.1 c3
        by_cases c4 : x3 = 0
        · replace h := h.1 c4
          exact am_pret 14 (fun n => (if_neg c1).trans ((am_bs j2).trans ((if_pos c3).trans ((if_pos c4).trans (rfl))))) h
        · replace h := h.2 c4
          exact am_path 15 (fun n => (if_neg c1).trans ((am_bs j2).trans ((if_pos c3).trans ((if_neg c4).trans (rfl))))) (am_lv (am_lv (am_ln (am_lv (am_lv (am_l0)))))) h
      · replace h := h.2 c3
        exact am_path 12 (fun n => (if_neg c1).trans ((am_bs j2).trans ((if_neg c3).trans (rfl)))) (am_lv (am_lv (am_ln (am_lv (am_lv (am_l0)))))) h
  | 8, _, h =>
    by_cases c1 : (I (gH 8) 3) ≤ x4
    · replace h := h.1 c1
      exact am_pret 6 (fun n => (if_pos c1).trans (rfl)) h
    · replace h := h.2 c1
      obtain ⟨q1, j2, h⟩ := h
      by_cases c3 : (I (gA0 8) q1) = x1
      · replace h := h.1 c3
        by_cases c4 : x3 = 0
        · replace h := h.1 c4
          exact am_pret 14 (fun n => (if_neg c1).trans ((am_bs j2).trans ((if_pos c3).trans ((if_pos c4).trans (rfl))))) h
        · replace h := h.2 c4
          exact am_path 15 (fun n => (if_neg c1).trans ((am_bs j2).trans ((if_pos c3).trans ((if_neg c4).trans (rfl))))) (am_lv (am_lv (am_ln (am_lv (am_lv (am_l0)))))) h
      · replace h := h.2 c3
        exact am_path 12 (fun n => (if_neg c1).trans ((am_bs j2).trans ((if_neg c3).trans (rfl)))) (am_lv (am_lv (am_ln (am_lv (am_lv (am_l0)))))) h
  | 9, _, h =>
    by_cases c1 : (I (gH 9) 3) ≤ x4
    · replace h := h.1 c1
      exact am_pret 6 (fun n => (if_pos c1).trans (rfl)) h
    · replace h := h.2 c1
      obtain ⟨q1, j2, h⟩ := h
      by_cases c3 : (I (gA0 9) q1) = x1
      · replace h := h.1 c3
        by_cases c4 : x3 = 0
        · replace h := h.1 c4
          exact am_pret 14 (fun n => (if_neg c1).trans ((am_bs j2).trans ((if_pos c3).trans ((if_pos c4).trans (rfl))))) h
        · replace h := h.2 c4
          exact am_path 15 (fun n => (if_neg c1).trans ((am_bs j2).trans ((if_pos c3).trans ((if_neg c4).trans (rfl))))) (am_lv (am_lv (am_ln (am_lv (am_lv (am_l0)))))) h
      · replace h := h.2 c3
        exact am_path 12 (fun n => (if_neg c1).trans ((am_bs j2).trans ((if_neg c3).trans (rfl)))) (am_lv (am_lv (am_ln (am_lv (am_lv (am_l0)))))) h
  | 10, _, h =>
    by_cases c1 : (I (gH 10) 3) ≤ x4
    · replace h := h.1 c1
      exact am_pret 6 (fun n => (if_pos c1).trans (rfl)) h
    · replace h := h.2 c1
      obtain ⟨q1, j2, h⟩ := h
      by_cases c3 : (I (gA0 10) q1) = x1
      · replace h := h.1 c3
        by_cases c4 : x3 = 0
        · replace h := h.1 c4
          exact am_pret 14 (fun n => (if_neg c1).trans ((am_bs j2).trans ((if_pos c3).trans ((if_pos c4).trans (rfl))))) h
        · replace h := h.2 c4
          exact am_path 15 (fun n => (if_neg c1).trans ((am_bs j2).trans ((if_pos c3).trans ((if_neg c4).trans (rfl))))) (am_lv (am_lv (am_ln (am_lv (am_lv (am_l0)))))) h
      · replace h := h.2 c3
        exact am_path 12 (fun n => (if_neg c1).trans ((am_bs j2).trans ((if_neg c3).trans (rfl)))) (am_lv (am_lv (am_ln (am_lv (am_lv (am_l0)))))) h
  | 11, _, h =>
    by_cases c1 : (I (gH 11) 3) ≤ x4
    · replace h := h.1 c1
      exact am_pret 6 (fun n => (if_pos c1).trans (rfl)) h
    · replace h := h.2 c1
      obtain ⟨q1, j2, h⟩ := h
      by_cases c3 : (I (gA0 11) q1) = x1
      · replace h := h.1 c3
        by_cases c4 : x3 = 0
        · replace h := h.1 c4
          exact am_pret 14 (fun n => (if_neg c1).trans ((am_bs j2).trans ((if_pos c3).trans ((if_pos c4).trans (rfl))))) h
        · replace h := h.2 c4
          exact am_path 15 (fun n => (if_neg c1).trans ((am_bs j2).trans ((if_pos c3).trans ((if_neg c4).trans (rfl))))) (am_lv (am_lv (am_ln (am_lv (am_lv (am_l0)))))) h
      · replace h := h.2 c3
        exact am_path 12 (fun n => (if_neg c1).trans ((am_bs j2).trans ((if_neg c3).trans (rfl)))) (am_lv (am_lv (am_ln (am_lv (am_lv (am_l0)))))) h
  | 12, _, h =>
    by_cases c1 : (I (gH 12) 3) ≤ x4
    · replace h := h.1 c1
      exact am_pret 6 (fun n => (if_pos c1).trans (rfl)) h
    · replace h := h.2 c1
      obtain ⟨q1, j2, h⟩ := h
      by_cases c3 : (I (gA0 12) q1) = x1
      · replace h := h.1 c3
        by_cases c4 : x3 = 0
        · replace h := h.1 c4
          exact am_pret 14 (fun n => (if_neg c1).trans ((am_bs j2).trans ((if_pos c3).trans ((if_pos c4).trans (rfl))))) h
        · replace h := h.2 c4
          exact am_path 15 (fun n => (if_neg c1).trans ((am_bs j2).trans ((if_pos c3).trans ((if_neg c4).trans (rfl))))) (am_lv (am_lv (am_ln (am_lv (am_lv (am_l0)))))) h
      · replace h := h.2 c3
        exact am_path 12 (fun n => (if_neg c1).trans ((am_bs j2).trans ((if_neg c3).trans (rfl)))) (am_lv (am_lv (am_ln (am_lv (am_lv (am_l0)))))) h
  | t + 13, h0, _ => exact absurd h0 (by omega)
theorem bk_52_0 {L : Nat} {xs : Nat → Int32} {d : Nat} {P : Option Value → am_I → am_J → Prop} (x1 : Int32) (x2 : Int32) (I : am_I) (J : am_J)  (h : am_If (x1 = (-1 : Int32)) (P (some (.int (-1 : Int32))) I J) (am_To (am_XX L xs) d 52 (am_sw 56 x2 [(2, 36), (3, 46)]) [some (.ref 9), some (.int x1), none] [] I J P)) : am_To (am_XX L xs) d 52 0 [some (.ref 9), some (.int x1), some (.int x2)] [] I J P := by
  by_cases c1 : x1 = (-1 : Int32)
  · replace h := h.1 c1
    exact am_pret 5 (fun n => (if_pos c1).trans (rfl)) h
  · replace h := h.2 c1
    exact am_path 5 (fun n => (if_neg c1).trans (rfl)) (am_lv (am_lv (am_ln (am_l0)))) h
theorem bk_52_36 {L : Nat} {xs : Nat → Int32} {d : Nat} {P : Option Value → am_I → am_J → Prop} (x1 : Int32) (I : am_I) (J : am_J)  (h : am_Ix x1 60 fun q1 => P (some (.int (I 63 q1))) I J) : am_To (am_XX L xs) d 52 36 [some (.ref 9), some (.int x1), none] [] I J P := by
  obtain ⟨q1, j1, h⟩ := h
  exact am_pret 6 (fun n => (am_bs j1).trans (rfl)) h
theorem bk_52_46 {L : Nat} {xs : Nat → Int32} {d : Nat} {P : Option Value → am_I → am_J → Prop} (x1 : Int32) (I : am_I) (J : am_J)  (h : am_Ix x1 60 fun q1 => P (some (.int (I 62 q1))) I J) : am_To (am_XX L xs) d 52 46 [some (.ref 9), some (.int x1), none] [] I J P := by
  obtain ⟨q1, j1, h⟩ := h
  exact am_pret 6 (fun n => (am_bs j1).trans (rfl)) h
theorem bk_52_56 {L : Nat} {xs : Nat → Int32} {d : Nat} {P : Option Value → am_I → am_J → Prop}  (I : am_I) (J : am_J)  (h : P (some (.int (-1 : Int32))) I J) : am_To (am_XX L xs) d 52 56 [none, none, none] [] I J P := by
  exact am_pret 2 (fun n => rfl) h
theorem bk_53_0 {L : Nat} {xs : Nat → Int32} {d : Nat} {P : Option Value → am_I → am_J → Prop} (x1 : Int32) (I : am_I) (J : am_J)  (h : am_To (am_XX L xs) d 38 0 [some (.ref 3), some (.int x1)] [] I J (fun r I2 J2 => am_To (am_XX L xs) (d + 1) 53 8 [some (.ref 0), some (.int x1)] (r.toList ++ []) I2 J2 P)) : am_To (am_XX L xs) (d + 1) 53 0 [some (.ref 0), some (.int x1)] [] I J P := by
  exact am_pcall 4 (fun n => rfl) (am_lv (am_lv (am_l0))) h
theorem bk_53_8 {L : Nat} {xs : Nat → Int32} {d : Nat} {P : Option Value → am_I → am_J → Prop} (x1 : Int32) (s0 : Int32) (I : am_I) (J : am_J)  (h : am_If (s0 = 0) (P (some (.int (-1 : Int32))) I J) (am_To (am_XX L xs) d 54 0 [some (.ref 0)] [] I J (fun r I2 J2 => am_To (am_XX L xs) (d + 1) 53 15 [none, some (.int x1)] (r.toList ++ []) I2 J2 P))) : am_To (am_XX L xs) (d + 1) 53 8 [some (.ref 0), some (.int x1)] [.int s0] I J P := by
  by_cases c1 : s0 = 0
  · replace h := h.1 c1
    exact am_pret 3 (fun n => (if_pos c1).trans (rfl)) h
  · replace h := h.2 c1
    exact am_pcall 3 (fun n => (if_neg c1).trans (rfl)) (am_ln (am_lv (am_l0))) h
theorem bk_53_15 {L : Nat} {xs : Nat → Int32} {d : Nat} {P : Option Value → am_I → am_J → Prop} (x1 : Int32) (I : am_I) (J : am_J)  (h : am_Ix x1 24 fun q1 => P (some (.int (I 69 q1))) I J) : am_To (am_XX L xs) d 53 15 [none, some (.int x1)] [.ref 66] I J P := by
  obtain ⟨q1, j1, h⟩ := h
  exact am_pret 5 (fun n => (am_bs j1).trans (rfl)) h
theorem bk_54_0 {L : Nat} {xs : Nat → Int32} {d : Nat} {P : Option Value → am_I → am_J → Prop}  (I : am_I) (J : am_J)  (h : am_If ((I 0 7) = 0) (P (some (.ref 66)) I J) (am_To (am_XX L xs) d 55 0 [some (.ref 66), some (.ref 64), some (.ref 65), none] [] I J (fun r I2 J2 => am_To (am_XX L xs) (d + 1) 54 28 [some (.ref 0)] (r.toList ++ []) I2 J2 P))) : am_To (am_XX L xs) (d + 1) 54 0 [some (.ref 0)] [] I J P := by
  by_cases c1 : (I 0 7) = 0
  · replace h := h.1 c1
    exact am_pret 6 (fun n => (if_pos c1).trans (rfl)) h
  · replace h := h.2 c1
    exact am_pcall 12 (fun n => (if_neg c1).trans (rfl)) (am_lv (am_l0)) h
theorem bk_54_28 {L : Nat} {xs : Nat → Int32} {d : Nat} {P : Option Value → am_I → am_J → Prop}  (I : am_I) (J : am_J)  (h : P (some (.ref 66)) (am_up I 0 7 (0 : Int32)) J) : am_To (am_XX L xs) d 54 28 [some (.ref 0)] [] I J P := by
  exact am_pret 6 (fun n => rfl) h
theorem bk_55_0 {L : Nat} {xs : Nat → Int32} {d : Nat} {P : Option Value → am_I → am_J → Prop}  (I : am_I) (J : am_J)  (h : am_To (am_XX L xs) d 56 0 [some (.ref 66)] [] I J (fun r I2 J2 => am_To (am_XX L xs) (d + 1) 55 4 [some (.ref 66), some (.ref 64), some (.ref 65), none] (r.toList ++ []) I2 J2 P)) : am_To (am_XX L xs) (d + 1) 55 0 [some (.ref 66), some (.ref 64), some (.ref 65), none] [] I J P := by
  exact am_pcall 2 (fun n => rfl) (am_lv (am_lv (am_lv (am_ln (am_l0))))) h
theorem bk_55_4 {L : Nat} {xs : Nat → Int32} {d : Nat} {P : Option Value → am_I → am_J → Prop}  (I : am_I) (J : am_J)  (h : am_To (am_XX L xs) d 59 0 [some (.ref 66), some (.ref 64), none, none] [] I J (fun r I2 J2 => am_To (am_XX L xs) (d + 1) 55 9 [some (.ref 66), some (.ref 64), some (.ref 65), none] (r.toList ++ []) I2 J2 P)) : am_To (am_XX L xs) (d + 1) 55 4 [some (.ref 66), some (.ref 64), some (.ref 65), none] [] I J P := by
  exact am_pcall 3 (fun n => rfl) (am_lv (am_lv (am_lv (am_ln (am_l0))))) h
theorem bk_55_9 {L : Nat} {xs : Nat → Int32} {d : Nat} {P : Option Value → am_I → am_J → Prop}  (I : am_I) (J : am_J)  (h : am_To (am_XX L xs) d 55 11 [some (.ref 66), some (.ref 64), some (.ref 65), some (.int (0 : Int32))] [] I J P) : am_To (am_XX L xs) d 55 9 [some (.ref 66), some (.ref 64), some (.ref 65), none] [] I J P := by
  exact am_path 2 (fun n => rfl) (am_lv (am_lv (am_lv (am_lv (am_l0))))) h
theorem bk_55_11 {L : Nat} {xs : Nat → Int32} {d : Nat} {P : Option Value → am_I → am_J → Prop} (x3 : Int32) (I : am_I) (J : am_J)  (h : am_If ((I 66 5) ≤ x3) (am_To (am_XX L xs) (d + 1) 55 46 [some (.ref 66), some (.ref 64), none, some (.int (0 : Int32))] [] I J P) (am_Ix x3 576 fun q1 => am_Ix x3 576 fun q2 => am_Ix (I 72 q2) 1728 fun q3 => am_To (am_XX L xs) d 60 0 [some (.ref 66), some (.int (I 72 q1)), some (.int (I 64 q3)), some (.ref 65), none, none] [] I J (fun r I2 J2 => am_To (am_XX L xs) (d + 1) 55 38 [some (.ref 66), some (.ref 64), some (.ref 65), some (.int x3)] (r.toList ++ []) I2 J2 P))) : am_To (am_XX L xs) (d + 1) 55 11 [some (.ref 66), some (.ref 64), some (.ref 65), some (.int x3)] [] I J P := by
  by_cases c1 : (I 66 5) ≤ x3
  · replace h := h.1 c1
    exact am_path 6 (fun n => (if_pos c1).trans (rfl)) (am_lv (am_lv (am_ln (am_lv (am_l0))))) h
  · replace h := h.2 c1
    obtain ⟨q1, j2, h⟩ := h
    obtain ⟨q2, j3, h⟩ := h
    obtain ⟨q3, j4, h⟩ := h
    exact am_pcall 17 (fun n => (if_neg c1).trans ((am_bs j2).trans ((am_bs j3).trans ((am_bs j4).trans (rfl))))) (am_lv (am_lv (am_lv (am_lv (am_l0))))) h
theorem bk_55_46 {L : Nat} {xs : Nat → Int32} {d : Nat} {P : Option Value → am_I → am_J → Prop} (x3 : Int32) (I : am_I) (J : am_J)  (h : am_If ((24 : Int32) ≤ x3) (P none I J) (am_To (am_XX L xs) d 65 0 [some (.ref 66), some (.int x3), some (.ref 64), none] [] I J (fun r I2 J2 => am_To (am_XX L xs) (d + 1) 55 58 [some (.ref 66), some (.ref 64), none, some (.int x3)] (r.toList ++ []) I2 J2 P))) : am_To (am_XX L xs) (d + 1) 55 46 [some (.ref 66), some (.ref 64), none, some (.int x3)] [] I J P := by
  by_cases c1 : (24 : Int32) ≤ x3
  · replace h := h.1 c1
    exact am_pret 4 (fun n => (if_pos c1).trans (rfl)) h
  · replace h := h.2 c1
    exact am_pcall 7 (fun n => (if_neg c1).trans (rfl)) (am_lv (am_lv (am_ln (am_lv (am_l0))))) h
theorem bk_55_38 {L : Nat} {xs : Nat → Int32} {d : Nat} {P : Option Value → am_I → am_J → Prop} (x3 : Int32) (I : am_I) (J : am_J)  (h : am_To (am_XX L xs) d 55 11 [some (.ref 66), some (.ref 64), some (.ref 65), some (.int (x3 + (1 : Int32)))] [] I J P) : am_To (am_XX L xs) d 55 38 [some (.ref 66), some (.ref 64), some (.ref 65), some (.int x3)] [] I J P := by
  exact am_path 2 (fun n => rfl) (am_lv (am_lv (am_lv (am_lv (am_l0))))) h
theorem bk_55_58 {L : Nat} {xs : Nat → Int32} {d : Nat} {P : Option Value → am_I → am_J → Prop} (x3 : Int32) (I : am_I) (J : am_J)  (h : am_To (am_XX L xs) d 55 46 [some (.ref 66), some (.ref 64), none, some (.int (x3 + (1 : Int32)))] [] I J P) : am_To (am_XX L xs) d 55 58 [some (.ref 66), some (.ref 64), none, some (.int x3)] [] I J P := by
  exact am_path 2 (fun n => rfl) (am_lv (am_lv (am_ln (am_lv (am_l0))))) h
theorem bk_56_0 {L : Nat} {xs : Nat → Int32} {d : Nat} {P : Option Value → am_I → am_J → Prop}  (I : am_I) (J : am_J)  (h : am_To (am_XX L xs) d 57 0 [some (.ref 67)] [] I J (fun r I2 J2 => am_To (am_XX L xs) (d + 1) 56 7 [some (.ref 66)] (r.toList ++ []) I2 J2 P)) : am_To (am_XX L xs) (d + 1) 56 0 [some (.ref 66)] [] I J P := by
  exact am_pcall 3 (fun n => rfl) (am_lv (am_l0)) h
theorem bk_56_7 {L : Nat} {xs : Nat → Int32} {d : Nat} {P : Option Value → am_I → am_J → Prop}  (I : am_I) (J : am_J)  (h : am_To (am_XX L xs) d 58 0 [some (.ref 69), some (.int (-1 : Int32)), none, none] [] I J (fun r I2 J2 => am_To (am_XX L xs) (d + 1) 56 15 [some (.ref 66)] (r.toList ++ []) I2 J2 P)) : am_To (am_XX L xs) (d + 1) 56 7 [some (.ref 66)] [] I J P := by
  exact am_pcall 4 (fun n => rfl) (am_lv (am_l0)) h
theorem bk_56_15 {L : Nat} {xs : Nat → Int32} {d : Nat} {P : Option Value → am_I → am_J → Prop}  (I : am_I) (J : am_J)  (h : am_To (am_XX L xs) d 58 0 [some (.ref 70), some (.int (1 : Int32)), none, none] [] I J (fun r I2 J2 => am_To (am_XX L xs) (d + 1) 56 23 [some (.ref 66)] (r.toList ++ []) I2 J2 P)) : am_To (am_XX L xs) (d + 1) 56 15 [some (.ref 66)] [] I J P := by
  exact am_pcall 4 (fun n => rfl) (am_lv (am_l0)) h
theorem bk_56_23 {L : Nat} {xs : Nat → Int32} {d : Nat} {P : Option Value → am_I → am_J → Prop}  (I : am_I) (J : am_J)  (h : am_To (am_XX L xs) d 58 0 [some (.ref 71), some (.int (0 : Int32)), none, none] [] I J (fun r I2 J2 => am_To (am_XX L xs) (d + 1) 56 31 [some (.ref 66)] (r.toList ++ []) I2 J2 P)) : am_To (am_XX L xs) (d + 1) 56 23 [some (.ref 66)] [] I J P := by
  exact am_pcall 4 (fun n => rfl) (am_lv (am_l0)) h
theorem bk_56_31 {L : Nat} {xs : Nat → Int32} {d : Nat} {P : Option Value → am_I → am_J → Prop}  (I : am_I) (J : am_J)  (h : P none (am_up (am_up (am_up I 66 5 (0 : Int32)) 66 6 (0 : Int32)) 66 7 (0 : Int32)) J) : am_To (am_XX L xs) d 56 31 [some (.ref 66)] [] I J P := by
  exact am_pret 10 (fun n => rfl) h
theorem bk_57_0 {L : Nat} {xs : Nat → Int32} {d : Nat} {P : Option Value → am_I → am_J → Prop}  (I : am_I) (J : am_J) (t : Nat) (ht : t < 8) (h : am_To (am_XX L xs) d 58 0 [some (.ref (fA t)), some (.int (0 : Int32)), none, none] [] I J (fun r I2 J2 => am_To (am_XX L xs) (d + 1) 57 8 [none] (r.toList ++ []) I2 J2 P)) : am_To (am_XX L xs) (d + 1) 57 0 [some (.ref (fH t))] [] I J P := by
  match t, ht, h with
  | 0, _, h =>
    exact am_pcall 4 (fun n => rfl) (am_ln (am_l0)) h
  | 1, _, h =>
    exact am_pcall 4 (fun n => rfl) (am_ln (am_l0)) h
  | 2, _, h =>
    exact am_pcall 4 (fun n => rfl) (am_ln (am_l0)) h
  | 3, _, h =>
    exact am_pcall 4 (fun n => rfl) (am_ln (am_l0)) h
  | 4, _, h =>
    exact am_pcall 4 (fun n => rfl) (am_ln (am_l0)) h
  | 5, _, h =>
    exact am_pcall 4 (fun n => rfl) (am_ln (am_l0)) h
  | 6, _, h =>
    exact am_pcall 4 (fun n => rfl) (am_ln (am_l0)) h
  | 7, _, h =>
    exact am_pcall 4 (fun n => rfl) (am_ln (am_l0)) h
  | t + 8, h0, _ => exact absurd h0 (by omega)
theorem bk_57_8 {L : Nat} {xs : Nat → Int32} {d : Nat} {P : Option Value → am_I → am_J → Prop}  (I : am_I) (J : am_J)  (h : P none I J) : am_To (am_XX L xs) d 57 8 [none] [] I J P := by
  exact am_pret 1 (fun n => rfl) h
theorem bk_58_0 {L : Nat} {xs : Nat → Int32} {d : Nat} {P : Option Value → am_I → am_J → Prop} (x1 : Int32) (I : am_I) (J : am_J) (t : Nat) (ht : t < 6) (h : am_To (am_XX L xs) d 58 5 [some (.ref (vH t)), some (.int x1), some (.int (0 : Int32)), some (.int (Int32.ofNat (vN t)))] [] I J P) : am_To (am_XX L xs) d 58 0 [some (.ref (vH t)), some (.int x1), none, none] [] I J P := by
  match t, ht, h with
  | 0, _, h =>
    exact am_path 5 (fun n => rfl) (am_lv (am_lv (am_lv (am_lv (am_l0))))) h
  | 1, _, h =>
    exact am_path 5 (fun n => rfl) (am_lv (am_lv (am_lv (am_lv (am_l0))))) h
  | 2, _, h =>
    exact am_path 5 (fun n => rfl) (am_lv (am_lv (am_lv (am_lv (am_l0))))) h
  | 3, _, h =>
    exact am_path 5 (fun n => rfl) (am_lv (am_lv (am_lv (am_lv (am_l0))))) h
  | 4, _, h =>
    exact am_path 5 (fun n => rfl) (am_lv (am_lv (am_lv (am_lv (am_l0))))) h
  | 5, _, h =>
    exact am_path 5 (fun n => rfl) (am_lv (am_lv (am_lv (am_lv (am_l0))))) h
  | t + 6, h0, _ => exact absurd h0 (by omega)
theorem bk_58_5 {L : Nat} {xs : Nat → Int32} {d : Nat} {P : Option Value → am_I → am_J → Prop} (x1 : Int32) (x2 : Int32) (x3 : Int32) (I : am_I) (J : am_J) (t : Nat) (ht : t < 6) (h : am_If (x3 ≤ x2) (P none I J) (am_Ix x2 (vN t) fun q1 => am_To (am_XX L xs) d 58 5 [some (.ref (vH t)), some (.int x1), some (.int (x2 + (1 : Int32))), some (.int x3)] [] (am_up I (vH t) q1 x1) J P)) : am_To (am_XX L xs) d 58 5 [some (.ref (vH t)), some (.int x1), some (.int x2), some (.int x3)] [] I J P := by
  match t, ht, h with
  | 0, _, h =>
    by_cases c1 : x3 ≤ x2
    · replace h := h.1 c1
      exact am_pret 4 (fun n => (if_pos c1).trans (rfl)) h
    · replace h := h.2 c1
      obtain ⟨q1, j2, h⟩ := h
      exact am_path 9 (fun n => (if_neg c1).trans ((am_bs j2).trans (rfl))) (am_lv (am_lv (am_lv (am_lv (am_l0))))) h
  | 1, _, h =>
    by_cases c1 : x3 ≤ x2
    · replace h := h.1 c1
      exact am_pret 4 (fun n => (if_pos c1).trans (rfl)) h
    · replace h := h.2 c1
      obtain ⟨q1, j2, h⟩ := h
      exact am_path 9 (fun n => (if_neg c1).trans ((am_bs j2).trans (rfl))) (am_lv (am_lv (am_lv (am_lv (am_l0))))) h
  | 2, _, h =>
    by_cases c1 : x3 ≤ x2
    · replace h := h.1 c1
      exact am_pret 4 (fun n => (if_pos c1).trans (rfl)) h
    · replace h := h.2 c1
      obtain ⟨q1, j2, h⟩ := h
      exact am_path 9 (fun n => (if_neg c1).trans ((am_bs j2).trans (rfl))) (am_lv (am_lv (am_lv (am_lv (am_l0))))) h
  | 3, _, h =>
    by_cases c1 : x3 ≤ x2
    · replace h := h.1 c1
      exact am_pret 4 (fun n => (if_pos c1).trans (rfl)) h
    · replace h := h.2 c1
      obtain ⟨q1, j2, h⟩ := h
      exact am_path 9 (fun n => (if_neg c1).trans ((am_bs j2).trans (rfl))) (am_lv (am_lv (am_lv (am_lv (am_l0))))) h
  | 4, _, h =>
    by_cases c1 : x3 ≤ x2
    · replace h := h.1 c1
      exact am_pret 4 (fun n => (if_pos c1).trans (rfl)) h
    · replace h := h.2 c1
      obtain ⟨q1, j2, h⟩ := h
      exact am_path 9 (fun n => (if_neg c1).trans ((am_bs j2).trans (rfl))) (am_lv (am_lv (am_lv (am_lv (am_l0))))) h
  | 5, _, h =>
    by_cases c1 : x3 ≤ x2
    · replace h := h.1 c1
      exact am_pret 4 (fun n => (if_pos c1).trans (rfl)) h
    · replace h := h.2 c1
      obtain ⟨q1, j2, h⟩ := h
      exact am_path 9 (fun n => (if_neg c1).trans ((am_bs j2).trans (rfl))) (am_lv (am_lv (am_lv (am_lv (am_l0))))) h
  | t + 6, h0, _ => exact absurd h0 (by omega)
theorem bk_59_0 {L : Nat} {xs : Nat → Int32} {d : Nat} {P : Option Value → am_I → am_J → Prop}  (I : am_I) (J : am_J)  (h : am_To (am_XX L xs) d 59 2 [some (.ref 66), some (.ref 64), some (.int (0 : Int32)), none] [] I J P) : am_To (am_XX L xs) d 59 0 [some (.ref 66), some (.ref 64), none, none] [] I J P := by
  exact am_path 2 (fun n => rfl) (am_lv (am_lv (am_lv (am_ln (am_l0))))) h
theorem bk_59_2 {L : Nat} {xs : Nat → Int32} {d : Nat} {P : Option Value → am_I → am_J → Prop} (x2 : Int32) (I : am_I) (J : am_J)  (h : am_If ((576 : Int32) ≤ x2) (P none I J) (am_Ix x2 1728 fun q1 => am_If ((I 64 q1) ≤ 0) (am_To (am_XX L xs) d 59 2 [some (.ref 66), some (.ref 64), some (.int (x2 + (1 : Int32))), none] [] I J P) (am_To (am_XX L xs) d 59 20 [some (.ref 66), some (.ref 64), some (.int x2), some (.int (I 66 5))] [] I J P))) : am_To (am_XX L xs) d 59 2 [some (.ref 66), some (.ref 64), some (.int x2), none] [] I J P := by
  by_cases c1 : (576 : Int32) ≤ x2
  · replace h := h.1 c1
    exact am_pret 4 (fun n => (if_pos c1).trans (rfl)) h
  · replace h := h.2 c1
    obtain ⟨q1, j2, h⟩ := h
    by_cases c3 : (I 64 q1) ≤ 0
    · replace h := h.1 c3
      exact am_path 9 (fun n => (if_neg c1).trans ((am_bs j2).trans ((if_pos c3).trans (rfl)))) (am_lv (am_lv (am_lv (am_ln (am_l0))))) h
    · replace h := h.2 c3
      exact am_path 10 (fun n => (if_neg c1).trans ((am_bs j2).trans ((if_neg c3).trans (rfl)))) (am_lv (am_lv (am_lv (am_lv (am_l0))))) h
theorem bk_59_20 {L : Nat} {xs : Nat → Int32} {d : Nat} {P : Option Value → am_I → am_J → Prop} (x2 : Int32) (x3 : Int32) (I : am_I) (J : am_J)  (h : am_If (x3 ≤ 0) (am_To (am_XX L xs) d 59 60 [some (.ref 66), some (.ref 64), some (.int x2), some (.int x3)] [] I J P) (am_Ix (x3 - (1 : Int32)) 576 fun q1 => am_Ix (I 72 q1) 1728 fun q2 => am_Ix x2 1728 fun q3 => am_If ((I 64 q3) ≤ (I 64 q2)) (am_To (am_XX L xs) d 59 60 [some (.ref 66), some (.ref 64), some (.int x2), some (.int x3)] [] I J P) (am_Ix (x3 - (1 : Int32)) 576 fun q4 => am_Ix x3 576 fun q5 => am_To (am_XX L xs) d 59 20 [some (.ref 66), some (.ref 64), some (.int x2), some (.int (x3 + (-1 : Int32)))] [] (am_up I 72 q5 (I 72 q4)) J P))) : am_To (am_XX L xs) d 59 20 [some (.ref 66), some (.ref 64), some (.int x2), some (.int x3)] [] I J P := by
  by_cases c1 : x3 ≤ 0
  · replace h := h.1 c1
    exact am_path 2 (fun n => (if_pos c1).trans (rfl)) (am_lv (am_lv (am_lv (am_lv (am_l0))))) h
  · replace h := h.2 c1
    obtain ⟨q1, j2, h⟩ := h
    obtain ⟨q2, j3, h⟩ := h
    obtain ⟨q3, j4, h⟩ := h
    by_cases c5 : (I 64 q3) ≤ (I 64 q2)
    · replace h := h.1 c5
      exact am_path 14 (fun n => (if_neg c1).trans ((am_bs j2).trans ((am_bs j3).trans ((am_bs j4).trans ((if_pos c5).trans (rfl)))))) (am_lv (am_lv (am_lv (am_lv (am_l0))))) h
    · replace h := h.2 c5
      obtain ⟨q4, j6, h⟩ := h
      obtain ⟨q5, j7, h⟩ := h
      exact am_path 26 (fun n => (if_neg c1).trans ((am_bs j2).trans ((am_bs j3).trans ((am_bs j4).trans ((if_neg c5).trans ((am_bs j6).trans ((am_bs j7).trans (rfl)))))))) (am_lv (am_lv (am_lv (am_lv (am_l0))))) h
theorem bk_59_60 {L : Nat} {xs : Nat → Int32} {d : Nat} {P : Option Value → am_I → am_J → Prop} (x2 : Int32) (x3 : Int32) (I : am_I) (J : am_J)  (h : am_Ix x3 576 fun q1 => am_To (am_XX L xs) d 59 2 [some (.ref 66), some (.ref 64), some (.int (x2 + (1 : Int32))), none] [] (am_up (am_up I 72 q1 x2) 66 5 (((am_up I 72 q1 x2) 66 5) + (1 : Int32))) J P) : am_To (am_XX L xs) d 59 60 [some (.ref 66), some (.ref 64), some (.int x2), some (.int x3)] [] I J P := by
  obtain ⟨q1, j1, h⟩ := h
  exact am_path 13 (fun n => (am_bs j1).trans (rfl)) (am_lv (am_lv (am_lv (am_ln (am_l0))))) h
theorem bk_60_0 {L : Nat} {xs : Nat → Int32} {d : Nat} {P : Option Value → am_I → am_J → Prop} (x1 : Int32) (x2 : Int32) (I : am_I) (J : am_J)  (h : am_Ix (x1 - x1 / (24 : Int32) * (24 : Int32)) 24 fun q1 => am_If ((I 69 q1) = (-1 : Int32)) (am_To (am_XX L xs) d 61 0 [some (.ref 67), some (.int (x1 / (24 : Int32))), some (.int (x1 - x1 / (24 : Int32) * (24 : Int32))), some (.ref 65), none, none] [] I J (fun r I2 J2 => am_To (am_XX L xs) (d + 1) 60 40 [some (.ref 66), some (.int x1), some (.int x2), none, some (.int (x1 / (24 : Int32))), some (.int (x1 - x1 / (24 : Int32) * (24 : Int32)))] (r.toList ++ [.int x1, .ref 70]) I2 J2 P)) (am_To (am_XX L xs) (d + 1) 60 44 [some (.ref 66), some (.int x1), some (.int x2), none, some (.int (x1 / (24 : Int32))), some (.int (x1 - x1 / (24 : Int32) * (24 : Int32)))] [.int (2 : Int32), .int x1, .ref 70] I J P)) : am_To (am_XX L xs) (d + 1) 60 0 [some (.ref 66), some (.int x1), some (.int x2), some (.ref 65), none, none] [] I J P := by
  obtain ⟨q1, j1, h⟩ := h
  by_cases c2 : (I 69 q1) = (-1 : Int32)
  · replace h := h.1 c2
    exact am_pcall 23 (fun n => (am_bs j1).trans ((if_pos c2).trans (rfl))) (am_lv (am_lv (am_lv (am_ln (am_lv (am_lv (am_l0))))))) h
  · replace h := h.2 c2
    exact am_path 18 (fun n => (am_bs j1).trans ((if_neg c2).trans (rfl))) (am_lv (am_lv (am_lv (am_ln (am_lv (am_lv (am_l0))))))) h
theorem bk_60_44 {L : Nat} {xs : Nat → Int32} {d : Nat} {P : Option Value → am_I → am_J → Prop} (x1 : Int32) (x2 : Int32) (x4 : Int32) (x5 : Int32) (s1 : Int32) (s2 : Int32) (I : am_I) (J : am_J)  (h : am_Ix s1 576 fun q1 => am_Ix x1 576 fun q2 => am_If (((am_up I 70 q1 s2) 70 q2) = 0) (am_Ix x5 24 fun q3 => am_To (am_XX L xs) d 64 0 [some (.ref 67), some (.int x4), some (.int x5), none, none] [] (am_up (am_up I 70 q1 s2) 69 q3 x4) J (fun r I2 J2 => am_To (am_XX L xs) (d + 1) 60 74 [some (.ref 66), none, some (.int x2), none, none, none] (r.toList ++ []) I2 J2 P)) (P none (am_up I 70 q1 s2) J)) : am_To (am_XX L xs) (d + 1) 60 44 [some (.ref 66), some (.int x1), some (.int x2), none, some (.int x4), some (.int x5)] [.int s2, .int s1, .ref 70] I J P := by
  obtain ⟨q1, j1, h⟩ := h
  obtain ⟨q2, j2, h⟩ := h
  by_cases c3 : ((am_up I 70 q1 s2) 70 q2) = 0
  · replace h := h.1 c3
    obtain ⟨q3, j4, h⟩ := h
    exact am_pcall 16 (fun n => (am_bs j1).trans ((am_bs j2).trans ((if_pos c3).trans ((am_bs j4).trans (rfl))))) (am_lv (am_ln (am_lv (am_ln (am_ln (am_ln (am_l0))))))) h
  · replace h := h.2 c3
    exact am_pret 7 (fun n => (am_bs j1).trans ((am_bs j2).trans ((if_neg c3).trans (rfl)))) h
theorem bk_60_40 {L : Nat} {xs : Nat → Int32} {d : Nat} {P : Option Value → am_I → am_J → Prop} (x1 : Int32) (x2 : Int32) (x4 : Int32) (x5 : Int32) (s1 : Int32) (s2 : Int32) (I : am_I) (J : am_J)  (h : am_To (am_XX L xs) d 60 44 [some (.ref 66), some (.int x1), some (.int x2), none, some (.int x4), some (.int x5)] [.int s2, .int s1, .ref 70] I J P) : am_To (am_XX L xs) d 60 40 [some (.ref 66), some (.int x1), some (.int x2), none, some (.int x4), some (.int x5)] [.int s2, .int s1, .ref 70] I J P := by
  exact am_path 1 (fun n => rfl) (am_lv (am_lv (am_lv (am_ln (am_lv (am_lv (am_l0))))))) h
theorem bk_60_74 {L : Nat} {xs : Nat → Int32} {d : Nat} {P : Option Value → am_I → am_J → Prop} (x2 : Int32) (I : am_I) (J : am_J)  (h : P none (am_up (am_up I 66 6 ((I 66 6) + (1 : Int32))) 66 7 (((am_up I 66 6 ((I 66 6) + (1 : Int32))) 66 7) + x2)) J) : am_To (am_XX L xs) d 60 74 [some (.ref 66), none, some (.int x2), none, none, none] [] I J P := by
  exact am_pret 13 (fun n => rfl) h
