set_option maxRecDepth 100000
set_option maxHeartbeats 4000000
theorem bk_25_0 {L : Nat} {xs : Nat → Int32} {d : Nat} {P : Option Value → am_I → am_J → Prop} (x1 : Int64) (I : am_I) (J : am_J)  (h : am_To (am_XX L xs) d 25 2 [some (.ref 3), some (.long x1), none, some (.int (0 : Int32))] [] I J P) : am_To (am_XX L xs) d 25 0 [some (.ref 3), some (.long x1), none, none] [] I J P := by
  exact am_path 2 (fun n => rfl) (am_lv (am_lv (am_ln (am_lv (am_l0))))) h
theorem bk_25_2 {L : Nat} {xs : Nat → Int32} {d : Nat} {P : Option Value → am_I → am_J → Prop} (x1 : Int64) (x3 : Int32) (I : am_I) (J : am_J)  (h : am_If ((I 3 1) ≤ x3) (am_If ((I 3 1) < (24 : Int32)) (am_Ix (I 3 1) 24 fun q1 => P (some (.int (((am_up I 3 1 ((I 3 1) + (1 : Int32))) 3 1) - (1 : Int32)))) (am_up I 3 1 ((I 3 1) + (1 : Int32))) (am_up J 4 q1 x1)) (P (some (.int (-1 : Int32))) I J)) (am_Ix x3 24 fun q2 => am_If ((lg_cmp (J 4 q2) x1) = 0) (P (some (.int x3)) I J) (am_To (am_XX L xs) d 25 2 [some (.ref 3), some (.long x1), none, some (.int (x3 + (1 : Int32)))] [] I J P))) : am_To (am_XX L xs) d 25 2 [some (.ref 3), some (.long x1), none, some (.int x3)] [] I J P := by
  by_cases c1 : (I 3 1) ≤ x3
  · replace h := h.1 c1
    by_cases c2 : (I 3 1) < (24 : Int32)
    · replace h := h.1 c2
      obtain ⟨q1, j3, h⟩ := h
      exact am_pret 25 (fun n => (if_pos c1).trans ((if_pos c2).trans ((am_bs j3).trans (rfl)))) h
    · replace h := h.2 c2
      exact am_pret 10 (fun n => (if_pos c1).trans ((if_neg c2).trans (rfl))) h
  · replace h := h.2 c1
    obtain ⟨q2, j4, h⟩ := h
    by_cases c5 : (lg_cmp (J 4 q2) x1) = 0
    · replace h := h.1 c5
      exact am_pret 13 (fun n => (if_neg c1).trans ((am_bs j4).trans ((if_pos c5).trans (rfl)))) h
    · replace h := h.2 c5
      exact am_path 13 (fun n => (if_neg c1).trans ((am_bs j4).trans ((if_neg c5).trans (rfl)))) (am_lv (am_lv (am_ln (am_lv (am_l0))))) h
theorem bk_26_0 {L : Nat} {xs : Nat → Int32} {d : Nat} {P : Option Value → am_I → am_J → Prop} (x0 : Int32) (x1 : Int32) (x2 : Int32) (I : am_I) (J : am_J)  (h : am_If (x0 = (2 : Int32)) (am_If (x1 ≤ x2) (am_To (am_XX L xs) d 26 14 [some (.int x0), some (.int x1), some (.int x2), none, none, none] [] I J P) (am_To (am_XX L xs) d 26 15 [some (.int x0), some (.int x1), some (.int x2), none, none, none] [.int (1 : Int32)] I J P)) (am_To (am_XX L xs) d 26 14 [some (.int x0), some (.int x1), some (.int x2), none, none, none] [] I J P)) : am_To (am_XX L xs) d 26 0 [some (.int x0), some (.int x1), some (.int x2), none, none, none] [] I J P := by
  by_cases c1 : x0 = (2 : Int32)
  · replace h := h.1 c1
    by_cases c2 : x1 ≤ x2
    · replace h := h.1 c2
      exact am_path 6 (fun n => (if_pos c1).trans ((if_pos c2).trans (rfl))) (am_lv (am_lv (am_lv (am_ln (am_ln (am_ln (am_l0))))))) h
    · replace h := h.2 c2
      exact am_path 8 (fun n => (if_pos c1).trans ((if_neg c2).trans (rfl))) (am_lv (am_lv (am_lv (am_ln (am_ln (am_ln (am_l0))))))) h
  · replace h := h.2 c1
    exact am_path 3 (fun n => (if_neg c1).trans (rfl)) (am_lv (am_lv (am_lv (am_ln (am_ln (am_ln (am_l0))))))) h
theorem bk_26_14 {L : Nat} {xs : Nat → Int32} {d : Nat} {P : Option Value → am_I → am_J → Prop} (x0 : Int32) (x1 : Int32) (x2 : Int32) (I : am_I) (J : am_J)  (h : am_To (am_XX L xs) d 26 15 [some (.int x0), some (.int x1), some (.int x2), none, none, none] [.int (0 : Int32)] I J P) : am_To (am_XX L xs) d 26 14 [some (.int x0), some (.int x1), some (.int x2), none, none, none] [] I J P := by
  exact am_path 1 (fun n => rfl) (am_lv (am_lv (am_lv (am_ln (am_ln (am_ln (am_l0))))))) h
theorem bk_26_15 {L : Nat} {xs : Nat → Int32} {d : Nat} {P : Option Value → am_I → am_J → Prop} (x0 : Int32) (x1 : Int32) (x2 : Int32) (s0 : Int32) (I : am_I) (J : am_J)  (h : am_If (s0 = 0) (am_To (am_XX L xs) d 26 25 [some (.int x0), some (.int x1), some (.int x2), some (.int s0), none, none] [.int x1] I J P) (am_To (am_XX L xs) d 26 25 [some (.int x0), some (.int x1), some (.int x2), some (.int s0), none, none] [.int x2] I J P)) : am_To (am_XX L xs) d 26 15 [some (.int x0), some (.int x1), some (.int x2), none, none, none] [.int s0] I J P := by
  by_cases c1 : s0 = 0
  · replace h := h.1 c1
    exact am_path 4 (fun n => (if_pos c1).trans (rfl)) (am_lv (am_lv (am_lv (am_lv (am_ln (am_ln (am_l0))))))) h
  · replace h := h.2 c1
    exact am_path 5 (fun n => (if_neg c1).trans (rfl)) (am_lv (am_lv (am_lv (am_lv (am_ln (am_ln (am_l0))))))) h
theorem bk_26_25 {L : Nat} {xs : Nat → Int32} {d : Nat} {P : Option Value → am_I → am_J → Prop} (x0 : Int32) (x1 : Int32) (x2 : Int32) (x3 : Int32) (s0 : Int32) (I : am_I) (J : am_J)  (h : am_If (x3 = 0) (am_To (am_XX L xs) d 26 36 [some (.int x0), none, none, none, some (.int s0), none] [.int x2] I J P) (am_To (am_XX L xs) d 26 36 [some (.int x0), none, none, none, some (.int s0), none] [.int x1] I J P)) : am_To (am_XX L xs) d 26 25 [some (.int x0), some (.int x1), some (.int x2), some (.int x3), none, none] [.int s0] I J P := by
  by_cases c1 : x3 = 0
  · replace h := h.1 c1
    exact am_path 4 (fun n => (if_pos c1).trans (rfl)) (am_lv (am_ln (am_ln (am_ln (am_lv (am_ln (am_l0))))))) h
  · replace h := h.2 c1
    exact am_path 5 (fun n => (if_neg c1).trans (rfl)) (am_lv (am_ln (am_ln (am_ln (am_lv (am_ln (am_l0))))))) h
theorem bk_26_36 {L : Nat} {xs : Nat → Int32} {d : Nat} {P : Option Value → am_I → am_J → Prop} (x0 : Int32) (x4 : Int32) (s0 : Int32) (I : am_I) (J : am_J)  (h : P (some (.int (((x0 * (576 : Int32)) + (x4 * (24 : Int32))) + s0))) I J) : am_To (am_XX L xs) d 26 36 [some (.int x0), none, none, none, some (.int x4), none] [.int s0] I J P := by
  exact am_pret 11 (fun n => rfl) h
theorem bk_27_0 {L : Nat} {xs : Nat → Int32} {d : Nat} {P : Option Value → am_I → am_J → Prop} (x1 : Int32) (x2 : Int32) (x3 : Int32) (I : am_I) (J : am_J) (t : Nat) (ht : t < 13) (h : am_To (am_XX L xs) d 28 0 [some (.ref (gH t))] [] I J (fun r I2 J2 => am_To (am_XX L xs) (d + 1) 27 4 [some (.ref (gH t)), some (.int x1), some (.int x2), some (.int x3)] (r.toList ++ []) I2 J2 P)) : am_To (am_XX L xs) (d + 1) 27 0 [some (.ref (gH t)), some (.int x1), some (.int x2), some (.int x3)] [] I J P := by
  match t, ht, h with
  | 0, _, h =>
    exact am_pcall 2 (fun n => rfl) (am_lv (am_lv (am_lv (am_lv (am_l0))))) h
  | 1, _, h =>
    exact am_pcall 2 (fun n => rfl) (am_lv (am_lv (am_lv (am_lv (am_l0))))) h
  | 2, _, h =>
    exact am_pcall 2 (fun n => rfl) (am_lv (am_lv (am_lv (am_lv (am_l0))))) h
  | 3, _, h =>
    exact am_pcall 2 (fun n => rfl) (am_lv (am_lv (am_lv (am_lv (am_l0))))) h
  | 4, _, h =>
    exact am_pcall 2 (fun n => rfl) (am_lv (am_lv (am_lv (am_lv (am_l0))))) h
  | 5, _, h =>
    exact am_pcall 2 (fun n => rfl) (am_lv (am_lv (am_lv (am_lv (am_l0))))) h
  | 6, _, h =>
    exact am_pcall 2 (fun n => rfl) (am_lv (am_lv (am_lv (am_lv (am_l0))))) h
  | 7, _, h =>
    exact am_pcall 2 (fun n => rfl) (am_lv (am_lv (am_lv (am_lv (am_l0))))) h
  | 8, _, h =>
    exact am_pcall 2 (fun n => rfl) (am_lv (am_lv (am_lv (am_lv (am_l0))))) h
  | 9, _, h =>
    exact am_pcall 2 (fun n => rfl) (am_lv (am_lv (am_lv (am_lv (am_l0))))) h
  | 10, _, h =>
    exact am_pcall 2 (fun n => rfl) (am_lv (am_lv (am_lv (am_lv (am_l0))))) h
  | 11, _, h =>
    exact am_pcall 2 (fun n => rfl) (am_lv (am_lv (am_lv (am_lv (am_l0))))) h
  | 12, _, h =>
    exact am_pcall 2 (fun n => rfl) (am_lv (am_lv (am_lv (am_lv (am_l0))))) h
  | t + 13, h0, _ => exact absurd h0 (by omega)
theorem bk_27_4 {L : Nat} {xs : Nat → Int32} {d : Nat} {P : Option Value → am_I → am_J → Prop} (x1 : Int32) (x2 : Int32) (x3 : Int32) (s0 : Int32) (I : am_I) (J : am_J) (t : Nat) (ht : t < 13) (h : am_If (s0 = 0) (am_Ix (I (gH t) 3) (gN t) fun q1 => am_Ix ((am_up I (gA0 t) q1 x1) (gH t) 3) (gN t) fun q2 => am_Ix ((am_up (am_up I (gA0 t) q1 x1) (gA1 t) q2 x2) (gH t) 3) (gN t) fun q3 => P none (am_up (am_up (am_up (am_up I (gA0 t) q1 x1) (gA1 t) q2 x2) (gA2 t) q3 x3) (gH t) 3 (((am_up (am_up (am_up I (gA0 t) q1 x1) (gA1 t) q2 x2) (gA2 t) q3 x3) (gH t) 3) + (1 : Int32))) J) (P none I J)) : am_To (am_XX L xs) d 27 4 [some (.ref (gH t)), some (.int x1), some (.int x2), some (.int x3)] [.int s0] I J P := by
  match t, ht, h with
  | 0, _, h =>
    by_cases c1 : s0 = 0
    · replace h := h.1 c1
      obtain ⟨q1, j2, h⟩ := h
      obtain ⟨q2, j3, h⟩ := h
      obtain ⟨q3, j4, h⟩ := h
      exact am_pret 26 (fun n => (if_pos c1).trans ((am_bs j2).trans ((am_bs j3).trans ((am_bs j4).trans (rfl))))) h
    · replace h := h.2 c1
      exact am_pret 2 (fun n => (if_neg c1).trans (rfl)) h
  | 1, _, h =>
    by_cases c1 : s0 = 0
    · replace h := h.1 c1
      obtain ⟨q1, j2, h⟩ := h
      obtain ⟨q2, j3, h⟩ := h
      obtain ⟨q3, j4, h⟩ := h
      exact am_pret 26 (fun n => (if_pos c1).trans ((am_bs j2).trans ((am_bs j3).trans ((am_bs j4).trans (rfl))))) h
    · replace h := h.2 c1
      exact am_pret 2 (fun n => (if_neg c1).trans (rfl)) h
  | 2, _, h =>
    by_cases c1 : s0 = 0
    · replace h := h.1 c1
      obtain ⟨q1, j2, h⟩ := h
      obtain ⟨q2, j3, h⟩ := h
      obtain ⟨q3, j4, h⟩ := h
      exact am_pret 26 (fun n => (if_pos c1).trans ((am_bs j2).trans ((am_bs j3).trans ((am_bs j4).trans (rfl))))) h
    · replace h := h.2 c1
      exact am_pret 2 (fun n => (if_neg c1).trans (rfl)) h
  | 3, _, h =>
    by_cases c1 : s0 = 0
    · replace h := h.1 c1
      obtain ⟨q1, j2, h⟩ := h
      obtain ⟨q2, j3, h⟩ := h
      obtain ⟨q3, j4, h⟩ := h
      exact am_pret 26 (fun n => (if_pos c1).trans ((am_bs j2).trans ((am_bs j3).trans ((am_bs j4).trans (rfl))))) h
    · replace h := h.2 c1
      exact am_pret 2 (fun n => (if_neg c1).trans (rfl)) h
  | 4, _, h =>
    by_cases c1 : s0 = 0
    · replace h := h.1 c1
      obtain ⟨q1, j2, h⟩ := h
      obtain ⟨q2, j3, h⟩ := h
      obtain ⟨q3, j4, h⟩ := h
      exact am_pret 26 (fun n => (if_pos c1).trans ((am_bs j2).trans ((am_bs j3).trans ((am_bs j4).trans (rfl))))) h
    · replace h := h.2 c1
      exact am_pret 2 (fun n => (if_neg c1).trans (rfl)) h
  | 5, _, h =>
    by_cases c1 : s0 = 0
    · replace h := h.1 c1
      obtain ⟨q1, j2, h⟩ := h
      obtain ⟨q2, j3, h⟩ := h
      obtain ⟨q3, j4, h⟩ := h
      exact am_pret 26 (fun n => (if_pos c1).trans ((am_bs j2).trans ((am_bs j3).trans ((am_bs j4).trans (rfl))))) h
    · replace h := h.2 c1
      exact am_pret 2 (fun n => (if_neg c1).trans (rfl)) h
  | 6, _, h =>
    by_cases c1 : s0 = 0
    · replace h := h.1 c1
      obtain ⟨q1, j2, h⟩ := h
      obtain ⟨q2, j3, h⟩ := h
      obtain ⟨q3, j4, h⟩ := h
      exact am_pret 26 (fun n => (if_pos c1).trans ((am_bs j2).trans ((am_bs j3).trans ((am_bs j4).trans (rfl))))) h
    · replace h := h.2 c1
      exact am_pret 2 (fun n => (if_neg c1).trans (rfl)) h
  | 7, _, h =>
    by_cases c1 : s0 = 0
    · replace h := h.1 c1
      obtain ⟨q1, j2, h⟩ := h
      obtain ⟨q2, j3, h⟩ := h
      obtain ⟨q3, j4, h⟩ := h
      exact am_pret 26 (fun n => (if_pos c1).trans ((am_bs j2).trans ((am_bs j3).trans ((am_bs j4).trans (rfl))))) h
    · replace h := h.2 c1
      exact am_pret 2 (fun n => (if_neg c1).trans (rfl)) h
  | 8, _, h =>
    by_cases c1 : s0 = 0
    · replace h := h.1 c1
      obtain ⟨q1, j2, h⟩ := h
      obtain ⟨q2, j3, h⟩ := h
      obtain ⟨q3, j4, h⟩ := h
      exact am_pret 26 (fun n => (if_pos c1).trans ((am_bs j2).trans ((am_bs j3).trans ((am_bs j4).trans (rfl))))) h
    · replace h := h.2 c1
      exact am_pret 2 (fun n => (if_neg c1).trans (rfl)) h
  | 9, _, h =>
    by_cases c1 : s0 = 0
    · replace h := h.1 c1
      obtain ⟨q1, j2, h⟩ := h
      obtain ⟨q2, j3, h⟩ := h
      obtain ⟨q3, j4, h⟩ := h
      exact am_pret 26 (fun n => (if_pos c1).trans ((am_bs j2).trans ((am_bs j3).trans ((am_bs j4).trans (rfl))))) h
    · replace h := h.2 c1
      exact am_pret 2 (fun n => (if_neg c1).trans (rfl)) h
  | 10, _, h =>
    by_cases c1 : s0 = 0
    · replace h := h.1 c1
      obtain ⟨q1, j2, h⟩ := h
      obtain ⟨q2, j3, h⟩ := h
      obtain ⟨q3, j4, h⟩ := h
      exact am_pret 26 (fun n => (if_pos c1).trans ((am_bs j2).trans ((am_bs j3).trans ((am_bs j4).trans (rfl))))) h
    · replace h := h.2 c1
      exact am_pret 2 (fun n => (if_neg c1).trans (rfl)) h
  | 11, _, h =>
    by_cases c1 : s0 = 0
    · replace h := h.1 c1
      obtain ⟨q1, j2, h⟩ := h
      obtain ⟨q2, j3, h⟩ := h
      obtain ⟨q3, j4, h⟩ := h
      exact am_pret 26 (fun n => (if_pos c1).trans ((am_bs j2).trans ((am_bs j3).trans ((am_bs j4).trans (rfl))))) h
    · replace h := h.2 c1
      exact am_pret 2 (fun n => (if_neg c1).trans (rfl)) h
  | 12, _, h =>
    by_cases c1 : s0 = 0
    · replace h := h.1 c1
      obtain ⟨q1, j2, h⟩ := h
      obtain ⟨q2, j3, h⟩ := h
      obtain ⟨q3, j4, h⟩ := h
      exact am_pret 26 (fun n => (if_pos c1).trans ((am_bs j2).trans ((am_bs j3).trans ((am_bs j4).trans (rfl))))) h
    · replace h := h.2 c1
      exact am_pret 2 (fun n => (if_neg c1).trans (rfl)) h
  | t + 13, h0, _ => exact absurd h0 (by omega)
theorem bk_28_0 {L : Nat} {xs : Nat → Int32} {d : Nat} {P : Option Value → am_I → am_J → Prop}  (I : am_I) (J : am_J) (t : Nat) (ht : t < 13) (h : am_If ((I (gH t) 3) < (Int32.ofNat (gN t))) (P (some (.int (0 : Int32))) I J) (P (some (.int (1 : Int32))) I J)) : am_To (am_XX L xs) d 28 0 [some (.ref (gH t))] [] I J P := by
  match t, ht, h with
  | 0, _, h =>
    by_cases c1 : (I (gH 0) 3) < (Int32.ofNat (gN 0))
    · replace h := h.1 c1
      exact am_pret 8 (fun n => (if_pos c1).trans (rfl)) h
    · replace h := h.2 c1
      exact am_pret 9 (fun n => (if_neg c1).trans (rfl)) h
  | 1, _, h =>
    by_cases c1 : (I (gH 1) 3) < (Int32.ofNat (gN 1))
    · replace h := h.1 c1
      exact am_pret 8 (fun n => (if_pos c1).trans (rfl)) h
    · replace h := h.2 c1
      exact am_pret 9 (fun n => (if_neg c1).trans (rfl)) h
  | 2, _, h =>
    by_cases c1 : (I (gH 2) 3) < (Int32.ofNat (gN 2))
    · replace h := h.1 c1
      exact am_pret 8 (fun n => (if_pos c1).trans (rfl)) h
    · replace h := h.2 c1
      exact am_pret 9 (fun n => (if_neg c1).trans (rfl)) h
  | 3, _, h =>
    by_cases c1 : (I (gH 3) 3) < (Int32.ofNat (gN 3))
    · replace h := h.1 c1
      exact am_pret 8 (fun n => (if_pos c1).trans (rfl)) h
    · replace h := h.2 c1
      exact am_pret 9 (fun n => (if_neg c1).trans (rfl)) h
  | 4, _, h =>
    by_cases c1 : (I (gH 4) 3) < (Int32.ofNat (gN 4))
    · replace h := h.1 c1
      exact am_pret 8 (fun n => (if_pos c1).trans (rfl)) h
    · replace h := h.2 c1
      exact am_pret 9 (fun n => (if_neg c1).trans (rfl)) h
  | 5, _, h =>
    by_cases c1 : (I (gH 5) 3) < (Int32.ofNat (gN 5))
    · replace h := h.1 c1
      exact am_pret 8 (fun n => (if_pos c1).trans (rfl)) h
    · replace h := h.2 c1
      exact am_pret 9 (fun n => (if_neg c1).trans (rfl)) h
  | 6, _, h =>
    by_cases c1 : (I (gH 6) 3) < (Int32.ofNat (gN 6))
    · replace h := h.1 c1
      exact am_pret 8 (fun n => (if_pos c1).trans (rfl)) h
    · replace h := h.2 c1
      exact am_pret 9 (fun n => (if_neg c1).trans (rfl)) h
  | 7, _, h =>
    by_cases c1 : (I (gH 7) 3) < (Int32.ofNat (gN 7))
    · replace h := h.1 c1
      exact am_pret 8 (fun n => (if_pos c1).trans (rfl)) h
    · replace h := h.2 c1
      exact am_pret 9 (fun n => (if_neg c1).trans (rfl)) h
  | 8, _, h =>
    by_cases c1 : (I (gH 8) 3) < (Int32.ofNat (gN 8))
    · replace h := h.1 c1
      exact am_pret 8 (fun n => (if_pos c1).trans (rfl)) h
    · replace h := h.2 c1
      exact am_pret 9 (fun n => (if_neg c1).trans (rfl)) h
  | 9, _, h =>
    by_cases c1 : (I (gH 9) 3) < (Int32.ofNat (gN 9))
    · replace h := h.1 c1
      exact am_pret 8 (fun n => (if_pos c1).trans (rfl)) h
    · replace h := h.2 c1
      exact am_pret 9 (fun n => (if_neg c1).trans (rfl)) h
  | 10, _, h =>
    by_cases c1 : (I (gH 10) 3) < (Int32.ofNat (gN 10))
    · replace h := h.1 c1
      exact am_pret 8 (fun n => (if_pos c1).trans (rfl)) h
    · replace h := h.2 c1
      exact am_pret 9 (fun n => (if_neg c1).trans (rfl)) h
  | 11, _, h =>
    by_cases c1 : (I (gH 11) 3) < (Int32.ofNat (gN 11))
    · replace h := h.1 c1
      exact am_pret 8 (fun n => (if_pos c1).trans (rfl)) h
    · replace h := h.2 c1
      exact am_pret 9 (fun n => (if_neg c1).trans (rfl)) h
  | 12, _, h =>
    by_cases c1 : (I (gH 12) 3) < (Int32.ofNat (gN 12))
    · replace h := h.1 c1
      exact am_pret 8 (fun n => (if_pos c1).trans (rfl)) h
    · replace h := h.2 c1
      exact am_pret 9 (fun n => (if_neg c1).trans (rfl)) h
  | t + 13, h0, _ => exact absurd h0 (by omega)
theorem bk_29_0 {L : Nat} {xs : Nat → Int32} {d : Nat} {P : Option Value → am_I → am_J → Prop} (x1 : Int32) (I : am_I) (J : am_J)  (h : am_Ix x1 12 fun q1 => am_Ix x1 12 fun q2 => am_To (am_XX L xs) d 29 14 [none, none] [(am_rf (am_tL.getD q2 none)), .ref 9] (am_up I 59 q1 (vp_nar .boolean (1 : Int32))) J P) : am_To (am_XX L xs) d 29 0 [some (.ref 9), some (.int x1)] [] I J P := by
  obtain ⟨q1, j1, h⟩ := h
  obtain ⟨q2, j2, h⟩ := h
  exact am_path 10 (fun n => (am_bs j1).trans ((am_bs j2).trans (rfl))) (am_ln (am_ln (am_l0))) h
theorem bk_29_14 {L : Nat} {xs : Nat → Int32} {d : Nat} {P : Option Value → am_I → am_J → Prop}  (I : am_I) (J : am_J) (q : Nat) (hq : q < 12) (h : am_To (am_XX L xs) d 30 0 [some (.ref 9), some (.ref (gH q)), some (.int (1 : Int32)), none] [] I J (fun r I2 J2 => am_To (am_XX L xs) (d + 1) 29 18 [none, none] (r.toList ++ []) I2 J2 P)) : am_To (am_XX L xs) (d + 1) 29 14 [none, none] [.ref (gH q), .ref 9] I J P := by
  exact am_pcall 2 (fun n => rfl) (am_ln (am_ln (am_l0))) h
theorem bk_29_18 {L : Nat} {xs : Nat → Int32} {d : Nat} {P : Option Value → am_I → am_J → Prop}  (I : am_I) (J : am_J)  (h : P none I J) : am_To (am_XX L xs) d 29 18 [none, none] [] I J P := by
  exact am_pret 1 (fun n => rfl) h
theorem bk_30_0 {L : Nat} {xs : Nat → Int32} {d : Nat} {P : Option Value → am_I → am_J → Prop} (x2 : Int32) (I : am_I) (J : am_J) (t : Nat) (ht : t < 12) (h : am_To (am_XX L xs) d 30 2 [some (.ref 9), some (.ref (gH t)), some (.int x2), some (.int (0 : Int32))] [] I J P) : am_To (am_XX L xs) d 30 0 [some (.ref 9), some (.ref (gH t)), some (.int x2), none] [] I J P := by
  exact am_path 2 (fun n => rfl) (am_lv (am_lv (am_lv (am_lv (am_l0))))) h
theorem bk_30_2 {L : Nat} {xs : Nat → Int32} {d : Nat} {P : Option Value → am_I → am_J → Prop} (x2 : Int32) (x3 : Int32) (I : am_I) (J : am_J) (t : Nat) (ht : t < 12) (h : am_If ((I (gH t) 3) ≤ x3) (P none I J) (am_Ix x3 (gN t) fun q1 => am_Ix (I (gA0 t) q1) 1728 fun q2 => am_Ix x3 (gN t) fun q3 => am_Ix (I (gA0 t) q1) 1728 fun q4 => am_To (am_XX L xs) d 30 2 [some (.ref 9), some (.ref (gH t)), some (.int x2), some (.int (x3 + (1 : Int32)))] [] (am_up I 64 q4 ((I 64 q2) + (x2 * (I (gA1 t) q3)))) J P)) : am_To (am_XX L xs) d 30 2 [some (.ref 9), some (.ref (gH t)), some (.int x2), some (.int x3)] [] I J P := by
  match t, ht, h with
  | 0, _, h =>
    by_cases c1 : (I (gH 0) 3) ≤ x3
    · replace h := h.1 c1
      exact am_pret 5 (fun n => (if_pos c1).trans (rfl)) h
    · replace h := h.2 c1
      obtain ⟨q1, j2, h⟩ := h
      obtain ⟨q2, j3, h⟩ := h
      obtain ⟨q3, j4, h⟩ := h
      obtain ⟨q4, j5, h⟩ := h
      exact am_path 22 (fun n => (if_neg c1).trans ((am_bs j2).trans ((am_bs j3).trans ((am_bs j4).trans ((am_bs j5).trans (rfl)))))) (am_lv (am_lv (am_lv (am_lv (am_l0))))) h
  | 1, _, h =>
    by_cases c1 : (I (gH 1) 3) ≤ x3
    · replace h := h.1 c1
      exact am_pret 5 (fun n => (if_pos c1).trans (rfl)) h
    · replace h := h.2 c1
      obtain ⟨q1, j2, h⟩ := h
      obtain ⟨q2, j3, h⟩ := h
      obtain ⟨q3, j4, h⟩ := h
      obtain ⟨q4, j5, h⟩ := h
      exact am_path 22 (fun n => (if_neg c1).trans ((am_bs j2).trans ((am_bs j3).trans ((am_bs j4).trans ((am_bs j5).trans (rfl)))))) (am_lv (am_lv (am_lv (am_lv (am_l0))))) h
  | 2, _, h =>
    by_cases c1 : (I (gH 2) 3) ≤ x3
    · replace h := h.1 c1
      exact am_pret 5 (fun n => (if_pos c1).trans (rfl)) h
    · replace h := h.2 c1
      obtain ⟨q1, j2, h⟩ := h
      obtain ⟨q2, j3, h⟩ := h
      obtain ⟨q3, j4, h⟩ := h
      obtain ⟨q4, j5, h⟩ := h
      exact am_path 22 (fun n => (if_neg c1).trans ((am_bs j2).trans ((am_bs j3).trans ((am_bs j4).trans ((am_bs j5).trans (rfl)))))) (am_lv (am_lv (am_lv (am_lv (am_l0))))) h
  | 3, _, h =>
    by_cases c1 : (I (gH 3) 3) ≤ x3
    · replace h := h.1 c1
      exact am_pret 5 (fun n => (if_pos c1).trans (rfl)) h
    · replace h := h.2 c1
      obtain ⟨q1, j2, h⟩ := h
      obtain ⟨q2, j3, h⟩ := h
      obtain ⟨q3, j4, h⟩ := h
      obtain ⟨q4, j5, h⟩ := h
      exact am_path 22 (fun n => (if_neg c1).trans ((am_bs j2).trans ((am_bs j3).trans ((am_bs j4).trans ((am_bs j5).trans (rfl)))))) (am_lv (am_lv (am_lv (am_lv (am_l0))))) h
  | 4, _, h =>
    by_cases c1 : (I (gH 4) 3) ≤ x3
    · replace h := h.1 c1
      exact am_pret 5 (fun n => (if_pos c1).trans (rfl)) h
    · replace h := h.2 c1
      obtain ⟨q1, j2, h⟩ := h
      obtain ⟨q2, j3, h⟩ := h
      obtain ⟨q3, j4, h⟩ := h
      obtain ⟨q4, j5, h⟩ := h
      exact am_path 22 (fun n => (if_neg c1).trans ((am_bs j2).trans ((am_bs j3).trans ((am_bs j4).trans ((am_bs j5).trans (rfl)))))) (am_lv (am_lv (am_lv (am_lv (am_l0))))) h
  | 5, _, h =>
    by_cases c1 : (I (gH 5) 3) ≤ x3
    · replace h := h.1 c1
      exact am_pret 5 (fun n => (if_pos c1).trans (rfl)) h
    · replace h := h.2 c1
      obtain ⟨q1, j2, h⟩ := h
      obtain ⟨q2, j3, h⟩ := h
      obtain ⟨q3, j4, h⟩ := h
      obtain ⟨q4, j5, h⟩ := h
      exact am_path 22 (fun n => (if_neg c1).trans ((am_bs j2).trans ((am_bs j3).trans ((am_bs j4).trans ((am_bs j5).trans (rfl)))))) (am_lv (am_lv (am_lv (am_lv (am_l0))))) h
  | 6, _, h =>
    by_cases c1 : (I (gH 6) 3) ≤ x3
    · replace h := h.1 c1
      exact am_pret 5 (fun n => (if_pos c1).trans (rfl)) h
    · replace h := h.2 c1
      obtain ⟨q1, j2, h⟩ := h
      obtain ⟨q2, j3, h⟩ := h
      obtain ⟨q3, j4, h⟩ := h
      obtain ⟨q4, j5, h⟩ := h
      exact am_path 22 (fun n => (if_neg c1).trans ((am_bs j2).trans ((am_bs j3).trans ((am_bs j4).trans ((am_bs j5).trans (rfl)))))) (am_lv (am_lv (am_lv (am_lv (am_l0))))) h
  | 7, _, h =>
    by_cases c1 : (I (gH 7) 3) ≤ x3
    · replace h := h.1 c1
      exact am_pret 5 (fun n => (if_pos c1).trans (rfl)) h
    · replace h := h.2 c1
      obtain ⟨q1, j2, h⟩ := h
      obtain ⟨q2, j3, h⟩ := h
      obtain ⟨q3, j4, h⟩ := h
      obtain ⟨q4, j5, h⟩ := h
      exact am_path 22 (fun n => (if_neg c1).trans ((am_bs j2).trans ((am_bs j3).trans ((am_bs j4).trans ((am_bs j5).trans (rfl)))))) (am_lv (am_lv (am_lv (am_lv (am_l0))))) h
  | 8, _, h =>
    by_cases c1 : (I (gH 8) 3) ≤ x3
    · replace h := h.1 c1
      exact am_pret 5 (fun n => (if_pos c1).trans (rfl)) h
    · replace h := h.2 c1
      obtain ⟨q1, j2, h⟩ := h
      obtain ⟨q2, j3, h⟩ := h
      obtain ⟨q3, j4, h⟩ := h
      obtain ⟨q4, j5, h⟩ := h
      exact am_path 22 (fun n => (if_neg c1).trans ((am_bs j2).trans ((am_bs j3).trans ((am_bs j4).trans ((am_bs j5).trans (rfl)))))) (am_lv (am_lv (am_lv (am_lv (am_l0))))) h
  | 9, _, h =>
    by_cases c1 : (I (gH 9) 3) ≤ x3
    · replace h := h.1 c1
      exact am_pret 5 (fun n => (if_pos c1).trans (rfl)) h
    · replace h := h.2 c1
      obtain ⟨q1, j2, h⟩ := h
      obtain ⟨q2, j3, h⟩ := h
      obtain ⟨q3, j4, h⟩ := h
      obtain ⟨q4, j5, h⟩ := h
      exact am_path 22 (fun n => (if_neg c1).trans ((am_bs j2).trans ((am_bs j3).trans ((am_bs j4).trans ((am_bs j5).trans (rfl)))))) (am_lv (am_lv (am_lv (am_lv (am_l0))))) h
  | 10, _, h =>
    by_cases c1 : (I (gH 10) 3) ≤ x3
    · replace h := h.1 c1
      exact am_pret 5 (fun n => (if_pos c1).trans (rfl)) h
    · replace h := h.2 c1
      obtain ⟨q1, j2, h⟩ := h
      obtain ⟨q2, j3, h⟩ := h
      obtain ⟨q3, j4, h⟩ := h
      obtain ⟨q4, j5, h⟩ := h
      exact am_path 22 (fun n => (if_neg c1).trans ((am_bs j2).trans ((am_bs j3).trans ((am_bs j4).trans ((am_bs j5).trans (rfl)))))) (am_lv (am_lv (am_lv (am_lv (am_l0))))) h
  | 11, _, h =>
    by_cases c1 : (I (gH 11) 3) ≤ x3
    · replace h := h.1 c1
      exact am_pret 5 (fun n => (if_pos c1).trans (rfl)) h
    · replace h := h.2 c1
      obtain ⟨q1, j2, h⟩ := h
      obtain ⟨q2, j3, h⟩ := h
      obtain ⟨q3, j4, h⟩ := h
      obtain ⟨q4, j5, h⟩ := h
      exact am_path 22 (fun n => (if_neg c1).trans ((am_bs j2).trans ((am_bs j3).trans ((am_bs j4).trans ((am_bs j5).trans (rfl)))))) (am_lv (am_lv (am_lv (am_lv (am_l0))))) h
  | t + 12, h0, _ => exact absurd h0 (by omega)
theorem bk_31_0 {L : Nat} {xs : Nat → Int32} {d : Nat} {P : Option Value → am_I → am_J → Prop} (x1 : Int32) (I : am_I) (J : am_J)  (h : am_To (am_XX L xs) d 32 0 [some (.ref 9), some (.int x1)] [] I J (fun r I2 J2 => am_To (am_XX L xs) (d + 1) 31 8 [some (.ref 0), some (.int x1)] (r.toList ++ []) I2 J2 P)) : am_To (am_XX L xs) (d + 1) 31 0 [some (.ref 0), some (.int x1)] [] I J P := by
  exact am_pcall 4 (fun n => rfl) (am_lv (am_lv (am_l0))) h
theorem bk_31_8 {L : Nat} {xs : Nat → Int32} {d : Nat} {P : Option Value → am_I → am_J → Prop} (x1 : Int32) (s0 : Int32) (I : am_I) (J : am_J)  (h : am_If (s0 = 0) (P (some (.int (0 : Int32))) I J) (am_To (am_XX L xs) d 33 0 [some (.ref 9), some (.int x1)] [] I J (fun r I2 J2 => am_To (am_XX L xs) (d + 1) 31 21 [some (.ref 0), none] (r.toList ++ []) I2 J2 P))) : am_To (am_XX L xs) (d + 1) 31 8 [some (.ref 0), some (.int x1)] [.int s0] I J P := by
  by_cases c1 : s0 = 0
  · replace h := h.1 c1
    exact am_pret 3 (fun n => (if_pos c1).trans (rfl)) h
  · replace h := h.2 c1
    exact am_pcall 5 (fun n => (if_neg c1).trans (rfl)) (am_lv (am_ln (am_l0))) h
theorem bk_31_21 {L : Nat} {xs : Nat → Int32} {d : Nat} {P : Option Value → am_I → am_J → Prop}  (I : am_I) (J : am_J)  (h : P (some (.int (1 : Int32))) (am_up I 0 7 (1 : Int32)) J) : am_To (am_XX L xs) d 31 21 [some (.ref 0), none] [] I J P := by
  exact am_pret 5 (fun n => rfl) h
theorem bk_32_0 {L : Nat} {xs : Nat → Int32} {d : Nat} {P : Option Value → am_I → am_J → Prop} (x1 : Int32) (I : am_I) (J : am_J)  (h : am_If (x1 < 0) (P (some (.int (0 : Int32))) I J) (am_If ((12 : Int32) ≤ x1) (P (some (.int (0 : Int32))) I J) (am_Ix x1 12 fun q1 => am_If ((I 59 q1) = 0) (P (some (.int (0 : Int32))) I J) (P (some (.int (1 : Int32))) I J)))) : am_To (am_XX L xs) d 32 0 [some (.ref 9), some (.int x1)] [] I J P := by
  by_cases c1 : x1 < 0
  · replace h := h.1 c1
    exact am_pret 4 (fun n => (if_pos c1).trans (rfl)) h
  · replace h := h.2 c1
    by_cases c2 : (12 : Int32) ≤ x1
    · replace h := h.1 c2
      exact am_pret 7 (fun n => (if_neg c1).trans ((if_pos c2).trans (rfl))) h
    · replace h := h.2 c2
      obtain ⟨q1, j3, h⟩ := h
      by_cases c4 : (I 59 q1) = 0
      · replace h := h.1 c4
        exact am_pret 12 (fun n => (if_neg c1).trans ((if_neg c2).trans ((am_bs j3).trans ((if_pos c4).trans (rfl))))) h
      · replace h := h.2 c4
        exact am_pret 13 (fun n => (if_neg c1).trans ((if_neg c2).trans ((am_bs j3).trans ((if_neg c4).trans (rfl))))) h
theorem bk_33_0 {L : Nat} {xs : Nat → Int32} {d : Nat} {P : Option Value → am_I → am_J → Prop} (x1 : Int32) (I : am_I) (J : am_J)  (h : am_Ix x1 12 fun q1 => am_Ix x1 12 fun q2 => am_To (am_XX L xs) d 33 14 [some (.ref 9), some (.int x1)] [(am_rf (am_tL.getD q2 none)), .ref 9] (am_up I 59 q1 (vp_nar .boolean (0 : Int32))) J P) : am_To (am_XX L xs) d 33 0 [some (.ref 9), some (.int x1)] [] I J P := by
  obtain ⟨q1, j1, h⟩ := h
  obtain ⟨q2, j2, h⟩ := h
  exact am_path 10 (fun n => (am_bs j1).trans ((am_bs j2).trans (rfl))) (am_lv (am_lv (am_l0))) h
theorem bk_33_14 {L : Nat} {xs : Nat → Int32} {d : Nat} {P : Option Value → am_I → am_J → Prop} (x1 : Int32) (I : am_I) (J : am_J) (q : Nat) (hq : q < 12) (h : am_To (am_XX L xs) d 30 0 [some (.ref 9), some (.ref (gH q)), some (.int (-1 : Int32)), none] [] I J (fun r I2 J2 => am_To (am_XX L xs) (d + 1) 33 18 [some (.ref 9), some (.int x1)] (r.toList ++ []) I2 J2 P)) : am_To (am_XX L xs) (d + 1) 33 14 [some (.ref 9), some (.int x1)] [.ref (gH q), .ref 9] I J P := by
  exact am_pcall 2 (fun n => rfl) (am_lv (am_lv (am_l0))) h
theorem bk_33_18 {L : Nat} {xs : Nat → Int32} {d : Nat} {P : Option Value → am_I → am_J → Prop} (x1 : Int32) (I : am_I) (J : am_J)  (h : am_Ix x1 12 fun q1 => am_To (am_XX L xs) d 33 24 [none, none] [(am_rf (am_tL.getD q1 none))] I J P) : am_To (am_XX L xs) d 33 18 [some (.ref 9), some (.int x1)] [] I J P := by
  obtain ⟨q1, j1, h⟩ := h
  exact am_path 4 (fun n => (am_bs j1).trans (rfl)) (am_ln (am_ln (am_l0))) h
theorem bk_33_24 {L : Nat} {xs : Nat → Int32} {d : Nat} {P : Option Value → am_I → am_J → Prop}  (I : am_I) (J : am_J) (q : Nat) (hq : q < 12) (h : P none (am_up I (gH q) 3 (0 : Int32)) J) : am_To (am_XX L xs) d 33 24 [none, none] [.ref (gH q)] I J P := by
  match q, hq, h with
  | 0, _, h =>
    exact am_pret 3 (fun n => rfl) h
  | 1, _, h =>
    exact am_pret 3 (fun n => rfl) h
  | 2, _, h =>
    exact am_pret 3 (fun n => rfl) h
  | 3, _, h =>
    exact am_pret 3 (fun n => rfl) h
  | 4, _, h =>
    exact am_pret 3 (fun n => rfl) h
  | 5, _, h =>
    exact am_pret 3 (fun n => rfl) h
  | 6, _, h =>
    exact am_pret 3 (fun n => rfl) h
  | 7, _, h =>
    exact am_pret 3 (fun n => rfl) h
  | 8, _, h =>
    exact am_pret 3 (fun n => rfl) h
  | 9, _, h =>
    exact am_pret 3 (fun n => rfl) h
  | 10, _, h =>
    exact am_pret 3 (fun n => rfl) h
  | 11, _, h =>
    exact am_pret 3 (fun n => rfl) h
  | q + 12, h0, _ => exact absurd h0 (by omega)
theorem bk_34_0 {L : Nat} {xs : Nat → Int32} {d : Nat} {P : Option Value → am_I → am_J → Prop} (x1 : Int32) (I : am_I) (J : am_J)  (h : am_To (am_XX L xs) d 32 0 [some (.ref 9), some (.int x1)] [] I J (fun r I2 J2 => am_To (am_XX L xs) (d + 1) 34 8 [some (.ref 0), some (.int x1)] (r.toList ++ []) I2 J2 P)) : am_To (am_XX L xs) (d + 1) 34 0 [some (.ref 0), some (.int x1)] [] I J P := by
  exact am_pcall 4 (fun n => rfl) (am_lv (am_lv (am_l0))) h
theorem bk_34_8 {L : Nat} {xs : Nat → Int32} {d : Nat} {P : Option Value → am_I → am_J → Prop} (x1 : Int32) (s0 : Int32) (I : am_I) (J : am_J)  (h : am_If (s0 = 0) (P (some (.int (-1 : Int32))) I J) (am_Ix x1 12 fun q1 => am_To (am_XX L xs) d 34 20 [none, none] [(am_rf (am_tL.getD q1 none))] I J P)) : am_To (am_XX L xs) d 34 8 [some (.ref 0), some (.int x1)] [.int s0] I J P := by
  by_cases c1 : s0 = 0
  · replace h := h.1 c1
    exact am_pret 3 (fun n => (if_pos c1).trans (rfl)) h
  · replace h := h.2 c1
    obtain ⟨q1, j2, h⟩ := h
    exact am_path 6 (fun n => (if_neg c1).trans ((am_bs j2).trans (rfl))) (am_ln (am_ln (am_l0))) h
theorem bk_34_20 {L : Nat} {xs : Nat → Int32} {d : Nat} {P : Option Value → am_I → am_J → Prop}  (I : am_I) (J : am_J) (q : Nat) (hq : q < 12) (h : P (some (.int (I (gH q) 3))) I J) : am_To (am_XX L xs) d 34 20 [none, none] [.ref (gH q)] I J P := by
  match q, hq, h with
  | 0, _, h =>
    exact am_pret 3 (fun n => rfl) h
  | 1, _, h =>
    exact am_pret 3 (fun n => rfl) h
  | 2, _, h =>
    exact am_pret 3 (fun n => rfl) h
  | 3, _, h =>
    exact am_pret 3 (fun n => rfl) h
  | 4, _, h =>
    exact am_pret 3 (fun n => rfl) h
  | 5, _, h =>
    exact am_pret 3 (fun n => rfl) h
  | 6, _, h =>
    exact am_pret 3 (fun n => rfl) h
  | 7, _, h =>
    exact am_pret 3 (fun n => rfl) h
  | 8, _, h =>
    exact am_pret 3 (fun n => rfl) h
  | 9, _, h =>
    exact am_pret 3 (fun n => rfl) h
  | 10, _, h =>
    exact am_pret 3 (fun n => rfl) h
  | 11, _, h =>
    exact am_pret 3 (fun n => rfl) h
  | q + 12, h0, _ => exact absurd h0 (by omega)
theorem bk_35_0 {L : Nat} {xs : Nat → Int32} {d : Nat} {P : Option Value → am_I → am_J → Prop} (x1 : Int32) (I : am_I) (J : am_J)  (h : am_To (am_XX L xs) d 14 0 [some (.ref 1), some (.int x1)] [] I J (fun r I2 J2 => am_To (am_XX L xs) (d + 1) 35 8 [some (.ref 0), some (.int x1), none, none] (r.toList ++ []) I2 J2 P)) : am_To (am_XX L xs) (d + 1) 35 0 [some (.ref 0), some (.int x1), none, none] [] I J P := by
  exact am_pcall 4 (fun n => rfl) (am_lv (am_lv (am_ln (am_ln (am_l0))))) h
theorem bk_35_8 {L : Nat} {xs : Nat → Int32} {d : Nat} {P : Option Value → am_I → am_J → Prop} (x1 : Int32) (s0 : Int32) (I : am_I) (J : am_J)  (h : am_If (s0 = 0) (P (some (.int (-2 : Int32))) I J) (am_To (am_XX L xs) d 36 0 [some (.ref 1), some (.int x1), none, none, none] [] I J (fun r I2 J2 => am_To (am_XX L xs) (d + 1) 35 22 [some (.ref 0), none, none, none] (r.toList ++ []) I2 J2 P))) : am_To (am_XX L xs) (d + 1) 35 8 [some (.ref 0), some (.int x1), none, none] [.int s0] I J P := by
  by_cases c1 : s0 = 0
  · replace h := h.1 c1
    exact am_pret 3 (fun n => (if_pos c1).trans (rfl)) h
  · replace h := h.2 c1
    exact am_pcall 5 (fun n => (if_neg c1).trans (rfl)) (am_lv (am_ln (am_ln (am_ln (am_l0))))) h
theorem bk_35_22 {L : Nat} {xs : Nat → Int32} {d : Nat} {P : Option Value → am_I → am_J → Prop} (s0 : Int64) (I : am_I) (J : am_J)  (h : am_To (am_XX L xs) d 22 0 [some (.long s0), none, none, none, none, none, none] [] (am_up I 1 1 (0 : Int32)) J (fun r I2 J2 => am_To (am_XX L xs) (d + 1) 35 35 [some (.ref 0), none, some (.long s0), none] (r.toList ++ []) I2 J2 P)) : am_To (am_XX L xs) (d + 1) 35 22 [some (.ref 0), none, none, none] [.long s0] I J P := by
  exact am_pcall 7 (fun n => rfl) (am_lv (am_ln (am_lv (am_ln (am_l0))))) h
theorem bk_35_35 {L : Nat} {xs : Nat → Int32} {d : Nat} {P : Option Value → am_I → am_J → Prop} (x2 : Int64) (s0 : Int32) (I : am_I) (J : am_J)  (h : am_If (s0 = 0) (P (some (.int (-1 : Int32))) I J) (am_To (am_XX L xs) d 25 0 [some (.ref 3), some (.long x2), none, none] [] I J (fun r I2 J2 => am_To (am_XX L xs) (d + 1) 35 46 [none, none, none, none] (r.toList ++ []) I2 J2 P))) : am_To (am_XX L xs) (d + 1) 35 35 [some (.ref 0), none, some (.long x2), none] [.int s0] I J P := by
  by_cases c1 : s0 = 0
  · replace h := h.1 c1
    exact am_pret 3 (fun n => (if_pos c1).trans (rfl)) h
  · replace h := h.2 c1
    exact am_pcall 5 (fun n => (if_neg c1).trans (rfl)) (am_ln (am_ln (am_ln (am_ln (am_l0))))) h
theorem bk_35_46 {L : Nat} {xs : Nat → Int32} {d : Nat} {P : Option Value → am_I → am_J → Prop} (s0 : Int32) (I : am_I) (J : am_J)  (h : P (some (.int s0)) I J) : am_To (am_XX L xs) d 35 46 [none, none, none, none] [.int s0] I J P := by
  exact am_pret 2 (fun n => rfl) h
theorem bk_36_0 {L : Nat} {xs : Nat → Int32} {d : Nat} {P : Option Value → am_I → am_J → Prop} (x1 : Int32) (I : am_I) (J : am_J)  (h : am_To (am_XX L xs) d 36 5 [some (.ref 1), some (.int x1), some (.long (0 : Int64)), none, some (.int (0 : Int32))] [] I J P) : am_To (am_XX L xs) d 36 0 [some (.ref 1), some (.int x1), none, none, none] [] I J P := by
  exact am_path 4 (fun n => rfl) (am_lv (am_lv (am_lv (am_ln (am_lv (am_l0)))))) h
theorem bk_36_5 {L : Nat} {xs : Nat → Int32} {d : Nat} {P : Option Value → am_I → am_J → Prop} (x1 : Int32) (x2 : Int64) (x4 : Int32) (I : am_I) (J : am_J)  (h : am_If (x1 ≤ x4) (P (some (.long x2)) I J) (am_If ((200 : Int32) ≤ x4) (P (some (.long x2)) I J) (am_Ix x4 200 fun q1 => am_To (am_XX L xs) d 16 0 [some (.int (I 2 q1))] [] I J (fun r I2 J2 => am_To (am_XX L xs) (d + 1) 36 29 [some (.ref 1), some (.int x1), some (.long x2), none, some (.int x4)] (r.toList ++ []) I2 J2 P)))) : am_To (am_XX L xs) (d + 1) 36 5 [some (.ref 1), some (.int x1), some (.long x2), none, some (.int x4)] [] I J P := by
  by_cases c1 : x1 ≤ x4
  · replace h := h.1 c1
    exact am_pret 5 (fun n => (if_pos c1).trans (rfl)) h
  · replace h := h.2 c1
    by_cases c2 : (200 : Int32) ≤ x4
    · replace h := h.1 c2
      exact am_pret 8 (fun n => (if_neg c1).trans ((if_pos c2).trans (rfl))) h
    · replace h := h.2 c2
      obtain ⟨q1, j3, h⟩ := h
      exact am_pcall 11 (fun n => (if_neg c1).trans ((if_neg c2).trans ((am_bs j3).trans (rfl)))) (am_lv (am_lv (am_lv (am_ln (am_lv (am_l0)))))) h
theorem bk_36_29 {L : Nat} {xs : Nat → Int32} {d : Nat} {P : Option Value → am_I → am_J → Prop} (x1 : Int32) (x2 : Int64) (x4 : Int32) (s0 : Int32) (I : am_I) (J : am_J)  (h : am_If (s0 = 0) (P (some (.long (-1 : Int64))) I J) (am_Ix x4 200 fun q1 => am_To (am_XX L xs) d 19 0 [some (.long x2), none, some (.int (I 2 q1)), none] [] I J (fun r I2 J2 => am_To (am_XX L xs) (d + 1) 36 47 [some (.ref 1), some (.int x1), none, none, some (.int x4)] (r.toList ++ []) I2 J2 P))) : am_To (am_XX L xs) (d + 1) 36 29 [some (.ref 1), some (.int x1), some (.long x2), none, some (.int x4)] [.int s0] I J P := by
  by_cases c1 : s0 = 0
  · replace h := h.1 c1
    exact am_pret 3 (fun n => (if_pos c1).trans (rfl)) h
  · replace h := h.2 c1
    obtain ⟨q1, j2, h⟩ := h
    exact am_pcall 7 (fun n => (if_neg c1).trans ((am_bs j2).trans (rfl))) (am_lv (am_lv (am_ln (am_ln (am_lv (am_l0)))))) h
theorem bk_36_47 {L : Nat} {xs : Nat → Int32} {d : Nat} {P : Option Value → am_I → am_J → Prop} (x1 : Int32) (x4 : Int32) (s0 : Int64) (I : am_I) (J : am_J)  (h : am_To (am_XX L xs) d 36 5 [some (.ref 1), some (.int x1), some (.long s0), none, some (.int (x4 + (1 : Int32)))] [] I J P) : am_To (am_XX L xs) d 36 47 [some (.ref 1), some (.int x1), none, none, some (.int x4)] [.long s0] I J P := by
  exact am_path 3 (fun n => rfl) (am_lv (am_lv (am_lv (am_ln (am_lv (am_l0)))))) h
theorem bk_37_0 {L : Nat} {xs : Nat → Int32} {d : Nat} {P : Option Value → am_I → am_J → Prop} (x1 : Int32) (x2 : Int32) (I : am_I) (J : am_J)  (h : am_To (am_XX L xs) d 38 0 [some (.ref 3), some (.int x1)] [] I J (fun r I2 J2 => am_To (am_XX L xs) (d + 1) 37 8 [some (.ref 0), some (.int x1), some (.int x2)] (r.toList ++ []) I2 J2 P)) : am_To (am_XX L xs) (d + 1) 37 0 [some (.ref 0), some (.int x1), some (.int x2)] [] I J P := by
  exact am_pcall 4 (fun n => rfl) (am_lv (am_lv (am_lv (am_l0)))) h
theorem bk_37_8 {L : Nat} {xs : Nat → Int32} {d : Nat} {P : Option Value → am_I → am_J → Prop} (x1 : Int32) (x2 : Int32) (s0 : Int32) (I : am_I) (J : am_J)  (h : am_If (s0 = 0) (P (some (.int (-1 : Int32))) I J) (am_If (x2 = (-1 : Int32)) (am_To (am_XX L xs) d 39 0 [some (.ref 3), some (.int x1), none, none] [] I J (fun r I2 J2 => am_To (am_XX L xs) (d + 1) 37 26 [none, none, none] (r.toList ++ []) I2 J2 P)) (am_To (am_XX L xs) d 40 0 [some (.ref 3), some (.int x1), some (.int x2), none] [] I J (fun r I2 J2 => am_To (am_XX L xs) (d + 1) 37 38 [none, none, none] (r.toList ++ []) I2 J2 P)))) : am_To (am_XX L xs) (d + 1) 37 8 [some (.ref 0), some (.int x1), some (.int x2)] [.int s0] I J P := by
  by_cases c1 : s0 = 0
  · replace h := h.1 c1
    exact am_pret 3 (fun n => (if_pos c1).trans (rfl)) h
  · replace h := h.2 c1
    by_cases c2 : x2 = (-1 : Int32)
    · replace h := h.1 c2
      exact am_pcall 8 (fun n => (if_neg c1).trans ((if_pos c2).trans (rfl))) (am_ln (am_ln (am_ln (am_l0)))) h
    · replace h := h.2 c2
      exact am_pcall 9 (fun n => (if_neg c1).trans ((if_neg c2).trans (rfl))) (am_ln (am_ln (am_ln (am_l0)))) h
theorem bk_37_38 {L : Nat} {xs : Nat → Int32} {d : Nat} {P : Option Value → am_I → am_J → Prop} (s0 : Int32) (I : am_I) (J : am_J)  (h : P (some (.int s0)) I J) : am_To (am_XX L xs) d 37 38 [none, none, none] [.int s0] I J P := by
  exact am_pret 1 (fun n => rfl) h
theorem bk_37_26 {L : Nat} {xs : Nat → Int32} {d : Nat} {P : Option Value → am_I → am_J → Prop} (s0 : Int32) (I : am_I) (J : am_J)  (h : P (some (.int s0)) I J) : am_To (am_XX L xs) d 37 26 [none, none, none] [.int s0] I J P := by
  exact am_pret 2 (fun n => rfl) h
theorem bk_38_0 {L : Nat} {xs : Nat → Int32} {d : Nat} {P : Option Value → am_I → am_J → Prop} (x1 : Int32) (I : am_I) (J : am_J)  (h : am_If (x1 < 0) (P (some (.int (0 : Int32))) I J) (am_If ((I 3 1) ≤ x1) (P (some (.int (0 : Int32))) I J) (P (some (.int (1 : Int32))) I J))) : am_To (am_XX L xs) d 38 0 [some (.ref 3), some (.int x1)] [] I J P := by
  by_cases c1 : x1 < 0
  · replace h := h.1 c1
    exact am_pret 4 (fun n => (if_pos c1).trans (rfl)) h
  · replace h := h.2 c1
    by_cases c2 : (I 3 1) ≤ x1
    · replace h := h.1 c2
      exact am_pret 8 (fun n => (if_neg c1).trans ((if_pos c2).trans (rfl))) h
    · replace h := h.2 c2
      exact am_pret 9 (fun n => (if_neg c1).trans ((if_neg c2).trans (rfl))) h
theorem bk_39_0 {L : Nat} {xs : Nat → Int32} {d : Nat} {P : Option Value → am_I → am_J → Prop} (x1 : Int32) (I : am_I) (J : am_J)  (h : am_To (am_XX L xs) d 39 4 [some (.ref 3), some (.int x1), some (.int (0 : Int32)), some (.int (0 : Int32))] [] I J P) : am_To (am_XX L xs) d 39 0 [some (.ref 3), some (.int x1), none, none] [] I J P := by
  exact am_path 4 (fun n => rfl) (am_lv (am_lv (am_lv (am_lv (am_l0))))) h
theorem bk_39_4 {L : Nat} {xs : Nat → Int32} {d : Nat} {P : Option Value → am_I → am_J → Prop} (x1 : Int32) (x2 : Int32) (x3 : Int32) (I : am_I) (J : am_J)  (h : am_If ((8 : Int32) ≤ x3) (P (some (.int x2)) I J) (am_Ix x1 24 fun q1 => am_If ((lg_cmp (((J 4 q1).toUInt64 >>> (((8 : Int32) * x3).toInt64.toUInt64 &&& Int64.toUInt64 63)).toInt64) (0 : Int64)) = 0) (am_To (am_XX L xs) d 39 4 [some (.ref 3), some (.int x1), some (.int x2), some (.int (x3 + (1 : Int32)))] [] I J P) (am_To (am_XX L xs) d 39 4 [some (.ref 3), some (.int x1), some (.int (x2 + (1 : Int32))), some (.int (x3 + (1 : Int32)))] [] I J P))) : am_To (am_XX L xs) d 39 4 [some (.ref 3), some (.int x1), some (.int x2), some (.int x3)] [] I J P := by
  by_cases c1 : (8 : Int32) ≤ x3
  · replace h := h.1 c1
    exact am_pret 5 (fun n => (if_pos c1).trans (rfl)) h
  · replace h := h.2 c1
    obtain ⟨q1, j2, h⟩ := h
    by_cases c3 : (lg_cmp (((J 4 q1).toUInt64 >>> (((8 : Int32) * x3).toInt64.toUInt64 &&& Int64.toUInt64 63)).toInt64) (0 : Int64)) = 0
    · replace h := h.1 c3
      exact am_path 16 (fun n => (if_neg c1).trans ((am_bs j2).trans ((if_pos c3).trans (rfl)))) (am_lv (am_lv (am_lv (am_lv (am_l0))))) h
    · replace h := h.2 c3
      exact am_path 17 (fun n => (if_neg c1).trans ((am_bs j2).trans ((if_neg c3).trans (rfl)))) (am_lv (am_lv (am_lv (am_lv (am_l0))))) h
theorem bk_40_0 {L : Nat} {xs : Nat → Int32} {d : Nat} {P : Option Value → am_I → am_J → Prop} (x1 : Int32) (x2 : Int32) (I : am_I) (J : am_J)  (h : am_To (am_XX L xs) d 39 0 [some (.ref 3), some (.int x1), none, none] [] I J (fun r I2 J2 => am_To (am_XX L xs) (d + 1) 40 5 [some (.ref 3), some (.int x1), some (.int x2), none] (r.toList ++ []) I2 J2 P)) : am_To (am_XX L xs) (d + 1) 40 0 [some (.ref 3), some (.int x1), some (.int x2), none] [] I J P := by
  exact am_pcall 3 (fun n => rfl) (am_lv (am_lv (am_lv (am_ln (am_l0))))) h
theorem bk_40_5 {L : Nat} {xs : Nat → Int32} {d : Nat} {P : Option Value → am_I → am_J → Prop} (x1 : Int32) (x2 : Int32) (s0 : Int32) (I : am_I) (J : am_J)  (h : am_If (x2 < 0) (P (some (.int (-1 : Int32))) I J) (am_If (x2 < s0) (am_Ix x1 24 fun q1 => P (some (.int (((((J 4 q1).toUInt64 >>> (((8 : Int32) * ((s0 - (1 : Int32)) - x2)).toInt64.toUInt64 &&& Int64.toUInt64 63)).toInt64).toInt32) &&& (255 : Int32)))) I J) (P (some (.int (-1 : Int32))) I J))) : am_To (am_XX L xs) d 40 5 [some (.ref 3), some (.int x1), some (.int x2), none] [.int s0] I J P := by
  by_cases c1 : x2 < 0
  · replace h := h.1 c1
    exact am_pret 5 (fun n => (if_pos c1).trans (rfl)) h
  · replace h := h.2 c1
    by_cases c2 : x2 < s0
    · replace h := h.1 c2
      obtain ⟨q1, j3, h⟩ := h
      exact am_pret 22 (fun n => (if_neg c1).trans ((if_pos c2).trans ((am_bs j3).trans (rfl)))) h
    · replace h := h.2 c2
      exact am_pret 8 (fun n => (if_neg c1).trans ((if_neg c2).trans (rfl))) h
theorem bk_41_0 {L : Nat} {xs : Nat → Int32} {d : Nat} {P : Option Value → am_I → am_J → Prop} (x1 : Int32) (x2 : Int32) (x3 : Int32) (x4 : Int32) (x5 : Int32) (I : am_I) (J : am_J)  (h : am_If (x1 < 0) (am_To (am_XX L xs) (d + 1) 41 36 [some (.ref 0), some (.int x1), some (.int x2), some (.int x3), some (.int x4), some (.int x5), none, none] [] I J P) (am_If ((9 : Int32) < x1) (am_To (am_XX L xs) (d + 1) 41 36 [some (.ref 0), some (.int x1), some (.int x2), some (.int x3), some (.int x4), some (.int x5), none, none] [] I J P) (am_If (x2 < 0) (am_To (am_XX L xs) (d + 1) 41 36 [some (.ref 0), some (.int x1), some (.int x2), some (.int x3), some (.int x4), some (.int x5), none, none] [] I J P) (am_If ((3 : Int32) < x2) (am_To (am_XX L xs) (d + 1) 41 36 [some (.ref 0), some (.int x1), some (.int x2), some (.int x3), some (.int x4), some (.int x5), none, none] [] I J P) (am_To (am_XX L xs) d 42 0 [some (.ref 3), some (.int x3), some (.int x4)] [] I J (fun r I2 J2 => am_To (am_XX L xs) (d + 1) 41 29 [some (.ref 0), some (.int x1), some (.int x2), some (.int x3), some (.int x4), some (.int x5), none, none] (r.toList ++ []) I2 J2 P)))))) : am_To (am_XX L xs) (d + 1) 41 0 [some (.ref 0), some (.int x1), some (.int x2), some (.int x3), some (.int x4), some (.int x5), none, none] [] I J P := by
  by_cases c1 : x1 < 0
  · replace h := h.1 c1
    exact am_path 2 (fun n => (if_pos c1).trans (rfl)) (am_lv (am_lv (am_lv (am_lv (am_lv (am_lv (am_ln (am_ln (am_l0))))))))) h
  · replace h := h.2 c1
    by_cases c2 : (9 : Int32) < x1
    · replace h := h.1 c2
      exact am_path 5 (fun n => (if_neg c1).trans ((if_pos c2).trans (rfl))) (am_lv (am_lv (am_lv (am_lv (am_lv (am_lv (am_ln (am_ln (am_l0))))))))) h
    · replace h := h.2 c2
      by_cases c3 : x2 < 0
      · replace h := h.1 c3
        exact am_path 7 (fun n => (if_neg c1).trans ((if_neg c2).trans ((if_pos c3).trans (rfl)))) (am_lv (am_lv (am_lv (am_lv (am_lv (am_lv (am_ln (am_ln (am_l0))))))))) h
      · replace h := h.2 c3
        by_cases c4 : (3 : Int32) < x2
        · replace h := h.1 c4
          exact am_path 10 (fun n => (if_neg c1).trans ((if_neg c2).trans ((if_neg c3).trans ((if_pos c4).trans (rfl))))) (am_lv (am_lv (am_lv (am_lv (am_lv (am_lv (am_ln (am_ln (am_l0))))))))) h
        · replace h := h.2 c4
          exact am_pcall 15 (fun n => (if_neg c1).trans ((if_neg c2).trans ((if_neg c3).trans ((if_neg c4).trans (rfl))))) (am_lv (am_lv (am_lv (am_lv (am_lv (am_lv (am_ln (am_ln (am_l0))))))))) h
theorem bk_41_36 {L : Nat} {xs : Nat → Int32} {d : Nat} {P : Option Value → am_I → am_J → Prop} (x1 : Int32) (x2 : Int32) (x3 : Int32) (x4 : Int32) (x5 : Int32) (I : am_I) (J : am_J)  (h : am_To (am_XX L xs) d 41 37 [some (.ref 0), some (.int x1), some (.int x2), some (.int x3), some (.int x4), some (.int x5), none, none] [.int (0 : Int32)] I J P) : am_To (am_XX L xs) d 41 36 [some (.ref 0), some (.int x1), some (.int x2), some (.int x3), some (.int x4), some (.int x5), none, none] [] I J P := by
  exact am_path 1 (fun n => rfl) (am_lv (am_lv (am_lv (am_lv (am_lv (am_lv (am_ln (am_ln (am_l0))))))))) h
theorem bk_41_29 {L : Nat} {xs : Nat → Int32} {d : Nat} {P : Option Value → am_I → am_J → Prop} (x1 : Int32) (x2 : Int32) (x3 : Int32) (x4 : Int32) (x5 : Int32) (s0 : Int32) (I : am_I) (J : am_J)  (h : am_If (s0 = 0) (am_To (am_XX L xs) d 41 36 [some (.ref 0), some (.int x1), some (.int x2), some (.int x3), some (.int x4), some (.int x5), none, none] [] I J P) (am_To (am_XX L xs) d 41 37 [some (.ref 0), some (.int x1), some (.int x2), some (.int x3), some (.int x4), some (.int x5), none, none] [.int (1 : Int32)] I J P)) : am_To (am_XX L xs) d 41 29 [some (.ref 0), some (.int x1), some (.int x2), some (.int x3), some (.int x4), some (.int x5), none, none] [.int s0] I J P := by
  by_cases c1 : s0 = 0
  · replace h := h.1 c1
    exact am_path 1 (fun n => (if_pos c1).trans (rfl)) (am_lv (am_lv (am_lv (am_lv (am_lv (am_lv (am_ln (am_ln (am_l0))))))))) h
  · replace h := h.2 c1
    exact am_path 3 (fun n => (if_neg c1).trans (rfl)) (am_lv (am_lv (am_lv (am_lv (am_lv (am_lv (am_ln (am_ln (am_l0))))))))) h
theorem bk_41_37 {L : Nat} {xs : Nat → Int32} {d : Nat} {P : Option Value → am_I → am_J → Prop} (x1 : Int32) (x2 : Int32) (x3 : Int32) (x4 : Int32) (x5 : Int32) (s0 : Int32) (I : am_I) (J : am_J)  (h : am_If (x2 = (3 : Int32)) (am_To (am_XX L xs) d 41 57 [some (.ref 0), some (.int x1), some (.int x2), some (.int x3), some (.int x4), some (.int x5), some (.int s0), none] [] I J P) (am_If (x5 < (1 : Int32)) (am_To (am_XX L xs) d 41 61 [some (.ref 0), some (.int x1), some (.int x2), some (.int x3), some (.int x4), some (.int x5), some (.int s0), none] [] I J P) (am_If ((9 : Int32) < x5) (am_To (am_XX L xs) d 41 61 [some (.ref 0), some (.int x1), some (.int x2), some (.int x3), some (.int x4), some (.int x5), some (.int s0), none] [] I J P) (am_To (am_XX L xs) d 41 57 [some (.ref 0), some (.int x1), some (.int x2), some (.int x3), some (.int x4), some (.int x5), some (.int s0), none] [] I J P)))) : am_To (am_XX L xs) d 41 37 [some (.ref 0), some (.int x1), some (.int x2), some (.int x3), some (.int x4), some (.int x5), none, none] [.int s0] I J P := by
  by_cases c1 : x2 = (3 : Int32)
  · replace h := h.1 c1
    exact am_path 4 (fun n => (if_pos c1).trans (rfl)) (am_lv (am_lv (am_lv (am_lv (am_lv (am_lv (am_lv (am_ln (am_l0))))))))) h
  · replace h := h.2 c1
    by_cases c2 : x5 < (1 : Int32)
    · replace h := h.1 c2
      exact am_path 7 (fun n => (if_neg c1).trans ((if_pos c2).trans (rfl))) (am_lv (am_lv (am_lv (am_lv (am_lv (am_lv (am_lv (am_ln (am_l0))))))))) h
    · replace h := h.2 c2
      by_cases c3 : (9 : Int32) < x5
      · replace h := h.1 c3
        exact am_path 10 (fun n => (if_neg c1).trans ((if_neg c2).trans ((if_pos c3).trans (rfl)))) (am_lv (am_lv (am_lv (am_lv (am_lv (am_lv (am_lv (am_ln (am_l0))))))))) h
      · replace h := h.2 c3
        exact am_path 10 (fun n => (if_neg c1).trans ((if_neg c2).trans ((if_neg c3).trans (rfl)))) (am_lv (am_lv (am_lv (am_lv (am_lv (am_lv (am_lv (am_ln (am_l0))))))))) h
theorem bk_41_57 {L : Nat} {xs : Nat → Int32} {d : Nat} {P : Option Value → am_I → am_J → Prop} (x1 : Int32) (x2 : Int32) (x3 : Int32) (x4 : Int32) (x5 : Int32) (x6 : Int32) (I : am_I) (J : am_J)  (h : am_To (am_XX L xs) d 41 62 [some (.ref 0), some (.int x1), some (.int x2), some (.int x3), some (.int x4), some (.int x5), some (.int x6), none] [.int (1 : Int32)] I J P) : am_To (am_XX L xs) d 41 57 [some (.ref 0), some (.int x1), some (.int x2), some (.int x3), some (.int x4), some (.int x5), some (.int x6), none] [] I J P := by
  exact am_path 2 (fun n => rfl) (am_lv (am_lv (am_lv (am_lv (am_lv (am_lv (am_lv (am_ln (am_l0))))))))) h
theorem bk_41_61 {L : Nat} {xs : Nat → Int32} {d : Nat} {P : Option Value → am_I → am_J → Prop} (x1 : Int32) (x2 : Int32) (x3 : Int32) (x4 : Int32) (x5 : Int32) (x6 : Int32) (I : am_I) (J : am_J)  (h : am_To (am_XX L xs) d 41 62 [some (.ref 0), some (.int x1), some (.int x2), some (.int x3), some (.int x4), some (.int x5), some (.int x6), none] [.int (0 : Int32)] I J P) : am_To (am_XX L xs) d 41 61 [some (.ref 0), some (.int x1), some (.int x2), some (.int x3), some (.int x4), some (.int x5), some (.int x6), none] [] I J P := by
  exact am_path 1 (fun n => rfl) (am_lv (am_lv (am_lv (am_lv (am_lv (am_lv (am_lv (am_ln (am_l0))))))))) h
theorem bk_41_62 {L : Nat} {xs : Nat → Int32} {d : Nat} {P : Option Value → am_I → am_J → Prop} (x1 : Int32) (x2 : Int32) (x3 : Int32) (x4 : Int32) (x5 : Int32) (x6 : Int32) (s0 : Int32) (I : am_I) (J : am_J)  (h : am_If (x6 = 0) (P (some (.int (-1 : Int32))) I J) (am_If (s0 = 0) (P (some (.int (-1 : Int32))) I J) (am_To (am_XX L xs) d 28 0 [some (.ref 60)] [] I J (fun r I2 J2 => am_To (am_XX L xs) (d + 1) 41 84 [some (.ref 0), some (.int x1), some (.int x2), some (.int x3), some (.int x4), some (.int x5), none, none] (r.toList ++ []) I2 J2 P)))) : am_To (am_XX L xs) (d + 1) 41 62 [some (.ref 0), some (.int x1), some (.int x2), some (.int x3), some (.int x4), some (.int x5), some (.int x6), none] [.int s0] I J P := by
  by_cases c1 : x6 = 0
  · replace h := h.1 c1
    exact am_pret 5 (fun n => (if_pos c1).trans (rfl)) h
  · replace h := h.2 c1
    by_cases c2 : s0 = 0
    · replace h := h.1 c2
      exact am_pret 7 (fun n => (if_neg c1).trans ((if_pos c2).trans (rfl))) h
    · replace h := h.2 c2
      exact am_pcall 9 (fun n => (if_neg c1).trans ((if_neg c2).trans (rfl))) (am_lv (am_lv (am_lv (am_lv (am_lv (am_lv (am_ln (am_ln (am_l0))))))))) h
theorem bk_41_84 {L : Nat} {xs : Nat → Int32} {d : Nat} {P : Option Value → am_I → am_J → Prop} (x1 : Int32) (x2 : Int32) (x3 : Int32) (x4 : Int32) (x5 : Int32) (s0 : Int32) (I : am_I) (J : am_J)  (h : am_If (s0 = 0) (am_If (x2 = (3 : Int32)) (am_To (am_XX L xs) d 43 0 [some (.ref 9), some (.int x1), some (.int x3), some (.int x4)] [] (am_up I 0 7 (1 : Int32)) J (fun r I2 J2 => am_To (am_XX L xs) (d + 1) 41 110 [none, none, none, none, none, none, none, none] (r.toList ++ []) I2 J2 P)) (am_To (am_XX L xs) d 26 0 [some (.int x2), some (.int x3), some (.int x4), none, none, none] [] (am_up I 0 7 (1 : Int32)) J (fun r I2 J2 => am_To (am_XX L xs) (d + 1) 41 125 [none, none, none, none, none, some (.int x5), none, none] (r.toList ++ [.int x1, .ref 9]) I2 J2 P))) (P (some (.int (-1 : Int32))) I J)) : am_To (am_XX L xs) (d + 1) 41 84 [some (.ref 0), some (.int x1), some (.int x2), some (.int x3), some (.int x4), some (.int x5), none, none] [.int s0] I J P := by
  by_cases c1 : s0 = 0
  · replace h := h.1 c1
    by_cases c2 : x2 = (3 : Int32)
    · replace h := h.1 c2
      exact am_pcall 13 (fun n => (if_pos c1).trans ((if_pos c2).trans (rfl))) (am_ln (am_ln (am_ln (am_ln (am_ln (am_ln (am_ln (am_ln (am_l0))))))))) h
    · replace h := h.2 c2
      exact am_pcall 14 (fun n => (if_pos c1).trans ((if_neg c2).trans (rfl))) (am_ln (am_ln (am_ln (am_ln (am_ln (am_lv (am_ln (am_ln (am_l0))))))))) h
  · replace h := h.2 c1
    exact am_pret 3 (fun n => (if_neg c1).trans (rfl)) h
theorem bk_41_125 {L : Nat} {xs : Nat → Int32} {d : Nat} {P : Option Value → am_I → am_J → Prop} (x5 : Int32) (s1 : Int32) (s2 : Int32) (I : am_I) (J : am_J)  (h : am_To (am_XX L xs) d 44 0 [some (.ref 9), some (.int s1), some (.int s2), some (.int x5)] [] I J (fun r I2 J2 => am_To (am_XX L xs) (d + 1) 41 130 [none, none, none, none, none, none, none, none] (r.toList ++ []) I2 J2 P)) : am_To (am_XX L xs) (d + 1) 41 125 [none, none, none, none, none, some (.int x5), none, none] [.int s2, .int s1, .ref 9] I J P := by
  exact am_pcall 2 (fun n => rfl) (am_ln (am_ln (am_ln (am_ln (am_ln (am_ln (am_ln (am_ln (am_l0))))))))) h
theorem bk_41_110 {L : Nat} {xs : Nat → Int32} {d : Nat} {P : Option Value → am_I → am_J → Prop} (s0 : Int32) (I : am_I) (J : am_J)  (h : P (some (.int s0)) I J) : am_To (am_XX L xs) d 41 110 [none, none, none, none, none, none, none, none] [.int s0] I J P := by
  exact am_pret 2 (fun n => rfl) h
theorem bk_41_130 {L : Nat} {xs : Nat → Int32} {d : Nat} {P : Option Value → am_I → am_J → Prop} (s0 : Int32) (I : am_I) (J : am_J)  (h : P (some (.int s0)) I J) : am_To (am_XX L xs) d 41 130 [none, none, none, none, none, none, none, none] [.int s0] I J P := by
  exact am_pret 1 (fun n => rfl) h
theorem bk_42_0 {L : Nat} {xs : Nat → Int32} {d : Nat} {P : Option Value → am_I → am_J → Prop} (x1 : Int32) (x2 : Int32) (I : am_I) (J : am_J)  (h : am_To (am_XX L xs) d 38 0 [some (.ref 3), some (.int x1)] [] I J (fun r I2 J2 => am_To (am_XX L xs) (d + 1) 42 5 [some (.ref 3), some (.int x1), some (.int x2)] (r.toList ++ []) I2 J2 P)) : am_To (am_XX L xs) (d + 1) 42 0 [some (.ref 3), some (.int x1), some (.int x2)] [] I J P := by
  exact am_pcall 3 (fun n => rfl) (am_lv (am_lv (am_lv (am_l0)))) h
theorem bk_42_5 {L : Nat} {xs : Nat → Int32} {d : Nat} {P : Option Value → am_I → am_J → Prop} (x1 : Int32) (x2 : Int32) (s0 : Int32) (I : am_I) (J : am_J)  (h : am_If (s0 = 0) (P (some (.int (0 : Int32))) I J) (am_To (am_XX L xs) d 38 0 [some (.ref 3), some (.int x2)] [] I J (fun r I2 J2 => am_To (am_XX L xs) (d + 1) 42 13 [none, some (.int x1), some (.int x2)] (r.toList ++ []) I2 J2 P))) : am_To (am_XX L xs) (d + 1) 42 5 [some (.ref 3), some (.int x1), some (.int x2)] [.int s0] I J P := by
  by_cases c1 : s0 = 0
  · replace h := h.1 c1
    exact am_pret 3 (fun n => (if_pos c1).trans (rfl)) h
  · replace h := h.2 c1
    exact am_pcall 4 (fun n => (if_neg c1).trans (rfl)) (am_ln (am_lv (am_lv (am_l0)))) h
theorem bk_42_13 {L : Nat} {xs : Nat → Int32} {d : Nat} {P : Option Value → am_I → am_J → Prop} (x1 : Int32) (x2 : Int32) (s0 : Int32) (I : am_I) (J : am_J)  (h : am_If (s0 = 0) (P (some (.int (0 : Int32))) I J) (am_If (x1 = x2) (P (some (.int (0 : Int32))) I J) (P (some (.int (1 : Int32))) I J))) : am_To (am_XX L xs) d 42 13 [none, some (.int x1), some (.int x2)] [.int s0] I J P := by
  by_cases c1 : s0 = 0
  · replace h := h.1 c1
    exact am_pret 3 (fun n => (if_pos c1).trans (rfl)) h
  · replace h := h.2 c1
    by_cases c2 : x1 = x2
    · replace h := h.1 c2
      exact am_pret 6 (fun n => (if_neg c1).trans ((if_pos c2).trans (rfl))) h
    · replace h := h.2 c2
      exact am_pret 7 (fun n => (if_neg c1).trans ((if_neg c2).trans (rfl))) h
