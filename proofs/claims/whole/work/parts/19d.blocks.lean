set_option maxRecDepth 100000
set_option maxHeartbeats 4000000
theorem bk_61_0 {L : Nat} {xs : Nat → Int32} {d : Nat} {P : Option Value → am_I → am_J → Prop} (x1 : Int32) (x2 : Int32) (I : am_I) (J : am_J) (t : Nat) (ht : t < 8) (h : am_Ix x1 (fN t) fun q1 => am_To (am_XX L xs) d 62 0 [some (.int (I (fA t) q1)), some (.int x2)] [] I J (fun r I2 J2 => am_To (am_XX L xs) (d + 1) 61 10 [some (.ref (fH t)), some (.int x1), some (.int x2), some (.ref (fB t)), none, none] (r.toList ++ []) I2 J2 P)) : am_To (am_XX L xs) (d + 1) 61 0 [some (.ref (fH t)), some (.int x1), some (.int x2), some (.ref (fB t)), none, none] [] I J P := by
  match t, ht, h with
  | 0, _, h =>
    obtain ⟨q1, j1, h⟩ := h
    exact am_pcall 6 (fun n => (am_bs j1).trans (rfl)) (am_lv (am_lv (am_lv (am_lv (am_ln (am_ln (am_l0))))))) h
  | 1, _, h =>
    obtain ⟨q1, j1, h⟩ := h
    exact am_pcall 6 (fun n => (am_bs j1).trans (rfl)) (am_lv (am_lv (am_lv (am_lv (am_ln (am_ln (am_l0))))))) h
  | 2, _, h =>
    obtain ⟨q1, j1, h⟩ := h
    exact am_pcall 6 (fun n => (am_bs j1).trans (rfl)) (am_lv (am_lv (am_lv (am_lv (am_ln (am_ln (am_l0))))))) h
  | 3, _, h =>
    obtain ⟨q1, j1, h⟩ := h
    exact am_pcall 6 (fun n => (am_bs j1).trans (rfl)) (am_lv (am_lv (am_lv (am_lv (am_ln (am_ln (am_l0))))))) h
  | 4, _, h =>
    obtain ⟨q1, j1, h⟩ := h
    exact am_pcall 6 (fun n => (am_bs j1).trans (rfl)) (am_lv (am_lv (am_lv (am_lv (am_ln (am_ln (am_l0))))))) h
  | 5, _, h =>
    obtain ⟨q1, j1, h⟩ := h
    exact am_pcall 6 (fun n => (am_bs j1).trans (rfl)) (am_lv (am_lv (am_lv (am_lv (am_ln (am_ln (am_l0))))))) h
  | 6, _, h =>
    obtain ⟨q1, j1, h⟩ := h
    exact am_pcall 6 (fun n => (am_bs j1).trans (rfl)) (am_lv (am_lv (am_lv (am_lv (am_ln (am_ln (am_l0))))))) h
  | 7, _, h =>
    obtain ⟨q1, j1, h⟩ := h
    exact am_pcall 6 (fun n => (am_bs j1).trans (rfl)) (am_lv (am_lv (am_lv (am_lv (am_ln (am_ln (am_l0))))))) h
  | t + 8, h0, _ => exact absurd h0 (by omega)
theorem bk_61_10 {L : Nat} {xs : Nat → Int32} {d : Nat} {P : Option Value → am_I → am_J → Prop} (x1 : Int32) (x2 : Int32) (s0 : Int32) (I : am_I) (J : am_J) (t : Nat) (ht : t < 8) (h : am_If (s0 = 0) (am_Ix x1 (fN t) fun q1 => am_To (am_XX L xs) d 61 30 [some (.ref (fH t)), none, some (.int x2), some (.ref (fB t)), some (.int ((I (fA t) q1) ||| ((1 : Int32) <<< (x1 &&& 31)))), some (.int (0 : Int32))] [] I J P) (P (some (.int (3 : Int32))) I J)) : am_To (am_XX L xs) d 61 10 [some (.ref (fH t)), some (.int x1), some (.int x2), some (.ref (fB t)), none, none] [.int s0] I J P := by
  match t, ht, h with
  | 0, _, h =>
    by_cases c1 : s0 = 0
    · replace h := h.1 c1
      obtain ⟨q1, j2, h⟩ := h
      exact am_path 12 (fun n => (if_pos c1).trans ((am_bs j2).trans (rfl))) (am_lv (am_ln (am_lv (am_lv (am_lv (am_lv (am_l0))))))) h
    · replace h := h.2 c1
      exact am_pret 3 (fun n => (if_neg c1).trans (rfl)) h
  | 1, _, h =>
    by_cases c1 : s0 = 0
    · replace h := h.1 c1
      obtain ⟨q1, j2, h⟩ := h
      exact am_path 12 (fun n => (if_pos c1).trans ((am_bs j2).trans (rfl))) (am_lv (am_ln (am_lv (am_lv (am_lv (am_lv (am_l0))))))) h
    · replace h := h.2 c1
      exact am_pret 3 (fun n => (if_neg c1).trans (rfl)) h
  | 2, _, h =>
    by_cases c1 : s0 = 0
    · replace h := h.1 c1
      obtain ⟨q1, j2, h⟩ := h
      exact am_path 12 (fun n => (if_pos c1).trans ((am_bs j2).trans (rfl))) (am_lv (am_ln (am_lv (am_lv (am_lv (am_lv (am_l0))))))) h
    · replace h := h.2 c1
      exact am_pret 3 (fun n => (if_neg c1).trans (rfl)) h
  | 3, _, h =>
    by_cases c1 : s0 = 0
    · replace h := h.1 c1
      obtain ⟨q1, j2, h⟩ := h
      exact am_path 12 (fun n => (if_pos c1).trans ((am_bs j2).trans (rfl))) (am_lv (am_ln (am_lv (am_lv (am_lv (am_lv (am_l0))))))) h
    · replace h := h.2 c1
      exact am_pret 3 (fun n => (if_neg c1).trans (rfl)) h
  | 4, _, h =>
    by_cases c1 : s0 = 0
    · replace h := h.1 c1
      obtain ⟨q1, j2, h⟩ := h
      exact am_path 12 (fun n => (if_pos c1).trans ((am_bs j2).trans (rfl))) (am_lv (am_ln (am_lv (am_lv (am_lv (am_lv (am_l0))))))) h
    · replace h := h.2 c1
      exact am_pret 3 (fun n => (if_neg c1).trans (rfl)) h
  | 5, _, h =>
    by_cases c1 : s0 = 0
    · replace h := h.1 c1
      obtain ⟨q1, j2, h⟩ := h
      exact am_path 12 (fun n => (if_pos c1).trans ((am_bs j2).trans (rfl))) (am_lv (am_ln (am_lv (am_lv (am_lv (am_lv (am_l0))))))) h
    · replace h := h.2 c1
      exact am_pret 3 (fun n => (if_neg c1).trans (rfl)) h
  | 6, _, h =>
    by_cases c1 : s0 = 0
    · replace h := h.1 c1
      obtain ⟨q1, j2, h⟩ := h
      exact am_path 12 (fun n => (if_pos c1).trans ((am_bs j2).trans (rfl))) (am_lv (am_ln (am_lv (am_lv (am_lv (am_lv (am_l0))))))) h
    · replace h := h.2 c1
      exact am_pret 3 (fun n => (if_neg c1).trans (rfl)) h
  | 7, _, h =>
    by_cases c1 : s0 = 0
    · replace h := h.1 c1
      obtain ⟨q1, j2, h⟩ := h
      exact am_path 12 (fun n => (if_pos c1).trans ((am_bs j2).trans (rfl))) (am_lv (am_ln (am_lv (am_lv (am_lv (am_lv (am_l0))))))) h
    · replace h := h.2 c1
      exact am_pret 3 (fun n => (if_neg c1).trans (rfl)) h
  | t + 8, h0, _ => exact absurd h0 (by omega)
theorem bk_61_30 {L : Nat} {xs : Nat → Int32} {d : Nat} {P : Option Value → am_I → am_J → Prop} (x2 : Int32) (x4 : Int32) (x5 : Int32) (I : am_I) (J : am_J) (t : Nat) (ht : t < 8) (h : am_If ((Int32.ofNat (fN t)) ≤ x5) (P (some (.int (0 : Int32))) I J) (am_If ((Int32.ofNat (fN t)) ≤ x5) (P (some (.int (0 : Int32))) I J) (am_To (am_XX L xs) d 63 0 [some (.ref (fH t)), some (.int x5), some (.int x2)] [] I J (fun r I2 J2 => am_To (am_XX L xs) (d + 1) 61 54 [some (.ref (fH t)), none, some (.int x2), some (.ref (fB t)), some (.int x4), some (.int x5)] (r.toList ++ []) I2 J2 P)))) : am_To (am_XX L xs) (d + 1) 61 30 [some (.ref (fH t)), none, some (.int x2), some (.ref (fB t)), some (.int x4), some (.int x5)] [] I J P := by
  match t, ht, h with
  | 0, _, h =>
    by_cases c1 : (Int32.ofNat (fN 0)) ≤ x5
    · replace h := h.1 c1
      exact am_pret 7 (fun n => (if_pos c1).trans (rfl)) h
    · replace h := h.2 c1
      by_cases c2 : (Int32.ofNat (fN 0)) ≤ x5
      · replace h := h.1 c2
        exact am_pret 11 (fun n => (if_neg c1).trans ((if_pos c2).trans (rfl))) h
      · replace h := h.2 c2
        exact am_pcall 13 (fun n => (if_neg c1).trans ((if_neg c2).trans (rfl))) (am_lv (am_ln (am_lv (am_lv (am_lv (am_lv (am_l0))))))) h
  | 1, _, h =>
    by_cases c1 : (Int32.ofNat (fN 1)) ≤ x5
    · replace h := h.1 c1
      exact am_pret 7 (fun n => (if_pos c1).trans (rfl)) h
    · replace h := h.2 c1
      by_cases c2 : (Int32.ofNat (fN 1)) ≤ x5
      · replace h := h.1 c2
        exact am_pret 11 (fun n => (if_neg c1).trans ((if_pos c2).trans (rfl))) h
      · replace h := h.2 c2
        exact am_pcall 13 (fun n => (if_neg c1).trans ((if_neg c2).trans (rfl))) (am_lv (am_ln (am_lv (am_lv (am_lv (am_lv (am_l0))))))) h
  | 2, _, h =>
    by_cases c1 : (Int32.ofNat (fN 2)) ≤ x5
    · replace h := h.1 c1
      exact am_pret 7 (fun n => (if_pos c1).trans (rfl)) h
    · replace h := h.2 c1
      by_cases c2 : (Int32.ofNat (fN 2)) ≤ x5
      · replace h := h.1 c2
        exact am_pret 11 (fun n => (if_neg c1).trans ((if_pos c2).trans (rfl))) h
      · replace h := h.2 c2
        exact am_pcall 13 (fun n => (if_neg c1).trans ((if_neg c2).trans (rfl))) (am_lv (am_ln (am_lv (am_lv (am_lv (am_lv (am_l0))))))) h
  | 3, _, h =>
    by_cases c1 : (Int32.ofNat (fN 3)) ≤ x5
    · replace h := h.1 c1
      exact am_pret 7 (fun n => (if_pos c1).trans (rfl)) h
    · replace h := h.2 c1
      by_cases c2 : (Int32.ofNat (fN 3)) ≤ x5
      · replace h := h.1 c2
        exact am_pret 11 (fun n => (if_neg c1).trans ((if_pos c2).trans (rfl))) h
      · replace h := h.2 c2
        exact am_pcall 13 (fun n => (if_neg c1).trans ((if_neg c2).trans (rfl))) (am_lv (am_ln (am_lv (am_lv (am_lv (am_lv (am_l0))))))) h
  | 4, _, h =>
    by_cases c1 : (Int32.ofNat (fN 4)) ≤ x5
    · replace h := h.1 c1
      exact am_pret 7 (fun n => (if_pos c1).trans (rfl)) h
    · replace h := h.2 c1
      by_cases c2 : (Int32.ofNat (fN 4)) ≤ x5
      · replace h := h.1 c2
        exact am_pret 11 (fun n => (if_neg c1).trans ((if_pos c2).trans (rfl))) h
      · replace h := h.2 c2
        exact am_pcall 13 (fun n => (if_neg c1).trans ((if_neg c2).trans (rfl))) (am_lv (am_ln (am_lv (am_lv (am_lv (am_lv (am_l0))))))) h
  | 5, _, h =>
    by_cases c1 : (Int32.ofNat (fN 5)) ≤ x5
    · replace h := h.1 c1
      exact am_pret 7 (fun n => (if_pos c1).trans (rfl)) h
    · replace h := h.2 c1
      by_cases c2 : (Int32.ofNat (fN 5)) ≤ x5
      · replace h := h.1 c2
        exact am_pret 11 (fun n => (if_neg c1).trans ((if_pos c2).trans (rfl))) h
      · replace h := h.2 c2
        exact am_pcall 13 (fun n => (if_neg c1).trans ((if_neg c2).trans (rfl))) (am_lv (am_ln (am_lv (am_lv (am_lv (am_lv (am_l0))))))) h
  | 6, _, h =>
    by_cases c1 : (Int32.ofNat (fN 6)) ≤ x5
    · replace h := h.1 c1
      exact am_pret 7 (fun n => (if_pos c1).trans (rfl)) h
    · replace h := h.2 c1
      by_cases c2 : (Int32.ofNat (fN 6)) ≤ x5
      · replace h := h.1 c2
        exact am_pret 11 (fun n => (if_neg c1).trans ((if_pos c2).trans (rfl))) h
      · replace h := h.2 c2
        exact am_pcall 13 (fun n => (if_neg c1).trans ((if_neg c2).trans (rfl))) (am_lv (am_ln (am_lv (am_lv (am_lv (am_lv (am_l0))))))) h
  | 7, _, h =>
    by_cases c1 : (Int32.ofNat (fN 7)) ≤ x5
    · replace h := h.1 c1
      exact am_pret 7 (fun n => (if_pos c1).trans (rfl)) h
    · replace h := h.2 c1
      by_cases c2 : (Int32.ofNat (fN 7)) ≤ x5
      · replace h := h.1 c2
        exact am_pret 11 (fun n => (if_neg c1).trans ((if_pos c2).trans (rfl))) h
      · replace h := h.2 c2
        exact am_pcall 13 (fun n => (if_neg c1).trans ((if_neg c2).trans (rfl))) (am_lv (am_ln (am_lv (am_lv (am_lv (am_lv (am_l0))))))) h
  | t + 8, h0, _ => exact absurd h0 (by omega)
theorem bk_61_54 {L : Nat} {xs : Nat → Int32} {d : Nat} {P : Option Value → am_I → am_J → Prop} (x2 : Int32) (x4 : Int32) (x5 : Int32) (s0 : Int32) (I : am_I) (J : am_J) (t : Nat) (ht : t < 8) (h : am_If (s0 = 0) (am_To (am_XX L xs) d 61 30 [some (.ref (fH t)), none, some (.int x2), some (.ref (fB t)), some (.int x4), some (.int (x5 + (1 : Int32)))] [] I J P) (am_Ix x5 (fN t) fun q1 => am_If (((I (fB t) q1) &&& x4) = 0) (am_To (am_XX L xs) d 61 30 [some (.ref (fH t)), none, some (.int x2), some (.ref (fB t)), some (.int x4), some (.int (x5 + (1 : Int32)))] [] I J P) (P (some (.int (4 : Int32))) I J))) : am_To (am_XX L xs) d 61 54 [some (.ref (fH t)), none, some (.int x2), some (.ref (fB t)), some (.int x4), some (.int x5)] [.int s0] I J P := by
  match t, ht, h with
  | 0, _, h =>
    by_cases c1 : s0 = 0
    · replace h := h.1 c1
      exact am_path 3 (fun n => (if_pos c1).trans (rfl)) (am_lv (am_ln (am_lv (am_lv (am_lv (am_lv (am_l0))))))) h
    · replace h := h.2 c1
      obtain ⟨q1, j2, h⟩ := h
      by_cases c3 : ((I (fB 0) q1) &&& x4) = 0
      · replace h := h.1 c3
        exact am_path 9 (fun n => (if_neg c1).trans ((am_bs j2).trans ((if_pos c3).trans (rfl)))) (am_lv (am_ln (am_lv (am_lv (am_lv (am_lv (am_l0))))))) h
      · replace h := h.2 c3
        exact am_pret 9 (fun n => (if_neg c1).trans ((am_bs j2).trans ((if_neg c3).trans (rfl)))) h
  | 1, _, h =>
    by_cases c1 : s0 = 0
    · replace h := h.1 c1
      exact am_path 3 (fun n => (if_pos c1).trans (rfl)) (am_lv (am_ln (am_lv (am_lv (am_lv (am_lv (am_l0))))))) h
    · replace h := h.2 c1
      obtain ⟨q1, j2, h⟩ := h
      by_cases c3 : ((I (fB 1) q1) &&& x4) = 0
      · replace h := h.1 c3
        exact am_path 9 (fun n => (if_neg c1).trans ((am_bs j2).trans ((if_pos c3).trans (rfl)))) (am_lv (am_ln (am_lv (am_lv (am_lv (am_lv (am_l0))))))) h
      · replace h := h.2 c3
        exact am_pret 9 (fun n => (if_neg c1).trans ((am_bs j2).trans ((if_neg c3).trans (rfl)))) h
  | 2, _, h =>
    by_cases c1 : s0 = 0
    · replace h := h.1 c1
      exact am_path 3 (fun n => (if_pos c1).trans (rfl)) (am_lv (am_ln (am_lv (am_lv (am_lv (am_lv (am_l0))))))) h
    · replace h := h.2 c1
      obtain ⟨q1, j2, h⟩ := h
      by_cases c3 : ((I (fB 2) q1) &&& x4) = 0
      · replace h := h.1 c3
        exact am_path 9 (fun n => (if_neg c1).trans ((am_bs j2).trans ((if_pos c3).trans (rfl)))) (am_lv (am_ln (am_lv (am_lv (am_lv (am_lv (am_l0))))))) h
      · replace h := h.2 c3
        exact am_pret 9 (fun n => (if_neg c1).trans ((am_bs j2).trans ((if_neg c3).trans (rfl)))) h
  | 3, _, h =>
    by_cases c1 : s0 = 0
    · replace h := h.1 c1
      exact am_path 3 (fun n => (if_pos c1).trans (rfl)) (am_lv (am_ln (am_lv (am_lv (am_lv (am_lv (am_l0))))))) h
    · replace h := h.2 c1
      obtain ⟨q1, j2, h⟩ := h
      by_cases c3 : ((I (fB 3) q1) &&& x4) = 0
      · replace h := h.1 c3
        exact am_path 9 (fun n => (if_neg c1).trans ((am_bs j2).trans ((if_pos c3).trans (rfl)))) (am_lv (am_ln (am_lv (am_lv (am_lv (am_lv (am_l0))))))) h
      · replace h := h.2 c3
        exact am_pret 9 (fun n => (if_neg c1).trans ((am_bs j2).trans ((if_neg c3).trans (rfl)))) h
  | 4, _, h =>
    by_cases c1 : s0 = 0
    · replace h := h.1 c1
      exact am_path 3 (fun n => (if_pos c1).trans (rfl)) (am_lv (am_ln (am_lv (am_lv (am_lv (am_lv (am_l0))))))) h
    · replace h := h.2 c1
      obtain ⟨q1, j2, h⟩ := h
      by_cases c3 : ((I (fB 4) q1) &&& x4) = 0
      · replace h := h.1 c3
        exact am_path 9 (fun n => (if_neg c1).trans ((am_bs j2).trans ((if_pos c3).trans (rfl)))) (am_lv (am_ln (am_lv (am_lv (am_lv (am_lv (am_l0))))))) h
      · replace h := h.2 c3
        exact am_pret 9 (fun n => (if_neg c1).trans ((am_bs j2).trans ((if_neg c3).trans (rfl)))) h
  | 5, _, h =>
    by_cases c1 : s0 = 0
    · replace h := h.1 c1
      exact am_path 3 (fun n => (if_pos c1).trans (rfl)) (am_lv (am_ln (am_lv (am_lv (am_lv (am_lv (am_l0))))))) h
    · replace h := h.2 c1
      obtain ⟨q1, j2, h⟩ := h
      by_cases c3 : ((I (fB 5) q1) &&& x4) = 0
      · replace h := h.1 c3
        exact am_path 9 (fun n => (if_neg c1).trans ((am_bs j2).trans ((if_pos c3).trans (rfl)))) (am_lv (am_ln (am_lv (am_lv (am_lv (am_lv (am_l0))))))) h
      · replace h := h.2 c3
        exact am_pret 9 (fun n => (if_neg c1).trans ((am_bs j2).trans ((if_neg c3).trans (rfl)))) h
  | 6, _, h =>
    by_cases c1 : s0 = 0
    · replace h := h.1 c1
      exact am_path 3 (fun n => (if_pos c1).trans (rfl)) (am_lv (am_ln (am_lv (am_lv (am_lv (am_lv (am_l0))))))) h
    · replace h := h.2 c1
      obtain ⟨q1, j2, h⟩ := h
      by_cases c3 : ((I (fB 6) q1) &&& x4) = 0
      · replace h := h.1 c3
        exact am_path 9 (fun n => (if_neg c1).trans ((am_bs j2).trans ((if_pos c3).trans (rfl)))) (am_lv (am_ln (am_lv (am_lv (am_lv (am_lv (am_l0))))))) h
      · replace h := h.2 c3
        exact am_pret 9 (fun n => (if_neg c1).trans ((am_bs j2).trans ((if_neg c3).trans (rfl)))) h
  | 7, _, h =>
    by_cases c1 : s0 = 0
    · replace h := h.1 c1
      exact am_path 3 (fun n => (if_pos c1).trans (rfl)) (am_lv (am_ln (am_lv (am_lv (am_lv (am_lv (am_l0))))))) h
    · replace h := h.2 c1
      obtain ⟨q1, j2, h⟩ := h
      by_cases c3 : ((I (fB 7) q1) &&& x4) = 0
      · replace h := h.1 c3
        exact am_path 9 (fun n => (if_neg c1).trans ((am_bs j2).trans ((if_pos c3).trans (rfl)))) (am_lv (am_ln (am_lv (am_lv (am_lv (am_lv (am_l0))))))) h
      · replace h := h.2 c3
        exact am_pret 9 (fun n => (if_neg c1).trans ((am_bs j2).trans ((if_neg c3).trans (rfl)))) h
  | t + 8, h0, _ => exact absurd h0 (by omega)
theorem bk_62_0 {L : Nat} {xs : Nat → Int32} {d : Nat} {P : Option Value → am_I → am_J → Prop} (x0 : Int32) (x1 : Int32) (I : am_I) (J : am_J)  (h : am_If ((((x0.toUInt32 >>> (x1.toUInt32 &&& Int32.toUInt32 31)).toInt32) &&& (1 : Int32)) = 0) (P (some (.int (0 : Int32))) I J) (P (some (.int (1 : Int32))) I J)) : am_To (am_XX L xs) d 62 0 [some (.int x0), some (.int x1)] [] I J P := by
  by_cases c1 : (((x0.toUInt32 >>> (x1.toUInt32 &&& Int32.toUInt32 31)).toInt32) &&& (1 : Int32)) = 0
  · replace h := h.1 c1
    exact am_pret 8 (fun n => (if_pos c1).trans (rfl)) h
  · replace h := h.2 c1
    exact am_pret 9 (fun n => (if_neg c1).trans (rfl)) h
theorem bk_63_0 {L : Nat} {xs : Nat → Int32} {d : Nat} {P : Option Value → am_I → am_J → Prop} (x1 : Int32) (x2 : Int32) (I : am_I) (J : am_J) (t : Nat) (ht : t < 8) (h : am_If (x1 = x2) (P (some (.int (1 : Int32))) I J) (am_Ix x1 (fN t) fun q1 => am_To (am_XX L xs) d 62 0 [some (.int (I (fA t) q1)), some (.int x2)] [] I J (fun r I2 J2 => am_To (am_XX L xs) (d + 1) 63 15 [none, none, none] (r.toList ++ []) I2 J2 P))) : am_To (am_XX L xs) (d + 1) 63 0 [some (.ref (fH t)), some (.int x1), some (.int x2)] [] I J P := by
  match t, ht, h with
  | 0, _, h =>
    by_cases c1 : x1 = x2
    · replace h := h.1 c1
      exact am_pret 6 (fun n => (if_pos c1).trans (rfl)) h
    · replace h := h.2 c1
      obtain ⟨q1, j2, h⟩ := h
      exact am_pcall 9 (fun n => (if_neg c1).trans ((am_bs j2).trans (rfl))) (am_ln (am_ln (am_ln (am_l0)))) h
  | 1, _, h =>
    by_cases c1 : x1 = x2
    · replace h := h.1 c1
      exact am_pret 6 (fun n => (if_pos c1).trans (rfl)) h
    · replace h := h.2 c1
      obtain ⟨q1, j2, h⟩ := h
      exact am_pcall 9 (fun n => (if_neg c1).trans ((am_bs j2).trans (rfl))) (am_ln (am_ln (am_ln (am_l0)))) h
  | 2, _, h =>
    by_cases c1 : x1 = x2
    · replace h := h.1 c1
      exact am_pret 6 (fun n => (if_pos c1).trans (rfl)) h
    · replace h := h.2 c1
      obtain ⟨q1, j2, h⟩ := h
      exact am_pcall 9 (fun n => (if_neg c1).trans ((am_bs j2).trans (rfl))) (am_ln (am_ln (am_ln (am_l0)))) h
  | 3, _, h =>
    by_cases c1 : x1 = x2
    · replace h := h.1 c1
      exact am_pret 6 (fun n => (if_pos c1).trans (rfl)) h
    · replace h := h.2 c1
      obtain ⟨q1, j2, h⟩ := h
      exact am_pcall 9 (fun n => (if_neg c1).trans ((am_bs j2).trans (rfl))) (am_ln (am_ln (am_ln (am_l0)))) h
  | 4, _, h =>
    by_cases c1 : x1 = x2
    · replace h := h.1 c1
      exact am_pret 6 (fun n => (if_pos c1).trans (rfl)) h
    · replace h := h.2 c1
      obtain ⟨q1, j2, h⟩ := h
      exact am_pcall 9 (fun n => (if_neg c1).trans ((am_bs j2).trans (rfl))) (am_ln (am_ln (am_ln (am_l0)))) h
  | 5, _, h =>
    by_cases c1 : x1 = x2
    · replace h := h.1 c1
      exact am_pret 6 (fun n => (if_pos c1).trans (rfl)) h
    · replace h := h.2 c1
      obtain ⟨q1, j2, h⟩ := h
      exact am_pcall 9 (fun n => (if_neg c1).trans ((am_bs j2).trans (rfl))) (am_ln (am_ln (am_ln (am_l0)))) h
  | 6, _, h =>
    by_cases c1 : x1 = x2
    · replace h := h.1 c1
      exact am_pret 6 (fun n => (if_pos c1).trans (rfl)) h
    · replace h := h.2 c1
      obtain ⟨q1, j2, h⟩ := h
      exact am_pcall 9 (fun n => (if_neg c1).trans ((am_bs j2).trans (rfl))) (am_ln (am_ln (am_ln (am_l0)))) h
  | 7, _, h =>
    by_cases c1 : x1 = x2
    · replace h := h.1 c1
      exact am_pret 6 (fun n => (if_pos c1).trans (rfl)) h
    · replace h := h.2 c1
      obtain ⟨q1, j2, h⟩ := h
      exact am_pcall 9 (fun n => (if_neg c1).trans ((am_bs j2).trans (rfl))) (am_ln (am_ln (am_ln (am_l0)))) h
  | t + 8, h0, _ => exact absurd h0 (by omega)
theorem bk_63_15 {L : Nat} {xs : Nat → Int32} {d : Nat} {P : Option Value → am_I → am_J → Prop} (s0 : Int32) (I : am_I) (J : am_J)  (h : am_If (s0 = 0) (P (some (.int (0 : Int32))) I J) (P (some (.int (1 : Int32))) I J)) : am_To (am_XX L xs) d 63 15 [none, none, none] [.int s0] I J P := by
  by_cases c1 : s0 = 0
  · replace h := h.1 c1
    exact am_pret 3 (fun n => (if_pos c1).trans (rfl)) h
  · replace h := h.2 c1
    exact am_pret 4 (fun n => (if_neg c1).trans (rfl)) h
theorem bk_64_0 {L : Nat} {xs : Nat → Int32} {d : Nat} {P : Option Value → am_I → am_J → Prop} (x1 : Int32) (x2 : Int32) (I : am_I) (J : am_J) (t : Nat) (ht : t < 8) (h : am_Ix x1 (fN t) fun q1 => am_To (am_XX L xs) d 64 14 [some (.ref (fH t)), none, some (.int x2), some (.int ((I (fA t) q1) ||| ((1 : Int32) <<< (x1 &&& 31)))), some (.int (0 : Int32))] [] I J P) : am_To (am_XX L xs) d 64 0 [some (.ref (fH t)), some (.int x1), some (.int x2), none, none] [] I J P := by
  match t, ht, h with
  | 0, _, h =>
    obtain ⟨q1, j1, h⟩ := h
    exact am_path 11 (fun n => (am_bs j1).trans (rfl)) (am_lv (am_ln (am_lv (am_lv (am_lv (am_l0)))))) h
  | 1, _, h =>
    obtain ⟨q1, j1, h⟩ := h
    exact am_path 11 (fun n => (am_bs j1).trans (rfl)) (am_lv (am_ln (am_lv (am_lv (am_lv (am_l0)))))) h
  | 2, _, h =>
    obtain ⟨q1, j1, h⟩ := h
    exact am_path 11 (fun n => (am_bs j1).trans (rfl)) (am_lv (am_ln (am_lv (am_lv (am_lv (am_l0)))))) h
  | 3, _, h =>
    obtain ⟨q1, j1, h⟩ := h
    exact am_path 11 (fun n => (am_bs j1).trans (rfl)) (am_lv (am_ln (am_lv (am_lv (am_lv (am_l0)))))) h
  | 4, _, h =>
    obtain ⟨q1, j1, h⟩ := h
    exact am_path 11 (fun n => (am_bs j1).trans (rfl)) (am_lv (am_ln (am_lv (am_lv (am_lv (am_l0)))))) h
  | 5, _, h =>
    obtain ⟨q1, j1, h⟩ := h
    exact am_path 11 (fun n => (am_bs j1).trans (rfl)) (am_lv (am_ln (am_lv (am_lv (am_lv (am_l0)))))) h
  | 6, _, h =>
    obtain ⟨q1, j1, h⟩ := h
    exact am_path 11 (fun n => (am_bs j1).trans (rfl)) (am_lv (am_ln (am_lv (am_lv (am_lv (am_l0)))))) h
  | 7, _, h =>
    obtain ⟨q1, j1, h⟩ := h
    exact am_path 11 (fun n => (am_bs j1).trans (rfl)) (am_lv (am_ln (am_lv (am_lv (am_lv (am_l0)))))) h
  | t + 8, h0, _ => exact absurd h0 (by omega)
theorem bk_64_14 {L : Nat} {xs : Nat → Int32} {d : Nat} {P : Option Value → am_I → am_J → Prop} (x2 : Int32) (x3 : Int32) (x4 : Int32) (I : am_I) (J : am_J) (t : Nat) (ht : t < 8) (h : am_If ((Int32.ofNat (fN t)) ≤ x4) (P none I J) (am_To (am_XX L xs) d 63 0 [some (.ref (fH t)), some (.int x4), some (.int x2)] [] I J (fun r I2 J2 => am_To (am_XX L xs) (d + 1) 64 31 [some (.ref (fH t)), none, some (.int x2), some (.int x3), some (.int x4)] (r.toList ++ []) I2 J2 P))) : am_To (am_XX L xs) (d + 1) 64 14 [some (.ref (fH t)), none, some (.int x2), some (.int x3), some (.int x4)] [] I J P := by
  match t, ht, h with
  | 0, _, h =>
    by_cases c1 : (Int32.ofNat (fN 0)) ≤ x4
    · replace h := h.1 c1
      exact am_pret 6 (fun n => (if_pos c1).trans (rfl)) h
    · replace h := h.2 c1
      exact am_pcall 9 (fun n => (if_neg c1).trans (rfl)) (am_lv (am_ln (am_lv (am_lv (am_lv (am_l0)))))) h
  | 1, _, h =>
    by_cases c1 : (Int32.ofNat (fN 1)) ≤ x4
    · replace h := h.1 c1
      exact am_pret 6 (fun n => (if_pos c1).trans (rfl)) h
    · replace h := h.2 c1
      exact am_pcall 9 (fun n => (if_neg c1).trans (rfl)) (am_lv (am_ln (am_lv (am_lv (am_lv (am_l0)))))) h
  | 2, _, h =>
    by_cases c1 : (Int32.ofNat (fN 2)) ≤ x4
    · replace h := h.1 c1
      exact am_pret 6 (fun n => (if_pos c1).trans (rfl)) h
    · replace h := h.2 c1
      exact am_pcall 9 (fun n => (if_neg c1).trans (rfl)) (am_lv (am_ln (am_lv (am_lv (am_lv (am_l0)))))) h
  | 3, _, h =>
    by_cases c1 : (Int32.ofNat (fN 3)) ≤ x4
    · replace h := h.1 c1
      exact am_pret 6 (fun n => (if_pos c1).trans (rfl)) h
    · replace h := h.2 c1
      exact am_pcall 9 (fun n => (if_neg c1).trans (rfl)) (am_lv (am_ln (am_lv (am_lv (am_lv (am_l0)))))) h
  | 4, _, h =>
    by_cases c1 : (Int32.ofNat (fN 4)) ≤ x4
    · replace h := h.1 c1
      exact am_pret 6 (fun n => (if_pos c1).trans (rfl)) h
    · replace h := h.2 c1
      exact am_pcall 9 (fun n => (if_neg c1).trans (rfl)) (am_lv (am_ln (am_lv (am_lv (am_lv (am_l0)))))) h
  | 5, _, h =>
    by_cases c1 : (Int32.ofNat (fN 5)) ≤ x4
    · replace h := h.1 c1
      exact am_pret 6 (fun n => (if_pos c1).trans (rfl)) h
    · replace h := h.2 c1
      exact am_pcall 9 (fun n => (if_neg c1).trans (rfl)) (am_lv (am_ln (am_lv (am_lv (am_lv (am_l0)))))) h
  | 6, _, h =>
    by_cases c1 : (Int32.ofNat (fN 6)) ≤ x4
    · replace h := h.1 c1
      exact am_pret 6 (fun n => (if_pos c1).trans (rfl)) h
    · replace h := h.2 c1
      exact am_pcall 9 (fun n => (if_neg c1).trans (rfl)) (am_lv (am_ln (am_lv (am_lv (am_lv (am_l0)))))) h
  | 7, _, h =>
    by_cases c1 : (Int32.ofNat (fN 7)) ≤ x4
    · replace h := h.1 c1
      exact am_pret 6 (fun n => (if_pos c1).trans (rfl)) h
    · replace h := h.2 c1
      exact am_pcall 9 (fun n => (if_neg c1).trans (rfl)) (am_lv (am_ln (am_lv (am_lv (am_lv (am_l0)))))) h
  | t + 8, h0, _ => exact absurd h0 (by omega)
theorem bk_64_31 {L : Nat} {xs : Nat → Int32} {d : Nat} {P : Option Value → am_I → am_J → Prop} (x2 : Int32) (x3 : Int32) (x4 : Int32) (s0 : Int32) (I : am_I) (J : am_J) (t : Nat) (ht : t < 8) (h : am_If (s0 = 0) (am_To (am_XX L xs) d 64 14 [some (.ref (fH t)), none, some (.int x2), some (.int x3), some (.int (x4 + (1 : Int32)))] [] I J P) (am_Ix x4 (fN t) fun q1 => am_Ix x4 (fN t) fun q2 => am_To (am_XX L xs) d 64 14 [some (.ref (fH t)), none, some (.int x2), some (.int x3), some (.int (x4 + (1 : Int32)))] [] (am_up I (fA t) q2 ((I (fA t) q1) ||| x3)) J P)) : am_To (am_XX L xs) d 64 31 [some (.ref (fH t)), none, some (.int x2), some (.int x3), some (.int x4)] [.int s0] I J P := by
  match t, ht, h with
  | 0, _, h =>
    by_cases c1 : s0 = 0
    · replace h := h.1 c1
      exact am_path 3 (fun n => (if_pos c1).trans (rfl)) (am_lv (am_ln (am_lv (am_lv (am_lv (am_l0)))))) h
    · replace h := h.2 c1
      obtain ⟨q1, j2, h⟩ := h
      obtain ⟨q2, j3, h⟩ := h
      exact am_path 11 (fun n => (if_neg c1).trans ((am_bs j2).trans ((am_bs j3).trans (rfl)))) (am_lv (am_ln (am_lv (am_lv (am_lv (am_l0)))))) h
  | 1, _, h =>
    by_cases c1 : s0 = 0
    · replace h := h.1 c1
      exact am_path 3 (fun n => (if_pos c1).trans (rfl)) (am_lv (am_ln (am_lv (am_lv (am_lv (am_l0)))))) h
    · replace h := h.2 c1
      obtain ⟨q1, j2, h⟩ := h
      obtain ⟨q2, j3, h⟩ := h
      exact am_path 11 (fun n => (if_neg c1).trans ((am_bs j2).trans ((am_bs j3).trans (rfl)))) (am_lv (am_ln (am_lv (am_lv (am_lv (am_l0)))))) h
  | 2, _, h =>
    by_cases c1 : s0 = 0
    · replace h := h.1 c1
      exact am_path 3 (fun n => (if_pos c1).trans (rfl)) (am_lv (am_ln (am_lv (am_lv (am_lv (am_l0)))))) h
    · replace h := h.2 c1
      obtain ⟨q1, j2, h⟩ := h
      obtain ⟨q2, j3, h⟩ := h
      exact am_path 11 (fun n => (if_neg c1).trans ((am_bs j2).trans ((am_bs j3).trans (rfl)))) (am_lv (am_ln (am_lv (am_lv (am_lv (am_l0)))))) h
  | 3, _, h =>
    by_cases c1 : s0 = 0
    · replace h := h.1 c1
      exact am_path 3 (fun n => (if_pos c1).trans (rfl)) (am_lv (am_ln (am_lv (am_lv (am_lv (am_l0)))))) h
    · replace h := h.2 c1
      obtain ⟨q1, j2, h⟩ := h
      obtain ⟨q2, j3, h⟩ := h
      exact am_path 11 (fun n => (if_neg c1).trans ((am_bs j2).trans ((am_bs j3).trans (rfl)))) (am_lv (am_ln (am_lv (am_lv (am_lv (am_l0)))))) h
  | 4, _, h =>
    by_cases c1 : s0 = 0
    · replace h := h.1 c1
      exact am_path 3 (fun n => (if_pos c1).trans (rfl)) (am_lv (am_ln (am_lv (am_lv (am_lv (am_l0)))))) h
    · replace h := h.2 c1
      obtain ⟨q1, j2, h⟩ := h
      obtain ⟨q2, j3, h⟩ := h
      exact am_path 11 (fun n => (if_neg c1).trans ((am_bs j2).trans ((am_bs j3).trans (rfl)))) (am_lv (am_ln (am_lv (am_lv (am_lv (am_l0)))))) h
  | 5, _, h =>
    by_cases c1 : s0 = 0
    · replace h := h.1 c1
      exact am_path 3 (fun n => (if_pos c1).trans (rfl)) (am_lv (am_ln (am_lv (am_lv (am_lv (am_l0)))))) h
    · replace h := h.2 c1
      obtain ⟨q1, j2, h⟩ := h
      obtain ⟨q2, j3, h⟩ := h
      exact am_path 11 (fun n => (if_neg c1).trans ((am_bs j2).trans ((am_bs j3).trans (rfl)))) (am_lv (am_ln (am_lv (am_lv (am_lv (am_l0)))))) h
  | 6, _, h =>
    by_cases c1 : s0 = 0
    · replace h := h.1 c1
      exact am_path 3 (fun n => (if_pos c1).trans (rfl)) (am_lv (am_ln (am_lv (am_lv (am_lv (am_l0)))))) h
    · replace h := h.2 c1
      obtain ⟨q1, j2, h⟩ := h
      obtain ⟨q2, j3, h⟩ := h
      exact am_path 11 (fun n => (if_neg c1).trans ((am_bs j2).trans ((am_bs j3).trans (rfl)))) (am_lv (am_ln (am_lv (am_lv (am_lv (am_l0)))))) h
  | 7, _, h =>
    by_cases c1 : s0 = 0
    · replace h := h.1 c1
      exact am_path 3 (fun n => (if_pos c1).trans (rfl)) (am_lv (am_ln (am_lv (am_lv (am_lv (am_l0)))))) h
    · replace h := h.2 c1
      obtain ⟨q1, j2, h⟩ := h
      obtain ⟨q2, j3, h⟩ := h
      exact am_path 11 (fun n => (if_neg c1).trans ((am_bs j2).trans ((am_bs j3).trans (rfl)))) (am_lv (am_ln (am_lv (am_lv (am_lv (am_l0)))))) h
  | t + 8, h0, _ => exact absurd h0 (by omega)
theorem bk_65_0 {L : Nat} {xs : Nat → Int32} {d : Nat} {P : Option Value → am_I → am_J → Prop} (x1 : Int32) (I : am_I) (J : am_J)  (h : am_Ix x1 24 fun q1 => am_If ((I 69 q1) = (-1 : Int32)) (am_To (am_XX L xs) (d + 1) 65 21 [some (.ref 66), some (.int x1), some (.ref 64), none] [] I J P) (am_Ix x1 24 fun q2 => am_To (am_XX L xs) d 66 0 [some (.ref 66), some (.int x1), some (.int (I 69 q2))] [] I J (fun r I2 J2 => am_To (am_XX L xs) (d + 1) 65 21 [some (.ref 66), some (.int x1), some (.ref 64), none] (r.toList ++ []) I2 J2 P))) : am_To (am_XX L xs) (d + 1) 65 0 [some (.ref 66), some (.int x1), some (.ref 64), none] [] I J P := by
  obtain ⟨q1, j1, h⟩ := h
  by_cases c2 : (I 69 q1) = (-1 : Int32)
  · replace h := h.1 c2
    exact am_path 6 (fun n => (am_bs j1).trans ((if_pos c2).trans (rfl))) (am_lv (am_lv (am_lv (am_ln (am_l0))))) h
  · replace h := h.2 c2
    obtain ⟨q2, j3, h⟩ := h
    exact am_pcall 13 (fun n => (am_bs j1).trans ((if_neg c2).trans ((am_bs j3).trans (rfl)))) (am_lv (am_lv (am_lv (am_ln (am_l0))))) h
theorem bk_65_21 {L : Nat} {xs : Nat → Int32} {d : Nat} {P : Option Value → am_I → am_J → Prop} (x1 : Int32) (I : am_I) (J : am_J)  (h : am_To (am_XX L xs) d 65 25 [some (.ref 66), some (.int x1), some (.ref 64), some (.int (x1 + (1 : Int32)))] [] I J P) : am_To (am_XX L xs) d 65 21 [some (.ref 66), some (.int x1), some (.ref 64), none] [] I J P := by
  exact am_path 4 (fun n => rfl) (am_lv (am_lv (am_lv (am_lv (am_l0))))) h
theorem bk_65_25 {L : Nat} {xs : Nat → Int32} {d : Nat} {P : Option Value → am_I → am_J → Prop} (x1 : Int32) (x3 : Int32) (I : am_I) (J : am_J)  (h : am_If ((24 : Int32) ≤ x3) (P none I J) (am_To (am_XX L xs) d 26 0 [some (.int (2 : Int32)), some (.int x1), some (.int x3), none, none, none] [] I J (fun r I2 J2 => am_To (am_XX L xs) (d + 1) 65 38 [some (.ref 66), some (.int x1), some (.ref 64), some (.int x3)] (r.toList ++ [.ref 64]) I2 J2 P))) : am_To (am_XX L xs) (d + 1) 65 25 [some (.ref 66), some (.int x1), some (.ref 64), some (.int x3)] [] I J P := by
  by_cases c1 : (24 : Int32) ≤ x3
  · replace h := h.1 c1
    exact am_pret 4 (fun n => (if_pos c1).trans (rfl)) h
  · replace h := h.2 c1
    exact am_pcall 8 (fun n => (if_neg c1).trans (rfl)) (am_lv (am_lv (am_lv (am_lv (am_l0))))) h
theorem bk_65_38 {L : Nat} {xs : Nat → Int32} {d : Nat} {P : Option Value → am_I → am_J → Prop} (x1 : Int32) (x3 : Int32) (s1 : Int32) (I : am_I) (J : am_J)  (h : am_Ix s1 1728 fun q1 => am_If ((I 64 q1) ≤ 0) (am_To (am_XX L xs) (d + 1) 65 25 [some (.ref 66), some (.int x1), some (.ref 64), some (.int (x3 + (1 : Int32)))] [] I J P) (am_To (am_XX L xs) d 66 0 [some (.ref 66), some (.int x1), some (.int x3)] [] I J (fun r I2 J2 => am_To (am_XX L xs) (d + 1) 65 48 [some (.ref 66), some (.int x1), some (.ref 64), some (.int x3)] (r.toList ++ []) I2 J2 P))) : am_To (am_XX L xs) (d + 1) 65 38 [some (.ref 66), some (.int x1), some (.ref 64), some (.int x3)] [.int s1, .ref 64] I J P := by
  obtain ⟨q1, j1, h⟩ := h
  by_cases c2 : (I 64 q1) ≤ 0
  · replace h := h.1 c2
    exact am_path 4 (fun n => (am_bs j1).trans ((if_pos c2).trans (rfl))) (am_lv (am_lv (am_lv (am_lv (am_l0))))) h
  · replace h := h.2 c2
    exact am_pcall 6 (fun n => (am_bs j1).trans ((if_neg c2).trans (rfl))) (am_lv (am_lv (am_lv (am_lv (am_l0))))) h
theorem bk_65_48 {L : Nat} {xs : Nat → Int32} {d : Nat} {P : Option Value → am_I → am_J → Prop} (x1 : Int32) (x3 : Int32) (I : am_I) (J : am_J)  (h : am_To (am_XX L xs) d 65 25 [some (.ref 66), some (.int x1), some (.ref 64), some (.int (x3 + (1 : Int32)))] [] I J P) : am_To (am_XX L xs) d 65 48 [some (.ref 66), some (.int x1), some (.ref 64), some (.int x3)] [] I J P := by
  exact am_path 2 (fun n => rfl) (am_lv (am_lv (am_lv (am_lv (am_l0))))) h
theorem bk_66_0 {L : Nat} {xs : Nat → Int32} {d : Nat} {P : Option Value → am_I → am_J → Prop} (x1 : Int32) (x2 : Int32) (I : am_I) (J : am_J)  (h : am_Ix x1 24 fun q1 => am_Ix x1 24 fun q2 => am_Ix x2 24 fun q3 => am_Ix x2 24 fun q4 => P none (am_up (am_up I 71 q2 ((I 71 q1) ||| ((1 : Int32) <<< (x2 &&& 31)))) 71 q4 (((am_up I 71 q2 ((I 71 q1) ||| ((1 : Int32) <<< (x2 &&& 31)))) 71 q3) ||| ((1 : Int32) <<< (x1 &&& 31)))) J) : am_To (am_XX L xs) d 66 0 [some (.ref 66), some (.int x1), some (.int x2)] [] I J P := by
  obtain ⟨q1, j1, h⟩ := h
  obtain ⟨q2, j2, h⟩ := h
  obtain ⟨q3, j3, h⟩ := h
  obtain ⟨q4, j4, h⟩ := h
  exact am_pret 21 (fun n => (am_bs j1).trans ((am_bs j2).trans ((am_bs j3).trans ((am_bs j4).trans (rfl))))) h
theorem bk_67_0 {L : Nat} {xs : Nat → Int32} {d : Nat} {P : Option Value → am_I → am_J → Prop} (x1 : Int32) (x2 : Int32) (I : am_I) (J : am_J)  (h : am_To (am_XX L xs) d 42 0 [some (.ref 3), some (.int x1), some (.int x2)] [] I J (fun r I2 J2 => am_To (am_XX L xs) (d + 1) 67 9 [some (.ref 0), some (.int x1), some (.int x2)] (r.toList ++ []) I2 J2 P)) : am_To (am_XX L xs) (d + 1) 67 0 [some (.ref 0), some (.int x1), some (.int x2)] [] I J P := by
  exact am_pcall 5 (fun n => rfl) (am_lv (am_lv (am_lv (am_l0)))) h
theorem bk_67_9 {L : Nat} {xs : Nat → Int32} {d : Nat} {P : Option Value → am_I → am_J → Prop} (x1 : Int32) (x2 : Int32) (s0 : Int32) (I : am_I) (J : am_J)  (h : am_If (s0 = 0) (P (some (.int (-1 : Int32))) I J) (am_To (am_XX L xs) d 54 0 [some (.ref 0)] [] I J (fun r I2 J2 => am_To (am_XX L xs) (d + 1) 67 16 [none, some (.int x1), some (.int x2)] (r.toList ++ []) I2 J2 P))) : am_To (am_XX L xs) (d + 1) 67 9 [some (.ref 0), some (.int x1), some (.int x2)] [.int s0] I J P := by
  by_cases c1 : s0 = 0
  · replace h := h.1 c1
    exact am_pret 3 (fun n => (if_pos c1).trans (rfl)) h
  · replace h := h.2 c1
    exact am_pcall 3 (fun n => (if_neg c1).trans (rfl)) (am_ln (am_lv (am_lv (am_l0)))) h
theorem bk_67_16 {L : Nat} {xs : Nat → Int32} {d : Nat} {P : Option Value → am_I → am_J → Prop} (x1 : Int32) (x2 : Int32) (I : am_I) (J : am_J)  (h : am_To (am_XX L xs) d 26 0 [some (.int (0 : Int32)), some (.int x1), some (.int x2), none, none, none] [] I J (fun r I2 J2 => am_To (am_XX L xs) (d + 1) 67 25 [none, none, none] (r.toList ++ [.ref 70]) I2 J2 P)) : am_To (am_XX L xs) (d + 1) 67 16 [none, some (.int x1), some (.int x2)] [.ref 66] I J P := by
  exact am_pcall 5 (fun n => rfl) (am_ln (am_ln (am_ln (am_l0)))) h
theorem bk_67_25 {L : Nat} {xs : Nat → Int32} {d : Nat} {P : Option Value → am_I → am_J → Prop} (s1 : Int32) (I : am_I) (J : am_J)  (h : am_Ix s1 576 fun q1 => P (some (.int (I 70 q1))) I J) : am_To (am_XX L xs) d 67 25 [none, none, none] [.int s1, .ref 70] I J P := by
  obtain ⟨q1, j1, h⟩ := h
  exact am_pret 3 (fun n => (am_bs j1).trans (rfl)) h
theorem bk_68_0 {L : Nat} {xs : Nat → Int32} {d : Nat} {P : Option Value → am_I → am_J → Prop} (x1 : Int32) (x2 : Int32) (I : am_I) (J : am_J)  (h : am_To (am_XX L xs) d 38 0 [some (.ref 3), some (.int x1)] [] I J (fun r I2 J2 => am_To (am_XX L xs) (d + 1) 68 8 [some (.ref 0), some (.int x1), some (.int x2)] (r.toList ++ []) I2 J2 P)) : am_To (am_XX L xs) (d + 1) 68 0 [some (.ref 0), some (.int x1), some (.int x2)] [] I J P := by
  exact am_pcall 4 (fun n => rfl) (am_lv (am_lv (am_lv (am_l0)))) h
theorem bk_68_8 {L : Nat} {xs : Nat → Int32} {d : Nat} {P : Option Value → am_I → am_J → Prop} (x1 : Int32) (x2 : Int32) (s0 : Int32) (I : am_I) (J : am_J)  (h : am_If (s0 = 0) (P (some (.int (-1 : Int32))) I J) (am_To (am_XX L xs) d 38 0 [some (.ref 3), some (.int x2)] [] I J (fun r I2 J2 => am_To (am_XX L xs) (d + 1) 68 19 [some (.ref 0), some (.int x1), some (.int x2)] (r.toList ++ []) I2 J2 P))) : am_To (am_XX L xs) (d + 1) 68 8 [some (.ref 0), some (.int x1), some (.int x2)] [.int s0] I J P := by
  by_cases c1 : s0 = 0
  · replace h := h.1 c1
    exact am_pret 3 (fun n => (if_pos c1).trans (rfl)) h
  · replace h := h.2 c1
    exact am_pcall 5 (fun n => (if_neg c1).trans (rfl)) (am_lv (am_lv (am_lv (am_l0)))) h
theorem bk_68_19 {L : Nat} {xs : Nat → Int32} {d : Nat} {P : Option Value → am_I → am_J → Prop} (x1 : Int32) (x2 : Int32) (s0 : Int32) (I : am_I) (J : am_J)  (h : am_If (s0 = 0) (P (some (.int (-1 : Int32))) I J) (am_To (am_XX L xs) d 54 0 [some (.ref 0)] [] I J (fun r I2 J2 => am_To (am_XX L xs) (d + 1) 68 28 [none, some (.int x1), some (.int x2)] (r.toList ++ []) I2 J2 P))) : am_To (am_XX L xs) (d + 1) 68 19 [some (.ref 0), some (.int x1), some (.int x2)] [.int s0] I J P := by
  by_cases c1 : s0 = 0
  · replace h := h.1 c1
    exact am_pret 3 (fun n => (if_pos c1).trans (rfl)) h
  · replace h := h.2 c1
    exact am_pcall 3 (fun n => (if_neg c1).trans (rfl)) (am_ln (am_lv (am_lv (am_l0)))) h
theorem bk_68_28 {L : Nat} {xs : Nat → Int32} {d : Nat} {P : Option Value → am_I → am_J → Prop} (x1 : Int32) (x2 : Int32) (I : am_I) (J : am_J)  (h : am_Ix x2 24 fun q1 => am_To (am_XX L xs) d 62 0 [some (.int (I 68 q1)), some (.int x1)] [] I J (fun r I2 J2 => am_To (am_XX L xs) (d + 1) 68 40 [none, none, none] (r.toList ++ []) I2 J2 P)) : am_To (am_XX L xs) (d + 1) 68 28 [none, some (.int x1), some (.int x2)] [.ref 66] I J P := by
  obtain ⟨q1, j1, h⟩ := h
  exact am_pcall 6 (fun n => (am_bs j1).trans (rfl)) (am_ln (am_ln (am_ln (am_l0)))) h
theorem bk_68_40 {L : Nat} {xs : Nat → Int32} {d : Nat} {P : Option Value → am_I → am_J → Prop} (s0 : Int32) (I : am_I) (J : am_J)  (h : am_If (s0 = 0) (P (some (.int (0 : Int32))) I J) (P (some (.int (1 : Int32))) I J)) : am_To (am_XX L xs) d 68 40 [none, none, none] [.int s0] I J P := by
  by_cases c1 : s0 = 0
  · replace h := h.1 c1
    exact am_pret 3 (fun n => (if_pos c1).trans (rfl)) h
  · replace h := h.2 c1
    exact am_pret 4 (fun n => (if_neg c1).trans (rfl)) h
theorem bk_69_0 {L : Nat} {xs : Nat → Int32} {d : Nat} {P : Option Value → am_I → am_J → Prop} (x1 : Int32) (x2 : Int32) (I : am_I) (J : am_J)  (h : am_To (am_XX L xs) d 38 0 [some (.ref 3), some (.int x1)] [] I J (fun r I2 J2 => am_To (am_XX L xs) (d + 1) 69 8 [some (.ref 0), some (.int x1), some (.int x2), none] (r.toList ++ []) I2 J2 P)) : am_To (am_XX L xs) (d + 1) 69 0 [some (.ref 0), some (.int x1), some (.int x2), none] [] I J P := by
  exact am_pcall 4 (fun n => rfl) (am_lv (am_lv (am_lv (am_ln (am_l0))))) h
theorem bk_69_8 {L : Nat} {xs : Nat → Int32} {d : Nat} {P : Option Value → am_I → am_J → Prop} (x1 : Int32) (x2 : Int32) (s0 : Int32) (I : am_I) (J : am_J)  (h : am_If (s0 = 0) (P (some (.int (-1 : Int32))) I J) (am_To (am_XX L xs) d 54 0 [some (.ref 0)] [] I J (fun r I2 J2 => am_To (am_XX L xs) (d + 1) 69 17 [none, some (.int x1), some (.int x2), none] (r.toList ++ []) I2 J2 P))) : am_To (am_XX L xs) (d + 1) 69 8 [some (.ref 0), some (.int x1), some (.int x2), none] [.int s0] I J P := by
  by_cases c1 : s0 = 0
  · replace h := h.1 c1
    exact am_pret 3 (fun n => (if_pos c1).trans (rfl)) h
  · replace h := h.2 c1
    exact am_pcall 3 (fun n => (if_neg c1).trans (rfl)) (am_ln (am_lv (am_lv (am_ln (am_l0))))) h
theorem bk_69_17 {L : Nat} {xs : Nat → Int32} {d : Nat} {P : Option Value → am_I → am_J → Prop} (x1 : Int32) (x2 : Int32) (I : am_I) (J : am_J)  (h : am_To (am_XX L xs) d 70 0 [some (.ref 67), some (.int x1), none, none] [] I J (fun r I2 J2 => am_To (am_XX L xs) (d + 1) 69 24 [none, none, some (.int x2), none] (r.toList ++ []) I2 J2 P)) : am_To (am_XX L xs) (d + 1) 69 17 [none, some (.int x1), some (.int x2), none] [.ref 66] I J P := by
  exact am_pcall 3 (fun n => rfl) (am_ln (am_ln (am_lv (am_ln (am_l0))))) h
theorem bk_69_24 {L : Nat} {xs : Nat → Int32} {d : Nat} {P : Option Value → am_I → am_J → Prop} (x2 : Int32) (s0 : Int32) (I : am_I) (J : am_J)  (h : am_If (x2 = (-1 : Int32)) (am_To (am_XX L xs) d 71 0 [some (.int s0)] [] I J (fun r I2 J2 => am_To (am_XX L xs) (d + 1) 69 34 [none, none, none, none] (r.toList ++ []) I2 J2 P)) (am_To (am_XX L xs) d 72 0 [some (.int s0), some (.int x2), none, none] [] I J (fun r I2 J2 => am_To (am_XX L xs) (d + 1) 69 42 [none, none, none, none] (r.toList ++ []) I2 J2 P))) : am_To (am_XX L xs) (d + 1) 69 24 [none, none, some (.int x2), none] [.int s0] I J P := by
  by_cases c1 : x2 = (-1 : Int32)
  · replace h := h.1 c1
    exact am_pcall 6 (fun n => (if_pos c1).trans (rfl)) (am_ln (am_ln (am_ln (am_ln (am_l0))))) h
  · replace h := h.2 c1
    exact am_pcall 7 (fun n => (if_neg c1).trans (rfl)) (am_ln (am_ln (am_ln (am_ln (am_l0))))) h
theorem bk_69_42 {L : Nat} {xs : Nat → Int32} {d : Nat} {P : Option Value → am_I → am_J → Prop} (s0 : Int32) (I : am_I) (J : am_J)  (h : P (some (.int s0)) I J) : am_To (am_XX L xs) d 69 42 [none, none, none, none] [.int s0] I J P := by
  exact am_pret 1 (fun n => rfl) h
theorem bk_69_34 {L : Nat} {xs : Nat → Int32} {d : Nat} {P : Option Value → am_I → am_J → Prop} (s0 : Int32) (I : am_I) (J : am_J)  (h : P (some (.int s0)) I J) : am_To (am_XX L xs) d 69 34 [none, none, none, none] [.int s0] I J P := by
  exact am_pret 2 (fun n => rfl) h
theorem bk_70_0 {L : Nat} {xs : Nat → Int32} {d : Nat} {P : Option Value → am_I → am_J → Prop} (x1 : Int32) (I : am_I) (J : am_J) (t : Nat) (ht : t < 8) (h : am_To (am_XX L xs) d 70 4 [some (.ref (fH t)), some (.int x1), some (.int (0 : Int32)), some (.int (0 : Int32))] [] I J P) : am_To (am_XX L xs) d 70 0 [some (.ref (fH t)), some (.int x1), none, none] [] I J P := by
  exact am_path 4 (fun n => rfl) (am_lv (am_lv (am_lv (am_lv (am_l0))))) h
theorem bk_70_4 {L : Nat} {xs : Nat → Int32} {d : Nat} {P : Option Value → am_I → am_J → Prop} (x1 : Int32) (x2 : Int32) (x3 : Int32) (I : am_I) (J : am_J) (t : Nat) (ht : t < 8) (h : am_If ((Int32.ofNat (fN t)) ≤ x3) (P (some (.int x2)) I J) (am_Ix x3 (fN t) fun q1 => am_To (am_XX L xs) d 62 0 [some (.int (I (fA t) q1)), some (.int x1)] [] I J (fun r I2 J2 => am_To (am_XX L xs) (d + 1) 70 23 [some (.ref (fH t)), some (.int x1), some (.int x2), some (.int x3)] (r.toList ++ []) I2 J2 P))) : am_To (am_XX L xs) (d + 1) 70 4 [some (.ref (fH t)), some (.int x1), some (.int x2), some (.int x3)] [] I J P := by
  match t, ht, h with
  | 0, _, h =>
    by_cases c1 : (Int32.ofNat (fN 0)) ≤ x3
    · replace h := h.1 c1
      exact am_pret 7 (fun n => (if_pos c1).trans (rfl)) h
    · replace h := h.2 c1
      obtain ⟨q1, j2, h⟩ := h
      exact am_pcall 11 (fun n => (if_neg c1).trans ((am_bs j2).trans (rfl))) (am_lv (am_lv (am_lv (am_lv (am_l0))))) h
  | 1, _, h =>
    by_cases c1 : (Int32.ofNat (fN 1)) ≤ x3
    · replace h := h.1 c1
      exact am_pret 7 (fun n => (if_pos c1).trans (rfl)) h
    · replace h := h.2 c1
      obtain ⟨q1, j2, h⟩ := h
      exact am_pcall 11 (fun n => (if_neg c1).trans ((am_bs j2).trans (rfl))) (am_lv (am_lv (am_lv (am_lv (am_l0))))) h
  | 2, _, h =>
    by_cases c1 : (Int32.ofNat (fN 2)) ≤ x3
    · replace h := h.1 c1
      exact am_pret 7 (fun n => (if_pos c1).trans (rfl)) h
    · replace h := h.2 c1
      obtain ⟨q1, j2, h⟩ := h
      exact am_pcall 11 (fun n => (if_neg c1).trans ((am_bs j2).trans (rfl))) (am_lv (am_lv (am_lv (am_lv (am_l0))))) h
  | 3, _, h =>
    by_cases c1 : (Int32.ofNat (fN 3)) ≤ x3
    · replace h := h.1 c1
      exact am_pret 7 (fun n => (if_pos c1).trans (rfl)) h
    · replace h := h.2 c1
      obtain ⟨q1, j2, h⟩ := h
      exact am_pcall 11 (fun n => (if_neg c1).trans ((am_bs j2).trans (rfl))) (am_lv (am_lv (am_lv (am_lv (am_l0))))) h
  | 4, _, h =>
    by_cases c1 : (Int32.ofNat (fN 4)) ≤ x3
    · replace h := h.1 c1
      exact am_pret 7 (fun n => (if_pos c1).trans (rfl)) h
    · replace h := h.2 c1
      obtain ⟨q1, j2, h⟩ := h
      exact am_pcall 11 (fun n => (if_neg c1).trans ((am_bs j2).trans (rfl))) (am_lv (am_lv (am_lv (am_lv (am_l0))))) h
  | 5, _, h =>
    by_cases c1 : (Int32.ofNat (fN 5)) ≤ x3
    · replace h := h.1 c1
      exact am_pret 7 (fun n => (if_pos c1).trans (rfl)) h
    · replace h := h.2 c1
      obtain ⟨q1, j2, h⟩ := h
      exact am_pcall 11 (fun n => (if_neg c1).trans ((am_bs j2).trans (rfl))) (am_lv (am_lv (am_lv (am_lv (am_l0))))) h
  | 6, _, h =>
    by_cases c1 : (Int32.ofNat (fN 6)) ≤ x3
    · replace h := h.1 c1
      exact am_pret 7 (fun n => (if_pos c1).trans (rfl)) h
    · replace h := h.2 c1
      obtain ⟨q1, j2, h⟩ := h
      exact am_pcall 11 (fun n => (if_neg c1).trans ((am_bs j2).trans (rfl))) (am_lv (am_lv (am_lv (am_lv (am_l0))))) h
  | 7, _, h =>
    by_cases c1 : (Int32.ofNat (fN 7)) ≤ x3
    · replace h := h.1 c1
      exact am_pret 7 (fun n => (if_pos c1).trans (rfl)) h
    · replace h := h.2 c1
      obtain ⟨q1, j2, h⟩ := h
      exact am_pcall 11 (fun n => (if_neg c1).trans ((am_bs j2).trans (rfl))) (am_lv (am_lv (am_lv (am_lv (am_l0))))) h
  | t + 8, h0, _ => exact absurd h0 (by omega)
theorem bk_70_23 {L : Nat} {xs : Nat → Int32} {d : Nat} {P : Option Value → am_I → am_J → Prop} (x1 : Int32) (x2 : Int32) (x3 : Int32) (s0 : Int32) (I : am_I) (J : am_J) (t : Nat) (ht : t < 8) (h : am_If (s0 = 0) (am_To (am_XX L xs) d 70 4 [some (.ref (fH t)), some (.int x1), some (.int x2), some (.int (x3 + (1 : Int32)))] [] I J P) (am_To (am_XX L xs) d 70 4 [some (.ref (fH t)), some (.int x1), some (.int (x2 ||| ((1 : Int32) <<< (x3 &&& 31)))), some (.int (x3 + (1 : Int32)))] [] I J P)) : am_To (am_XX L xs) d 70 23 [some (.ref (fH t)), some (.int x1), some (.int x2), some (.int x3)] [.int s0] I J P := by
  by_cases c1 : s0 = 0
  · replace h := h.1 c1
    exact am_path 3 (fun n => (if_pos c1).trans (rfl)) (am_lv (am_lv (am_lv (am_lv (am_l0))))) h
  · replace h := h.2 c1
    exact am_path 9 (fun n => (if_neg c1).trans (rfl)) (am_lv (am_lv (am_lv (am_lv (am_l0))))) h
theorem bk_71_0 {L : Nat} {xs : Nat → Int32} {d : Nat} {P : Option Value → am_I → am_J → Prop} (x0 : Int32) (I : am_I) (J : am_J)  (h : P (some (.int ((((((((x0 - (((x0.toUInt32 >>> ((1 : Int32).toUInt32 &&& Int32.toUInt32 31)).toInt32) &&& (1431655765 : Int32))) &&& (858993459 : Int32)) + ((((x0 - (((x0.toUInt32 >>> ((1 : Int32).toUInt32 &&& Int32.toUInt32 31)).toInt32) &&& (1431655765 : Int32))).toUInt32 >>> ((2 : Int32).toUInt32 &&& Int32.toUInt32 31)).toInt32) &&& (858993459 : Int32))) + (((((x0 - (((x0.toUInt32 >>> ((1 : Int32).toUInt32 &&& Int32.toUInt32 31)).toInt32) &&& (1431655765 : Int32))) &&& (858993459 : Int32)) + ((((x0 - (((x0.toUInt32 >>> ((1 : Int32).toUInt32 &&& Int32.toUInt32 31)).toInt32) &&& (1431655765 : Int32))).toUInt32 >>> ((2 : Int32).toUInt32 &&& Int32.toUInt32 31)).toInt32) &&& (858993459 : Int32))).toUInt32 >>> ((4 : Int32).toUInt32 &&& Int32.toUInt32 31)).toInt32)) &&& (252645135 : Int32)) + (((((((x0 - (((x0.toUInt32 >>> ((1 : Int32).toUInt32 &&& Int32.toUInt32 31)).toInt32) &&& (1431655765 : Int32))) &&& (858993459 : Int32)) + ((((x0 - (((x0.toUInt32 >>> ((1 : Int32).toUInt32 &&& Int32.toUInt32 31)).toInt32) &&& (1431655765 : Int32))).toUInt32 >>> ((2 : Int32).toUInt32 &&& Int32.toUInt32 31)).toInt32) &&& (858993459 : Int32))) + (((((x0 - (((x0.toUInt32 >>> ((1 : Int32).toUInt32 &&& Int32.toUInt32 31)).toInt32) &&& (1431655765 : Int32))) &&& (858993459 : Int32)) + ((((x0 - (((x0.toUInt32 >>> ((1 : Int32).toUInt32 &&& Int32.toUInt32 31)).toInt32) &&& (1431655765 : Int32))).toUInt32 >>> ((2 : Int32).toUInt32 &&& Int32.toUInt32 31)).toInt32) &&& (858993459 : Int32))).toUInt32 >>> ((4 : Int32).toUInt32 &&& Int32.toUInt32 31)).toInt32)) &&& (252645135 : Int32)).toUInt32 >>> ((8 : Int32).toUInt32 &&& Int32.toUInt32 31)).toInt32)) + ((((((((x0 - (((x0.toUInt32 >>> ((1 : Int32).toUInt32 &&& Int32.toUInt32 31)).toInt32) &&& (1431655765 : Int32))) &&& (858993459 : Int32)) + ((((x0 - (((x0.toUInt32 >>> ((1 : Int32).toUInt32 &&& Int32.toUInt32 31)).toInt32) &&& (1431655765 : Int32))).toUInt32 >>> ((2 : Int32).toUInt32 &&& Int32.toUInt32 31)).toInt32) &&& (858993459 : Int32))) + (((((x0 - (((x0.toUInt32 >>> ((1 : Int32).toUInt32 &&& Int32.toUInt32 31)).toInt32) &&& (1431655765 : Int32))) &&& (858993459 : Int32)) + ((((x0 - (((x0.toUInt32 >>> ((1 : Int32).toUInt32 &&& Int32.toUInt32 31)).toInt32) &&& (1431655765 : Int32))).toUInt32 >>> ((2 : Int32).toUInt32 &&& Int32.toUInt32 31)).toInt32) &&& (858993459 : Int32))).toUInt32 >>> ((4 : Int32).toUInt32 &&& Int32.toUInt32 31)).toInt32)) &&& (252645135 : Int32)) + (((((((x0 - (((x0.toUInt32 >>> ((1 : Int32).toUInt32 &&& Int32.toUInt32 31)).toInt32) &&& (1431655765 : Int32))) &&& (858993459 : Int32)) + ((((x0 - (((x0.toUInt32 >>> ((1 : Int32).toUInt32 &&& Int32.toUInt32 31)).toInt32) &&& (1431655765 : Int32))).toUInt32 >>> ((2 : Int32).toUInt32 &&& Int32.toUInt32 31)).toInt32) &&& (858993459 : Int32))) + (((((x0 - (((x0.toUInt32 >>> ((1 : Int32).toUInt32 &&& Int32.toUInt32 31)).toInt32) &&& (1431655765 : Int32))) &&& (858993459 : Int32)) + ((((x0 - (((x0.toUInt32 >>> ((1 : Int32).toUInt32 &&& Int32.toUInt32 31)).toInt32) &&& (1431655765 : Int32))).toUInt32 >>> ((2 : Int32).toUInt32 &&& Int32.toUInt32 31)).toInt32) &&& (858993459 : Int32))).toUInt32 >>> ((4 : Int32).toUInt32 &&& Int32.toUInt32 31)).toInt32)) &&& (252645135 : Int32)).toUInt32 >>> ((8 : Int32).toUInt32 &&& Int32.toUInt32 31)).toInt32)).toUInt32 >>> ((16 : Int32).toUInt32 &&& Int32.toUInt32 31)).toInt32)) &&& (63 : Int32)))) I J) : am_To (am_XX L xs) d 71 0 [some (.int x0)] [] I J P := by
  exact am_pret 42 (fun n => rfl) h
theorem bk_72_0 {L : Nat} {xs : Nat → Int32} {d : Nat} {P : Option Value → am_I → am_J → Prop} (x0 : Int32) (x1 : Int32) (I : am_I) (J : am_J)  (h : am_To (am_XX L xs) d 72 4 [some (.int x0), none, some (.int x1), some (.int (0 : Int32))] [] I J P) : am_To (am_XX L xs) d 72 0 [some (.int x0), some (.int x1), none, none] [] I J P := by
  exact am_path 4 (fun n => rfl) (am_lv (am_ln (am_lv (am_lv (am_l0))))) h
theorem bk_72_4 {L : Nat} {xs : Nat → Int32} {d : Nat} {P : Option Value → am_I → am_J → Prop} (x0 : Int32) (x2 : Int32) (x3 : Int32) (I : am_I) (J : am_J)  (h : am_If ((24 : Int32) ≤ x3) (P (some (.int (-1 : Int32))) I J) (am_To (am_XX L xs) d 62 0 [some (.int x0), some (.int x3)] [] I J (fun r I2 J2 => am_To (am_XX L xs) (d + 1) 72 15 [some (.int x0), none, some (.int x2), some (.int x3)] (r.toList ++ []) I2 J2 P))) : am_To (am_XX L xs) (d + 1) 72 4 [some (.int x0), none, some (.int x2), some (.int x3)] [] I J P := by
  by_cases c1 : (24 : Int32) ≤ x3
  · replace h := h.1 c1
    exact am_pret 5 (fun n => (if_pos c1).trans (rfl)) h
  · replace h := h.2 c1
    exact am_pcall 6 (fun n => (if_neg c1).trans (rfl)) (am_lv (am_ln (am_lv (am_lv (am_l0))))) h
theorem bk_72_15 {L : Nat} {xs : Nat → Int32} {d : Nat} {P : Option Value → am_I → am_J → Prop} (x0 : Int32) (x2 : Int32) (x3 : Int32) (s0 : Int32) (I : am_I) (J : am_J)  (h : am_If (s0 = 0) (am_To (am_XX L xs) d 72 4 [some (.int x0), none, some (.int x2), some (.int (x3 + (1 : Int32)))] [] I J P) (am_If (x2 = 0) (P (some (.int x3)) I J) (am_To (am_XX L xs) d 72 4 [some (.int x0), none, some (.int (x2 + (-1 : Int32))), some (.int (x3 + (1 : Int32)))] [] I J P))) : am_To (am_XX L xs) d 72 15 [some (.int x0), none, some (.int x2), some (.int x3)] [.int s0] I J P := by
  by_cases c1 : s0 = 0
  · replace h := h.1 c1
    exact am_path 3 (fun n => (if_pos c1).trans (rfl)) (am_lv (am_ln (am_lv (am_lv (am_l0))))) h
  · replace h := h.2 c1
    by_cases c2 : x2 = 0
    · replace h := h.1 c2
      exact am_pret 5 (fun n => (if_neg c1).trans ((if_pos c2).trans (rfl))) h
    · replace h := h.2 c2
      exact am_path 6 (fun n => (if_neg c1).trans ((if_neg c2).trans (rfl))) (am_lv (am_ln (am_lv (am_lv (am_l0))))) h
theorem bk_73_0 {L : Nat} {xs : Nat → Int32} {d : Nat} {P : Option Value → am_I → am_J → Prop} (x1 : Int32) (x2 : Int32) (I : am_I) (J : am_J)  (h : am_To (am_XX L xs) d 38 0 [some (.ref 3), some (.int x1)] [] I J (fun r I2 J2 => am_To (am_XX L xs) (d + 1) 73 8 [some (.ref 0), some (.int x1), some (.int x2)] (r.toList ++ []) I2 J2 P)) : am_To (am_XX L xs) (d + 1) 73 0 [some (.ref 0), some (.int x1), some (.int x2)] [] I J P := by
  exact am_pcall 4 (fun n => rfl) (am_lv (am_lv (am_lv (am_l0)))) h
theorem bk_73_8 {L : Nat} {xs : Nat → Int32} {d : Nat} {P : Option Value → am_I → am_J → Prop} (x1 : Int32) (x2 : Int32) (s0 : Int32) (I : am_I) (J : am_J)  (h : am_If (s0 = 0) (P (some (.int (-1 : Int32))) I J) (am_To (am_XX L xs) d 38 0 [some (.ref 3), some (.int x2)] [] I J (fun r I2 J2 => am_To (am_XX L xs) (d + 1) 73 19 [some (.ref 0), some (.int x1), some (.int x2)] (r.toList ++ []) I2 J2 P))) : am_To (am_XX L xs) (d + 1) 73 8 [some (.ref 0), some (.int x1), some (.int x2)] [.int s0] I J P := by
  by_cases c1 : s0 = 0
  · replace h := h.1 c1
    exact am_pret 3 (fun n => (if_pos c1).trans (rfl)) h
  · replace h := h.2 c1
    exact am_pcall 5 (fun n => (if_neg c1).trans (rfl)) (am_lv (am_lv (am_lv (am_l0)))) h
theorem bk_73_19 {L : Nat} {xs : Nat → Int32} {d : Nat} {P : Option Value → am_I → am_J → Prop} (x1 : Int32) (x2 : Int32) (s0 : Int32) (I : am_I) (J : am_J)  (h : am_If (s0 = 0) (P (some (.int (-1 : Int32))) I J) (am_To (am_XX L xs) d 54 0 [some (.ref 0)] [] I J (fun r I2 J2 => am_To (am_XX L xs) (d + 1) 73 26 [none, some (.int x1), some (.int x2)] (r.toList ++ []) I2 J2 P))) : am_To (am_XX L xs) (d + 1) 73 19 [some (.ref 0), some (.int x1), some (.int x2)] [.int s0] I J P := by
  by_cases c1 : s0 = 0
  · replace h := h.1 c1
    exact am_pret 3 (fun n => (if_pos c1).trans (rfl)) h
  · replace h := h.2 c1
    exact am_pcall 3 (fun n => (if_neg c1).trans (rfl)) (am_ln (am_lv (am_lv (am_l0)))) h
theorem bk_73_26 {L : Nat} {xs : Nat → Int32} {d : Nat} {P : Option Value → am_I → am_J → Prop} (x1 : Int32) (x2 : Int32) (I : am_I) (J : am_J)  (h : am_To (am_XX L xs) d 74 0 [some (.ref 66), some (.int x1), some (.int x2), none, none] [] I J (fun r I2 J2 => am_To (am_XX L xs) (d + 1) 73 31 [none, none, none] (r.toList ++ []) I2 J2 P)) : am_To (am_XX L xs) (d + 1) 73 26 [none, some (.int x1), some (.int x2)] [.ref 66] I J P := by
  exact am_pcall 3 (fun n => rfl) (am_ln (am_ln (am_ln (am_l0)))) h
theorem bk_73_31 {L : Nat} {xs : Nat → Int32} {d : Nat} {P : Option Value → am_I → am_J → Prop} (s0 : Int32) (I : am_I) (J : am_J)  (h : P (some (.int s0)) I J) : am_To (am_XX L xs) d 73 31 [none, none, none] [.int s0] I J P := by
  exact am_pret 2 (fun n => rfl) h
theorem bk_74_0 {L : Nat} {xs : Nat → Int32} {d : Nat} {P : Option Value → am_I → am_J → Prop} (x1 : Int32) (x2 : Int32) (I : am_I) (J : am_J)  (h : am_To (am_XX L xs) d 74 5 [some (.ref 66), none, some (.int x2), some (.int x1), some (.int (0 : Int32))] [] I J P) : am_To (am_XX L xs) d 74 0 [some (.ref 66), some (.int x1), some (.int x2), none, none] [] I J P := by
  exact am_path 4 (fun n => rfl) (am_lv (am_ln (am_lv (am_lv (am_lv (am_l0)))))) h
theorem bk_74_5 {L : Nat} {xs : Nat → Int32} {d : Nat} {P : Option Value → am_I → am_J → Prop} (x2 : Int32) (x3 : Int32) (x4 : Int32) (I : am_I) (J : am_J)  (h : am_If ((24 : Int32) ≤ x4) (P (some (.int (-1 : Int32))) I J) (am_If (x3 = (-1 : Int32)) (P (some (.int (-1 : Int32))) I J) (am_If (x3 = x2) (P (some (.int x3)) I J) (am_Ix x2 24 fun q1 => am_To (am_XX L xs) d 62 0 [some (.int (I 68 q1)), some (.int x3)] [] I J (fun r I2 J2 => am_To (am_XX L xs) (d + 1) 74 35 [some (.ref 66), none, some (.int x2), some (.int x3), some (.int x4)] (r.toList ++ []) I2 J2 P))))) : am_To (am_XX L xs) (d + 1) 74 5 [some (.ref 66), none, some (.int x2), some (.int x3), some (.int x4)] [] I J P := by
  by_cases c1 : (24 : Int32) ≤ x4
  · replace h := h.1 c1
    exact am_pret 5 (fun n => (if_pos c1).trans (rfl)) h
  · replace h := h.2 c1
    by_cases c2 : x3 = (-1 : Int32)
    · replace h := h.1 c2
      exact am_pret 8 (fun n => (if_neg c1).trans ((if_pos c2).trans (rfl))) h
    · replace h := h.2 c2
      by_cases c3 : x3 = x2
      · replace h := h.1 c3
        exact am_pret 11 (fun n => (if_neg c1).trans ((if_neg c2).trans ((if_pos c3).trans (rfl)))) h
      · replace h := h.2 c3
        obtain ⟨q1, j4, h⟩ := h
        exact am_pcall 16 (fun n => (if_neg c1).trans ((if_neg c2).trans ((if_neg c3).trans ((am_bs j4).trans (rfl))))) (am_lv (am_ln (am_lv (am_lv (am_lv (am_l0)))))) h
theorem bk_74_35 {L : Nat} {xs : Nat → Int32} {d : Nat} {P : Option Value → am_I → am_J → Prop} (x2 : Int32) (x3 : Int32) (x4 : Int32) (s0 : Int32) (I : am_I) (J : am_J)  (h : am_If (s0 = 0) (am_Ix x3 24 fun q1 => am_To (am_XX L xs) d 74 5 [some (.ref 66), none, some (.int x2), some (.int (I 69 q1)), some (.int (x4 + (1 : Int32)))] [] I J P) (P (some (.int x3)) I J)) : am_To (am_XX L xs) d 74 35 [some (.ref 66), none, some (.int x2), some (.int x3), some (.int x4)] [.int s0] I J P := by
  by_cases c1 : s0 = 0
  · replace h := h.1 c1
    obtain ⟨q1, j2, h⟩ := h
    exact am_path 8 (fun n => (if_pos c1).trans ((am_bs j2).trans (rfl))) (am_lv (am_ln (am_lv (am_lv (am_lv (am_l0)))))) h
  · replace h := h.2 c1
    exact am_pret 3 (fun n => (if_neg c1).trans (rfl)) h
theorem bk_75_0 {L : Nat} {xs : Nat → Int32} {d : Nat} {P : Option Value → am_I → am_J → Prop} (x1 : Int32) (x2 : Int32) (I : am_I) (J : am_J)  (h : am_To (am_XX L xs) d 38 0 [some (.ref 3), some (.int x1)] [] I J (fun r I2 J2 => am_To (am_XX L xs) (d + 1) 75 8 [some (.ref 0), some (.int x1), some (.int x2)] (r.toList ++ []) I2 J2 P)) : am_To (am_XX L xs) (d + 1) 75 0 [some (.ref 0), some (.int x1), some (.int x2)] [] I J P := by
  exact am_pcall 4 (fun n => rfl) (am_lv (am_lv (am_lv (am_l0)))) h
theorem bk_75_8 {L : Nat} {xs : Nat → Int32} {d : Nat} {P : Option Value → am_I → am_J → Prop} (x1 : Int32) (x2 : Int32) (s0 : Int32) (I : am_I) (J : am_J)  (h : am_If (s0 = 0) (P (some (.int (-1 : Int32))) I J) (am_To (am_XX L xs) d 38 0 [some (.ref 3), some (.int x2)] [] I J (fun r I2 J2 => am_To (am_XX L xs) (d + 1) 75 19 [some (.ref 0), some (.int x1), some (.int x2)] (r.toList ++ []) I2 J2 P))) : am_To (am_XX L xs) (d + 1) 75 8 [some (.ref 0), some (.int x1), some (.int x2)] [.int s0] I J P := by
  by_cases c1 : s0 = 0
  · replace h := h.1 c1
    exact am_pret 3 (fun n => (if_pos c1).trans (rfl)) h
  · replace h := h.2 c1
    exact am_pcall 5 (fun n => (if_neg c1).trans (rfl)) (am_lv (am_lv (am_lv (am_l0)))) h
theorem bk_75_19 {L : Nat} {xs : Nat → Int32} {d : Nat} {P : Option Value → am_I → am_J → Prop} (x1 : Int32) (x2 : Int32) (s0 : Int32) (I : am_I) (J : am_J)  (h : am_If (s0 = 0) (P (some (.int (-1 : Int32))) I J) (am_To (am_XX L xs) d 54 0 [some (.ref 0)] [] I J (fun r I2 J2 => am_To (am_XX L xs) (d + 1) 75 26 [none, some (.int x1), some (.int x2)] (r.toList ++ []) I2 J2 P))) : am_To (am_XX L xs) (d + 1) 75 19 [some (.ref 0), some (.int x1), some (.int x2)] [.int s0] I J P := by
  by_cases c1 : s0 = 0
  · replace h := h.1 c1
    exact am_pret 3 (fun n => (if_pos c1).trans (rfl)) h
  · replace h := h.2 c1
    exact am_pcall 3 (fun n => (if_neg c1).trans (rfl)) (am_ln (am_lv (am_lv (am_l0)))) h
theorem bk_75_26 {L : Nat} {xs : Nat → Int32} {d : Nat} {P : Option Value → am_I → am_J → Prop} (x1 : Int32) (x2 : Int32) (I : am_I) (J : am_J)  (h : am_To (am_XX L xs) d 76 0 [some (.ref 66), some (.int x1), some (.int x2), none] [] I J (fun r I2 J2 => am_To (am_XX L xs) (d + 1) 75 31 [none, none, none] (r.toList ++ []) I2 J2 P)) : am_To (am_XX L xs) (d + 1) 75 26 [none, some (.int x1), some (.int x2)] [.ref 66] I J P := by
  exact am_pcall 3 (fun n => rfl) (am_ln (am_ln (am_ln (am_l0)))) h
theorem bk_75_31 {L : Nat} {xs : Nat → Int32} {d : Nat} {P : Option Value → am_I → am_J → Prop} (s0 : Int32) (I : am_I) (J : am_J)  (h : P (some (.int s0)) I J) : am_To (am_XX L xs) d 75 31 [none, none, none] [.int s0] I J P := by
  exact am_pret 2 (fun n => rfl) h
theorem bk_76_0 {L : Nat} {xs : Nat → Int32} {d : Nat} {P : Option Value → am_I → am_J → Prop} (x1 : Int32) (x2 : Int32) (I : am_I) (J : am_J)  (h : am_To (am_XX L xs) d 74 0 [some (.ref 66), some (.int x1), some (.int x2), none, none] [] I J (fun r I2 J2 => am_To (am_XX L xs) (d + 1) 76 6 [some (.ref 66), some (.int x1), some (.int x2), none] (r.toList ++ []) I2 J2 P)) : am_To (am_XX L xs) (d + 1) 76 0 [some (.ref 66), some (.int x1), some (.int x2), none] [] I J P := by
  exact am_pcall 4 (fun n => rfl) (am_lv (am_lv (am_lv (am_ln (am_l0))))) h
theorem bk_76_6 {L : Nat} {xs : Nat → Int32} {d : Nat} {P : Option Value → am_I → am_J → Prop} (x1 : Int32) (x2 : Int32) (s0 : Int32) (I : am_I) (J : am_J)  (h : am_If (s0 = (-1 : Int32)) (P (some (.int (-1 : Int32))) I J) (am_To (am_XX L xs) d 77 0 [some (.ref 66), some (.int x1)] [] I J (fun r I2 J2 => am_To (am_XX L xs) (d + 1) 76 21 [some (.ref 66), none, some (.int x2), some (.int s0)] (r.toList ++ []) I2 J2 P))) : am_To (am_XX L xs) (d + 1) 76 6 [some (.ref 66), some (.int x1), some (.int x2), none] [.int s0] I J P := by
  by_cases c1 : s0 = (-1 : Int32)
  · replace h := h.1 c1
    exact am_pret 7 (fun n => (if_pos c1).trans (rfl)) h
  · replace h := h.2 c1
    exact am_pcall 7 (fun n => (if_neg c1).trans (rfl)) (am_lv (am_ln (am_lv (am_lv (am_l0))))) h
theorem bk_76_21 {L : Nat} {xs : Nat → Int32} {d : Nat} {P : Option Value → am_I → am_J → Prop} (x2 : Int32) (x3 : Int32) (s0 : Int32) (I : am_I) (J : am_J)  (h : am_To (am_XX L xs) d 77 0 [some (.ref 66), some (.int x2)] [] I J (fun r I2 J2 => am_To (am_XX L xs) (d + 1) 76 26 [some (.ref 66), none, none, some (.int x3)] (r.toList ++ [.int s0]) I2 J2 P)) : am_To (am_XX L xs) (d + 1) 76 21 [some (.ref 66), none, some (.int x2), some (.int x3)] [.int s0] I J P := by
  exact am_pcall 3 (fun n => rfl) (am_lv (am_ln (am_ln (am_lv (am_l0))))) h
theorem bk_76_26 {L : Nat} {xs : Nat → Int32} {d : Nat} {P : Option Value → am_I → am_J → Prop} (x3 : Int32) (s0 : Int32) (s1 : Int32) (I : am_I) (J : am_J)  (h : am_To (am_XX L xs) d 77 0 [some (.ref 66), some (.int x3)] [] I J (fun r I2 J2 => am_To (am_XX L xs) (d + 1) 76 33 [none, none, none, none] (r.toList ++ [.int (2 : Int32), .int (s0 + s1)]) I2 J2 P)) : am_To (am_XX L xs) (d + 1) 76 26 [some (.ref 66), none, none, some (.int x3)] [.int s1, .int s0] I J P := by
  exact am_pcall 5 (fun n => rfl) (am_ln (am_ln (am_ln (am_ln (am_l0))))) h
theorem bk_76_33 {L : Nat} {xs : Nat → Int32} {d : Nat} {P : Option Value → am_I → am_J → Prop} (s0 : Int32) (s1 : Int32) (s2 : Int32) (I : am_I) (J : am_J)  (h : P (some (.int (s0 - (s1 * s2)))) I J) : am_To (am_XX L xs) d 76 33 [none, none, none, none] [.int s2, .int s1, .int s0] I J P := by
  exact am_pret 3 (fun n => rfl) h
theorem bk_77_0 {L : Nat} {xs : Nat → Int32} {d : Nat} {P : Option Value → am_I → am_J → Prop} (x1 : Int32) (I : am_I) (J : am_J)  (h : am_Ix x1 24 fun q1 => am_To (am_XX L xs) d 71 0 [some (.int (I 68 q1))] [] I J (fun r I2 J2 => am_To (am_XX L xs) (d + 1) 77 12 [none, none] (r.toList ++ []) I2 J2 P)) : am_To (am_XX L xs) (d + 1) 77 0 [some (.ref 66), some (.int x1)] [] I J P := by
  obtain ⟨q1, j1, h⟩ := h
  exact am_pcall 6 (fun n => (am_bs j1).trans (rfl)) (am_ln (am_ln (am_l0))) h
theorem bk_77_12 {L : Nat} {xs : Nat → Int32} {d : Nat} {P : Option Value → am_I → am_J → Prop} (s0 : Int32) (I : am_I) (J : am_J)  (h : P (some (.int s0)) I J) : am_To (am_XX L xs) d 77 12 [none, none] [.int s0] I J P := by
  exact am_pret 1 (fun n => rfl) h
theorem bk_78_0 {L : Nat} {xs : Nat → Int32} {d : Nat} {P : Option Value → am_I → am_J → Prop} (x1 : Int32) (x2 : Int32) (I : am_I) (J : am_J)  (h : am_To (am_XX L xs) d 38 0 [some (.ref 3), some (.int x1)] [] I J (fun r I2 J2 => am_To (am_XX L xs) (d + 1) 78 8 [some (.ref 0), some (.int x1), some (.int x2), none] (r.toList ++ []) I2 J2 P)) : am_To (am_XX L xs) (d + 1) 78 0 [some (.ref 0), some (.int x1), some (.int x2), none] [] I J P := by
  exact am_pcall 4 (fun n => rfl) (am_lv (am_lv (am_lv (am_ln (am_l0))))) h
theorem bk_78_8 {L : Nat} {xs : Nat → Int32} {d : Nat} {P : Option Value → am_I → am_J → Prop} (x1 : Int32) (x2 : Int32) (s0 : Int32) (I : am_I) (J : am_J)  (h : am_If (s0 = 0) (P (some (.int (-1 : Int32))) I J) (am_To (am_XX L xs) d 38 0 [some (.ref 3), some (.int x2)] [] I J (fun r I2 J2 => am_To (am_XX L xs) (d + 1) 78 19 [some (.ref 0), some (.int x1), some (.int x2), none] (r.toList ++ []) I2 J2 P))) : am_To (am_XX L xs) (d + 1) 78 8 [some (.ref 0), some (.int x1), some (.int x2), none] [.int s0] I J P := by
  by_cases c1 : s0 = 0
  · replace h := h.1 c1
    exact am_pret 3 (fun n => (if_pos c1).trans (rfl)) h
  · replace h := h.2 c1
    exact am_pcall 5 (fun n => (if_neg c1).trans (rfl)) (am_lv (am_lv (am_lv (am_ln (am_l0))))) h
theorem bk_78_19 {L : Nat} {xs : Nat → Int32} {d : Nat} {P : Option Value → am_I → am_J → Prop} (x1 : Int32) (x2 : Int32) (s0 : Int32) (I : am_I) (J : am_J)  (h : am_If (s0 = 0) (P (some (.int (-1 : Int32))) I J) (am_To (am_XX L xs) d 54 0 [some (.ref 0)] [] I J (fun r I2 J2 => am_To (am_XX L xs) (d + 1) 78 28 [none, some (.int x1), some (.int x2), none] (r.toList ++ []) I2 J2 P))) : am_To (am_XX L xs) (d + 1) 78 19 [some (.ref 0), some (.int x1), some (.int x2), none] [.int s0] I J P := by
  by_cases c1 : s0 = 0
  · replace h := h.1 c1
    exact am_pret 3 (fun n => (if_pos c1).trans (rfl)) h
  · replace h := h.2 c1
    exact am_pcall 3 (fun n => (if_neg c1).trans (rfl)) (am_ln (am_lv (am_lv (am_ln (am_l0))))) h
theorem bk_78_28 {L : Nat} {xs : Nat → Int32} {d : Nat} {P : Option Value → am_I → am_J → Prop} (x1 : Int32) (x2 : Int32) (I : am_I) (J : am_J)  (h : am_Ix x1 24 fun q1 => am_Ix x2 24 fun q2 => am_To (am_XX L xs) d 71 0 [some (.int ((I 71 q1) &&& (I 71 q2)))] [] I J (fun r I2 J2 => am_To (am_XX L xs) (d + 1) 78 42 [none, none, none, none] (r.toList ++ []) I2 J2 P)) : am_To (am_XX L xs) (d + 1) 78 28 [none, some (.int x1), some (.int x2), none] [.ref 66] I J P := by
  obtain ⟨q1, j1, h⟩ := h
  obtain ⟨q2, j2, h⟩ := h
  exact am_pcall 10 (fun n => (am_bs j1).trans ((am_bs j2).trans (rfl))) (am_ln (am_ln (am_ln (am_ln (am_l0))))) h
theorem bk_78_42 {L : Nat} {xs : Nat → Int32} {d : Nat} {P : Option Value → am_I → am_J → Prop} (s0 : Int32) (I : am_I) (J : am_J)  (h : P (some (.int s0)) I J) : am_To (am_XX L xs) d 78 42 [none, none, none, none] [.int s0] I J P := by
  exact am_pret 1 (fun n => rfl) h
