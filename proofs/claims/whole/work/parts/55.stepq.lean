/-! THE LAW'S STEPS, the queries -/
section
variable {L : Nat} {xs : Nat → Int32} {P : Option Value → am_I → am_J → Prop} {n w i : Nat} {b v : Nat → Nat} {th : Nat → Bool} {sn : Nat → Nat} {S : Nat → Nat → Nat → Nat} {kp : KP} {I : am_I} {J : am_J}
theorem st_parent (hi : i + 6 ≤ L) (hL : L ≤ 3072) (G : LawG L xs i P) (hA : AVv n b w v th sn S kp) (hC : CL n b w v th sn S kp I J) (hM : MO n b w v th sn S kp I J) : am_To (am_XX L xs) 40 147 493 [some (.ref 1000), some (.ref 0), some (.ref 95), some (.int (nI i))] [] I J P := by
  have hw := hA.2.1.1
  refine bk_147_493 _ I J (x_i (i + 1) (nI_1 i) (parent_C hA hC (fun z => ?_) (fun j I1 m o hj ej hS hf hC1 => ?_)))
  · refine bk_147_502 _ _ I J (x_i (i + 1) (nI_1 i) (bk_122_0 _ I J (isword_m hM.2.1.1 hw (fun _ => bk_122_5 _ 0 I J (i_t rfl (bk_147_511 _ _ _ I J (i_t rfl ?_)))) (fun j hj e => absurd e (z j hj)))))
    rw [show nI i + (6 : Int32) = nI (i + 6) from e_i i 6]
    exact G _ _ _ _ _ _ _ _ I J hA hC hM
  · refine bk_147_502 _ _ I1 J (x_i (i + 1) (nI_1 i) (?_))
    rw [ej]
    refine parent_M hA (MO_fc hM hf) hS hj (fun I2 hf2 hM2 => bk_147_511 _ _ _ I2 J (i_t rfl ?_))
    rw [show nI i + (6 : Int32) = nI (i + 6) from e_i i 6]
    exact G _ _ _ _ _ _ _ _ I2 J hA (CL_fm hC1 hf2) hM2
theorem st_below (hi : i + 6 ≤ L) (hL : L ≤ 3072) (G : LawG L xs i P) (hA : AVv n b w v th sn S kp) (hC : CL n b w v th sn S kp I J) (hM : MO n b w v th sn S kp I J) : am_To (am_XX L xs) 40 147 582 [some (.ref 1000), some (.ref 0), some (.ref 95), some (.int (nI i))] [] I J P := by
  have hw := hA.2.1.1
  refine bk_147_582 _ I J (x_i (i + 1) (nI_1 i) (x_i (i + 2) (e_i i 2) (below_C hA hC (fun z => ?_) (fun j I1 m o hj ej hS hf hC1 => ?_))))
  · refine bk_147_596 _ _ I J (x_i (i + 1) (nI_1 i) (x_i (i + 2) (e_i i 2) (bk_132_0 _ _ I J (isword_m hM.2.1.1 hw (fun _ => bk_132_5 _ _ 0 I J (i_t rfl (bk_147_610 _ _ _ I J (i_t rfl ?_)))) (fun j hj e => absurd e (z j hj))))))
    rw [show nI i + (6 : Int32) = nI (i + 6) from e_i i 6]
    exact G _ _ _ _ _ _ _ _ I J hA hC hM
  · refine bk_147_596 _ _ I1 J (x_i (i + 1) (nI_1 i) (x_i (i + 2) (e_i i 2) (?_)))
    rw [ej]
    refine below_M hA (MO_fc hM hf) hS hj (fun I2 hf2 hM2 => bk_147_610 _ _ _ I2 J (i_t rfl ?_))
    rw [show nI i + (6 : Int32) = nI (i + 6) from e_i i 6]
    exact G _ _ _ _ _ _ _ _ I2 J hA (CL_fm hC1 hf2) hM2
theorem st_senses (hi : i + 6 ≤ L) (hL : L ≤ 3072) (G : LawG L xs i P) (hA : AVv n b w v th sn S kp) (hC : CL n b w v th sn S kp I J) (hM : MO n b w v th sn S kp I J) : am_To (am_XX L xs) 40 147 714 [some (.ref 1000), some (.ref 0), some (.ref 95), some (.int (nI i))] [] I J P := by
  have hw := hA.2.1.1
  refine bk_147_714 _ I J (x_i (i + 1) (nI_1 i) (senses_C hA hC (fun z => ?_) (fun j I1 m o hj ej hS hf hC1 => ?_)))
  · refine bk_147_723 _ _ I J (x_i (i + 1) (nI_1 i) (bk_138_0 _ I J (isword_m hM.2.1.1 hw (fun _ => bk_138_5 _ 0 I J (i_t rfl (bk_147_732 _ _ _ I J (i_t rfl ?_)))) (fun j hj e => absurd e (z j hj)))))
    rw [show nI i + (6 : Int32) = nI (i + 6) from e_i i 6]
    exact G _ _ _ _ _ _ _ _ I J hA hC hM
  · refine bk_147_723 _ _ I1 J (x_i (i + 1) (nI_1 i) (?_))
    rw [ej]
    refine senses_M hA (MO_fc hM hf) hS hj (fun I2 hf2 hM2 => bk_147_732 _ _ _ I2 J (i_t rfl ?_))
    rw [show nI i + (6 : Int32) = nI (i + 6) from e_i i 6]
    exact G _ _ _ _ _ _ _ _ I2 J hA (CL_fm hC1 hf2) hM2
theorem st_above (hi : i + 6 ≤ L) (hL : L ≤ 3072) (G : LawG L xs i P) (hA : AVv n b w v th sn S kp) (hC : CL n b w v th sn S kp I J) (hM : MO n b w v th sn S kp I J) : am_To (am_XX L xs) 40 147 549 [some (.ref 1000), some (.ref 0), some (.ref 95), some (.int (nI i))] [] I J P := by
  have hw := hA.2.1.1
  refine bk_147_549 _ I J (x_i (i + 1) (nI_1 i) (x_i (i + 2) (e_i i 2) (above_C hA hC (fun z => ?_) (fun j1 j2 I1 m o hj1 hj2 e1 e2 hS hf hC1 => ?_))))
  · refine bk_147_563 _ _ I J (x_i (i + 1) (nI_1 i) (x_i (i + 2) (e_i i 2) (bk_130_0 _ _ I J (arewords_m hM.2.1.1 hw (fun _ => bk_130_6 _ _ 0 I J (i_t rfl (bk_147_577 _ _ _ I J (i_t rfl ?_)))) (fun j1 j2 hj1 hj2 e1 e2 => absurd e2 (z j1 j2 hj1 hj2 e1))))))
    rw [show nI i + (6 : Int32) = nI (i + 6) from e_i i 6]
    exact G _ _ _ _ _ _ _ _ I J hA hC hM
  · refine bk_147_563 _ _ I1 J (x_i (i + 1) (nI_1 i) (x_i (i + 2) (e_i i 2) (?_)))
    rw [e1, e2]
    refine above_M hA (MO_fc hM hf) hS hj1 hj2 (fun I2 hf2 hM2 => bk_147_577 _ _ _ I2 J (i_t rfl ?_))
    rw [show nI i + (6 : Int32) = nI (i + 6) from e_i i 6]
    exact G _ _ _ _ _ _ _ _ I2 J hA (CL_fm hC1 hf2) hM2
theorem st_meets (hi : i + 6 ≤ L) (hL : L ≤ 3072) (G : LawG L xs i P) (hA : AVv n b w v th sn S kp) (hC : CL n b w v th sn S kp I J) (hM : MO n b w v th sn S kp I J) : am_To (am_XX L xs) 40 147 615 [some (.ref 1000), some (.ref 0), some (.ref 95), some (.int (nI i))] [] I J P := by
  have hw := hA.2.1.1
  refine bk_147_615 _ I J (x_i (i + 1) (nI_1 i) (x_i (i + 2) (e_i i 2) (meets_C hA hC (fun z => ?_) (fun j1 j2 I1 m o hj1 hj2 e1 e2 hS hf hC1 => ?_))))
  · refine bk_147_629 _ _ I J (x_i (i + 1) (nI_1 i) (x_i (i + 2) (e_i i 2) (bk_133_0 _ _ I J (arewords_m hM.2.1.1 hw (fun _ => bk_133_6 _ _ 0 I J (i_t rfl (bk_147_643 _ _ _ I J (i_t rfl ?_)))) (fun j1 j2 hj1 hj2 e1 e2 => absurd e2 (z j1 j2 hj1 hj2 e1))))))
    rw [show nI i + (6 : Int32) = nI (i + 6) from e_i i 6]
    exact G _ _ _ _ _ _ _ _ I J hA hC hM
  · refine bk_147_629 _ _ I1 J (x_i (i + 1) (nI_1 i) (x_i (i + 2) (e_i i 2) (?_)))
    rw [e1, e2]
    refine meets_M hA (MO_fc hM hf) hS hj1 hj2 (fun I2 hf2 hM2 => bk_147_643 _ _ _ I2 J (i_t rfl ?_))
    rw [show nI i + (6 : Int32) = nI (i + 6) from e_i i 6]
    exact G _ _ _ _ _ _ _ _ I2 J hA (CL_fm hC1 hf2) hM2
theorem st_way (hi : i + 6 ≤ L) (hL : L ≤ 3072) (G : LawG L xs i P) (hA : AVv n b w v th sn S kp) (hC : CL n b w v th sn S kp I J) (hM : MO n b w v th sn S kp I J) : am_To (am_XX L xs) 40 147 648 [some (.ref 1000), some (.ref 0), some (.ref 95), some (.int (nI i))] [] I J P := by
  have hw := hA.2.1.1
  refine bk_147_648 _ I J (x_i (i + 1) (nI_1 i) (x_i (i + 2) (e_i i 2) (way_C hA hC (fun z => ?_) (fun j1 j2 I1 m o hj1 hj2 e1 e2 hS hf hC1 => ?_))))
  · refine bk_147_662 _ _ I J (x_i (i + 1) (nI_1 i) (x_i (i + 2) (e_i i 2) (bk_135_0 _ _ I J (arewords_m hM.2.1.1 hw (fun _ => bk_135_6 _ _ 0 I J (i_t rfl (bk_147_676 _ _ _ I J (i_t rfl ?_)))) (fun j1 j2 hj1 hj2 e1 e2 => absurd e2 (z j1 j2 hj1 hj2 e1))))))
    rw [show nI i + (6 : Int32) = nI (i + 6) from e_i i 6]
    exact G _ _ _ _ _ _ _ _ I J hA hC hM
  · refine bk_147_662 _ _ I1 J (x_i (i + 1) (nI_1 i) (x_i (i + 2) (e_i i 2) (?_)))
    rw [e1, e2]
    refine way_M hA (MO_fc hM hf) hS hj1 hj2 (fun I2 hf2 hM2 => bk_147_676 _ _ _ I2 J (i_t rfl ?_))
    rw [show nI i + (6 : Int32) = nI (i + 6) from e_i i 6]
    exact G _ _ _ _ _ _ _ _ I2 J hA (CL_fm hC1 hf2) hM2
theorem st_shared (hi : i + 6 ≤ L) (hL : L ≤ 3072) (G : LawG L xs i P) (hA : AVv n b w v th sn S kp) (hC : CL n b w v th sn S kp I J) (hM : MO n b w v th sn S kp I J) : am_To (am_XX L xs) 40 147 681 [some (.ref 1000), some (.ref 0), some (.ref 95), some (.int (nI i))] [] I J P := by
  have hw := hA.2.1.1
  refine bk_147_681 _ I J (x_i (i + 1) (nI_1 i) (x_i (i + 2) (e_i i 2) (shared_C hA hC (fun z => ?_) (fun j1 j2 I1 m o hj1 hj2 e1 e2 hS hf hC1 => ?_))))
  · refine bk_147_695 _ _ I J (x_i (i + 1) (nI_1 i) (x_i (i + 2) (e_i i 2) (bk_136_0 _ _ I J (arewords_m hM.2.1.1 hw (fun _ => bk_136_6 _ _ 0 I J (i_t rfl (bk_147_709 _ _ _ I J (i_t rfl ?_)))) (fun j1 j2 hj1 hj2 e1 e2 => absurd e2 (z j1 j2 hj1 hj2 e1))))))
    rw [show nI i + (6 : Int32) = nI (i + 6) from e_i i 6]
    exact G _ _ _ _ _ _ _ _ I J hA hC hM
  · refine bk_147_695 _ _ I1 J (x_i (i + 1) (nI_1 i) (x_i (i + 2) (e_i i 2) (?_)))
    rw [e1, e2]
    refine shared_M hA (MO_fc hM hf) hS hj1 hj2 (fun I2 hf2 hM2 => bk_147_709 _ _ _ I2 J (i_t rfl ?_))
    rw [show nI i + (6 : Int32) = nI (i + 6) from e_i i 6]
    exact G _ _ _ _ _ _ _ _ I2 J hA (CL_fm hC1 hf2) hM2
theorem st_why (hi : i + 6 ≤ L) (hL : L ≤ 3072) (G : LawG L xs i P) (hA : AVv n b w v th sn S kp) (hC : CL n b w v th sn S kp I J) (hM : MO n b w v th sn S kp I J) : am_To (am_XX L xs) 40 147 516 [some (.ref 1000), some (.ref 0), some (.ref 95), some (.int (nI i))] [] I J P := by
  have hw := hA.2.1.1
  refine bk_147_516 _ I J (x_i (i + 1) (nI_1 i) (x_i (i + 2) (e_i i 2) (why_C hA hC (fun z => ?_) (fun j1 j2 I1 m o hj1 hj2 hne e1 e2 hS hf hC1 => ?_))))
  · refine bk_147_530 _ _ I J (x_i (i + 1) (nI_1 i) (x_i (i + 2) (e_i i 2) (?_)))
    have fin : am_To (am_XX L xs) 40 147 544 [some (.ref 1000), some (.ref 0), some (.ref 95), some (.int (nI i))] [.int (-1), .int (-1)] I J P := by
      refine bk_147_544 _ _ _ I J (i_t rfl ?_)
      rw [show nI i + (6 : Int32) = nI (i + 6) from e_i i 6]
      exact G _ _ _ _ _ _ _ _ I J hA hC hM
    refine bk_129_0 _ _ I J (arewords_m hM.2.1.1 hw (fun _ => bk_129_6 _ _ 0 I J (i_t rfl fin)) (fun j1 j2 hj1 hj2 e1 e2 => bk_129_6 _ _ 1 I J (i_f (by decide) (i_eq j1 j2 e1 e2 (fun _ => fin) (fun c => absurd e2 (z j1 j2 hj1 hj2 c e1))))))
  · refine bk_147_530 _ _ I1 J (x_i (i + 1) (nI_1 i) (x_i (i + 2) (e_i i 2) (?_)))
    rw [e1, e2]
    refine why_M hA (MO_fc hM hf) hS hj1 hj2 hne (fun I2 hf2 hM2 => bk_147_544 _ _ _ I2 J (i_t rfl ?_))
    rw [show nI i + (6 : Int32) = nI (i + 6) from e_i i 6]
    exact G _ _ _ _ _ _ _ _ I2 J hA (CL_fm hC1 hf2) hM2
theorem st_sum (hi : i + 6 ≤ L) (hL : L ≤ 3072) (G : LawG L xs i P) (hA : AVv n b w v th sn S kp) (hC : CL n b w v th sn S kp I J) (hM : MO n b w v th sn S kp I J) : am_To (am_XX L xs) 40 147 737 [some (.ref 1000), some (.ref 0), some (.ref 95), some (.int (nI i))] [] I J P := by
  have hw := hA.2.1.1
  refine bk_147_737 _ I J (sum_C hA hC (fun I1 m o hS hf hC1 => bk_147_741 _ _ I1 J (sum_M hA (MO_fc hM hf) hS (fun I2 hf2 hM2 => bk_147_745 _ _ _ I2 J (i_t rfl ?_)))))
  rw [show nI i + (6 : Int32) = nI (i + 6) from e_i i 6]
  exact G _ _ _ _ _ _ _ _ I2 J hA (CL_fm hC1 hf2) hM2
theorem st_signs (hi : i + 6 ≤ L) (hL : L ≤ 3072) (G : LawG L xs i P) (hA : AVv n b w v th sn S kp) (hC : CL n b w v th sn S kp I J) (hM : MO n b w v th sn S kp I J) : am_To (am_XX L xs) 40 147 245 [some (.ref 1000), some (.ref 0), some (.ref 95), some (.int (nI i))] [] I J P := by
  have hw := hA.2.1.1
  refine bk_147_245 _ I J (x_i (i + 1) (nI_1 i) (signs_C hC.2.2.1 (fun z => ?_) (fun T hT ht eT => ?_)))
  · refine bk_147_254 _ _ I J (x_i (i + 1) (nI_1 i) (signs_M hM.2.2.1 (fun _ => bk_147_263 _ _ _ I J (i_t rfl ?_)) (fun T hT ht e => absurd e (z T hT ht))))
    rw [show nI i + (6 : Int32) = nI (i + 6) from e_i i 6]
    exact G _ _ _ _ _ _ _ _ I J hA hC hM
  · refine bk_147_254 _ _ I J (x_i (i + 1) (nI_1 i) (signs_M hM.2.2.1 (fun z => absurd eT (z T hT ht)) (fun T2 hT2 ht2 eT2 => bk_147_263 _ _ _ I J (i_t ?_ ?_))))
    · rw [(nI_eq (by omega) (by omega)).mp (eT.symm.trans eT2)]
    · rw [show nI i + (6 : Int32) = nI (i + 6) from e_i i 6]
      exact G _ _ _ _ _ _ _ _ I J hA hC hM
theorem st_letter (hi : i + 6 ≤ L) (hL : L ≤ 3072) (G : LawG L xs i P) (hA : AVv n b w v th sn S kp) (hC : CL n b w v th sn S kp I J) (hM : MO n b w v th sn S kp I J) : am_To (am_XX L xs) 40 147 291 [some (.ref 1000), some (.ref 0), some (.ref 95), some (.int (nI i))] [] I J P := by
  have hw := hA.2.1.1
  refine bk_147_291 _ I J (x_i (i + 1) (nI_1 i) (x_i (i + 2) (e_i i 2) (letter_C hA.2.1 hC.2.1 (fun z => ?_) (fun j N hj ej hN1 hN8 hN => ?_))))
  · refine bk_147_305 _ _ I J (x_i (i + 1) (nI_1 i) (x_i (i + 2) (e_i i 2) (letter_M hA.2.1 hM.2.1 (fun _ => bk_147_319 _ _ _ I J (i_t rfl ?_)) (fun j N hj ej => absurd ej (z j hj)))))
    rw [show nI i + (6 : Int32) = nI (i + 6) from e_i i 6]
    exact G _ _ _ _ _ _ _ _ I J hA hC hM
  · refine bk_147_305 _ _ I J (x_i (i + 1) (nI_1 i) (x_i (i + 2) (e_i i 2) (letter_M hA.2.1 hM.2.1 (fun z => absurd ej (z j hj)) (fun j2 N2 hj2 ej2 hN12 hN82 hN2 => bk_147_319 _ _ _ I J (i_t ?_ ?_)))))
    · have e1 : j2 = j := (nI_eq (by omega) (by omega)).mp (ej2.symm.trans ej)
      subst e1
      have e2 : N2 = N := by
        have q1 := (hN N2).mp ((hN2 N2).mpr (Nat.le_refl N2))
        have q2 := (hN2 N).mp ((hN N).mpr (Nat.le_refl N))
        omega
      rw [e2]
    · rw [show nI i + (6 : Int32) = nI (i + 6) from e_i i 6]
      exact G _ _ _ _ _ _ _ _ I J hA hC hM
theorem st_weight (hi : i + 6 ≤ L) (hL : L ≤ 3072) (G : LawG L xs i P) (hA : AVv n b w v th sn S kp) (hC : CL n b w v th sn S kp I J) (hM : MO n b w v th sn S kp I J) : am_To (am_XX L xs) 40 147 387 [some (.ref 1000), some (.ref 0), some (.ref 95), some (.int (nI i))] [] I J P := by
  have hw := hA.2.1.1
  refine bk_147_387 _ I J (x_i (i + 1) (nI_1 i) (x_i (i + 2) (e_i i 2) (x_i (i + 3) (e_i i 3) (weight_C hC.2.1.1 hw hC.2.2.2.1 (fun z => ?_) (fun k x y A => ?_)))))
  · refine bk_147_406 _ _ I J (x_i (i + 1) (nI_1 i) (x_i (i + 2) (e_i i 2) (x_i (i + 3) (e_i i 3) (weight_M hA.2.2.1 hM.2.1.1 hw hM.2.2.1 (fun _ => bk_147_425 _ _ _ I J (i_t rfl ?_)) (fun k x y A => absurd A (z k x y))))))
    rw [show nI i + (6 : Int32) = nI (i + 6) from e_i i 6]
    exact G _ _ _ _ _ _ _ _ I J hA hC hM
  · refine bk_147_406 _ _ I J (x_i (i + 1) (nI_1 i) (x_i (i + 2) (e_i i 2) (x_i (i + 3) (e_i i 3) (weight_M hA.2.2.1 hM.2.1.1 hw hM.2.2.1 (fun z => absurd A (z k x y)) (fun k2 x2 y2 A2 => bk_147_425 _ _ _ I J (i_t ?_ ?_))))))
    · obtain ⟨q1, q2, q3⟩ := LinkA_one hw A A2
      rw [q1, q2, q3]
    · rw [show nI i + (6 : Int32) = nI (i + 6) from e_i i 6]
      exact G _ _ _ _ _ _ _ _ I J hA hC hM
theorem st_reason (hi : i + 6 ≤ L) (hL : L ≤ 3072) (G : LawG L xs i P) (hA : AVv n b w v th sn S kp) (hC : CL n b w v th sn S kp I J) (hM : MO n b w v th sn S kp I J) : am_To (am_XX L xs) 40 147 430 [some (.ref 1000), some (.ref 0), some (.ref 95), some (.int (nI i))] [] I J P := by
  have hw := hA.2.1.1
  refine bk_147_430 _ I J (x_i (i + 1) (nI_1 i) (x_i (i + 2) (e_i i 2) (x_i (i + 3) (e_i i 3) (x_i (i + 4) (e_i i 4) (x_i (i + 5) (e_i i 5) (reason_C hA.2.2.1 hC.2.1.1 hw hC.2.2.1 (fun z => ?_) (fun k x y l A hl el => ?_)))))))
  · refine bk_147_459 _ _ I J (x_i (i + 1) (nI_1 i) (x_i (i + 2) (e_i i 2) (x_i (i + 3) (e_i i 3) (x_i (i + 4) (e_i i 4) (x_i (i + 5) (e_i i 5) (reason_M hA.2.2.1 hM.2.1.1 hw hM.2.2.1 (fun _ => bk_147_488 _ _ _ I J (i_t rfl ?_)) (fun k x y l A hl el => ?_)))))))
    · rw [show nI i + (6 : Int32) = nI (i + 6) from e_i i 6]
      exact G _ _ _ _ _ _ _ _ I J hA hC hM
    · rcases z with z | z
      · exact absurd A (z k x y)
      · rw [el] at z
        exact absurd z (nI_pos hl)
  · refine bk_147_459 _ _ I J (x_i (i + 1) (nI_1 i) (x_i (i + 2) (e_i i 2) (x_i (i + 3) (e_i i 3) (x_i (i + 4) (e_i i 4) (x_i (i + 5) (e_i i 5) (reason_M hA.2.2.1 hM.2.1.1 hw hM.2.2.1 (fun z => ?_) (fun k2 x2 y2 l2 A2 hl2 el2 => bk_147_488 _ _ _ I J (i_t ?_ ?_))))))))
    · rcases z with z | z
      · exact absurd A (z k x y)
      · rw [el] at z
        exact absurd z (nI_pos hl)
    · obtain ⟨q1, q2, q3⟩ := LinkA_one hw A A2
      rw [q1, q2, q3, (nI_eq hl2 hl).mp (el2.symm.trans el)]
    · rw [show nI i + (6 : Int32) = nI (i + 6) from e_i i 6]
      exact G _ _ _ _ _ _ _ _ I J hA hC hM
theorem st_best (hi : i + 6 ≤ L) (hL : L ≤ 3072) (G : LawG L xs i P) (hA : AVv n b w v th sn S kp) (hC : CL n b w v th sn S kp I J) (hM : MO n b w v th sn S kp I J) : am_To (am_XX L xs) 40 147 750 [some (.ref 1000), some (.ref 0), some (.ref 95), some (.int (nI i))] [] I J P := by
  have hw := hA.2.1.1
  refine bk_147_750 _ I J (x_i (i + 1) (nI_1 i) (best_C hA hC (fun z => ?_) (fun u g I1 hS hB hf hC1 => ?_)))
  · refine bk_147_759 _ _ I J (x_i (i + 1) (nI_1 i) (best_M0 hA hM z (fun I2 hf2 hM2 => bk_147_768 _ _ _ I2 J (i_t rfl ?_))))
    rw [show nI i + (6 : Int32) = nI (i + 6) from e_i i 6]
    exact G _ _ _ _ _ _ _ _ I2 J hA (CL_fm hC hf2) hM2
  · refine bk_147_759 _ _ I1 J (x_i (i + 1) (nI_1 i) (best_M hA (MO_fc hM hf) hS (fun g2 I2 hB2 hf2 hM2 => bk_147_768 _ _ _ I2 J (i_t ?_ ?_))))
    · rw [best_one hB hB2]
    · rw [show nI i + (6 : Int32) = nI (i + 6) from e_i i 6]
      exact G _ _ _ _ _ _ _ _ I2 J hA (CL_fm hC1 hf2) hM2
theorem st_over (hi : i + 6 ≤ L) (hL : L ≤ 3072) (G : LawG L xs i P) (hA : AVv n b w v th sn S kp) (hC : CL n b w v th sn S kp I J) (hM : MO n b w v th sn S kp I J) : am_To (am_XX L xs) 40 147 786 [some (.ref 1000), some (.ref 0), some (.ref 95), some (.int (nI i))] [] I J P := by
  have hw := hA.2.1.1
  refine bk_147_786 _ I J (x_i (i + 1) (nI_1 i) (over_C hA hC (fun hk => ?_) (fun p hk z I1 hf hC1 => ?_) (fun p q I1 m o hk hq eq hS hf hC1 => ?_)))
  · refine bk_147_795 _ _ I J (x_i (i + 1) (nI_1 i) (over_M0 hA hM (Or.inl hk) (bk_147_804 _ _ _ I J (i_t rfl ?_))))
    rw [show nI i + (6 : Int32) = nI (i + 6) from e_i i 6]
    exact G _ _ _ _ _ _ _ _ I J hA hC hM
  · refine bk_147_795 _ _ I1 J (x_i (i + 1) (nI_1 i) (over_M0 hA (MO_fc hM hf) (Or.inr z) (bk_147_804 _ _ _ I1 J (i_t rfl ?_))))
    rw [show nI i + (6 : Int32) = nI (i + 6) from e_i i 6]
    exact G _ _ _ _ _ _ _ _ I1 J hA hC1 (MO_fc hM hf)
  · refine bk_147_795 _ _ I1 J (x_i (i + 1) (nI_1 i) (?_))
    rw [eq]
    refine over_M hA (MO_fc hM hf) hk hq hS (fun I2 hf2 hM2 => bk_147_804 _ _ _ I2 J (i_t rfl ?_))
    rw [show nI i + (6 : Int32) = nI (i + 6) from e_i i 6]
    exact G _ _ _ _ _ _ _ _ I2 J hA (CL_fm hC1 hf2) hM2
theorem st_count (hi : i + 6 ≤ L) (hL : L ≤ 3072) (G : LawG L xs i P) (hA : AVv n b w v th sn S kp) (hC : CL n b w v th sn S kp I J) (hM : MO n b w v th sn S kp I J) : am_To (am_XX L xs) 40 147 809 [some (.ref 1000), some (.ref 0), some (.ref 95), some (.int (nI i))] [] I J P := by
  have hw := hA.2.1.1
  refine bk_147_809 _ I J (x_i (i + 1) (nI_1 i) (count_C hA hC (fun z => ?_) (fun q hq eq => ?_) (fun eq I1 m o hS hf hC1 => ?_) (fun eq I1 m o hS hf hC1 => ?_)))
  · refine bk_147_818 _ _ I J (x_i (i + 1) (nI_1 i) (count_M0 z (bk_147_827 _ _ _ I J (i_t rfl ?_))))
    rw [show nI i + (6 : Int32) = nI (i + 6) from e_i i 6]
    exact G _ _ _ _ _ _ _ _ I J hA hC hM
  · refine bk_147_818 _ _ I J (x_i (i + 1) (nI_1 i) (?_))
    rw [eq]
    refine count_M1 hM hq (bk_147_827 _ _ _ I J (i_t rfl ?_))
    rw [show nI i + (6 : Int32) = nI (i + 6) from e_i i 6]
    exact G _ _ _ _ _ _ _ _ I J hA hC hM
  · refine bk_147_818 _ _ I1 J (x_i (i + 1) (nI_1 i) (?_))
    rw [eq]
    refine count_M4 hA (MO_fc hM hf) hS (fun I2 hf2 hM2 => bk_147_827 _ _ _ I2 J (i_t rfl ?_))
    rw [show nI i + (6 : Int32) = nI (i + 6) from e_i i 6]
    exact G _ _ _ _ _ _ _ _ I2 J hA (CL_fm hC1 hf2) hM2
  · refine bk_147_818 _ _ I1 J (x_i (i + 1) (nI_1 i) (?_))
    rw [eq]
    refine count_M5 hA (MO_fc hM hf) hS (fun I2 hf2 hM2 => bk_147_827 _ _ _ I2 J (i_t rfl ?_))
    rw [show nI i + (6 : Int32) = nI (i + 6) from e_i i 6]
    exact G _ _ _ _ _ _ _ _ I2 J hA (CL_fm hC1 hf2) hM2
end
