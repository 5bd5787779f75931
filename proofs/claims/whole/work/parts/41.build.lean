/-! BUILD: clear, places, neighbours; currentTree -/
/-- neighbours -/
def nbr (par : Nat → Option Nat) (AL : Nat → Nat → Nat) (a b : Nat) : Prop := a ≠ b ∧ a < 24 ∧ b < 24 ∧ (par a = some b ∨ par b = some a ∨ 0 < AL a b)
def NRr (R : Nat → Nat → Prop) (I : am_I) : Prop := ∀ a, a < 24 → ∃ u, u < 2 ^ 24 ∧ I 71 a = nI u ∧ ∀ b, u.testBit b = true ↔ R a b
theorem NRr_ext {R R' : Nat → Nat → Prop} {I : am_I} (h : NRr R I) (he : ∀ a b, a < 24 → (R a b ↔ R' a b)) : NRr R' I := fun a ha => by
  obtain ⟨u, h1, h2, h3⟩ := h a ha
  exact ⟨u, h1, h2, fun b => (h3 b).trans (he a b ha)⟩
theorem NRr_fr {R : Nat → Nat → Prop} {I I' : am_I} (h : NRr R I) (he : I' 71 = I 71) : NRr R I' := by
  unfold NRr at *
  rw [he]
  exact h
def Rr (par : Nat → Option Nat) (AL : Nat → Nat → Nat) (i a b : Nat) : Prop := ∃ k, k < i ∧ ((par k = some b ∧ a = k) ∨ (par k = some a ∧ b = k) ∨ (a = k ∧ k < b ∧ b < 24 ∧ 0 < AL k b) ∨ (b = k ∧ k < a ∧ a < 24 ∧ 0 < AL k a))
def Rj (par : Nat → Option Nat) (AL : Nat → Nat → Nat) (i j a b : Nat) : Prop := Rr par AL i a b ∨ (par i = some b ∧ a = i) ∨ (par i = some a ∧ b = i) ∨ (a = i ∧ i < b ∧ b < j ∧ 0 < AL i b) ∨ (b = i ∧ i < a ∧ a < j ∧ 0 < AL i a)
theorem Rj_end {par : Nat → Option Nat} {AL : Nat → Nat → Nat} {i a b : Nat} : Rj par AL i 24 a b ↔ Rr par AL (i + 1) a b := by
  constructor
  · rintro (⟨k, h1, h2⟩ | h | h | h | h)
    · exact ⟨k, by omega, h2⟩
    · exact ⟨i, by omega, Or.inl h⟩
    · exact ⟨i, by omega, Or.inr (Or.inl h)⟩
    · exact ⟨i, by omega, Or.inr (Or.inr (Or.inl h))⟩
    · exact ⟨i, by omega, Or.inr (Or.inr (Or.inr h))⟩
  · rintro ⟨k, h1, h2⟩
    by_cases e : k = i
    · subst e
      exact Or.inr h2
    · exact Or.inl ⟨k, by omega, h2⟩
theorem Rr_end {par : Nat → Option Nat} {AL : Nat → Nat → Nat} (hp : ∀ y x, par y = some x → y < 24 ∧ x < 24 ∧ x ≠ y) (hA : ∀ a b, AL a b = AL b a) {a b : Nat} (ha : a < 24) : Rr par AL 24 a b ↔ nbr par AL a b := by
  constructor
  · rintro ⟨k, h1, ⟨h2, h3⟩ | ⟨h2, h3⟩ | ⟨h2, h3, h4, h5⟩ | ⟨h2, h3, h4, h5⟩⟩
    · subst h3
      obtain ⟨q1, q2, q3⟩ := hp _ _ h2
      exact ⟨fun e => q3 e.symm, q1, q2, Or.inl h2⟩
    · subst h3
      obtain ⟨q1, q2, q3⟩ := hp _ _ h2
      exact ⟨q3, q2, q1, Or.inr (Or.inl h2)⟩
    · subst h2
      exact ⟨by omega, h1, h4, Or.inr (Or.inr h5)⟩
    · subst h2
      refine ⟨by omega, h4, h1, Or.inr (Or.inr ?_)⟩
      rw [hA]
      exact h5
  · rintro ⟨h1, h2, h3, h4 | h4 | h4⟩
    · exact ⟨a, h2, Or.inl ⟨h4, rfl⟩⟩
    · exact ⟨b, h3, Or.inr (Or.inl ⟨h4, rfl⟩)⟩
    · rcases Nat.lt_or_ge a b with c | c
      · exact ⟨a, h2, Or.inr (Or.inr (Or.inl ⟨rfl, c, h3, h4⟩))⟩
      · refine ⟨b, h3, Or.inr (Or.inr (Or.inr ⟨rfl, by omega, h2, ?_⟩))⟩
        rw [hA]
        exact h4
/-- a tree that stands -/
def TFc (W : Nat → Nat) (NT : Nat → Nat → Prop) (AL : Nat → Nat → Nat) (I : am_I) : Prop := ∃ n o, Srt W 576 n o ∧ TRr (trr W NT o n) I ∧ I 66 5 = nI n ∧ NRr (nbr (tP (trr W NT o n)) AL) I
section
variable {L : Nat} {xs : Nat → Int32} {d : Nat} {P : Option Value → am_I → am_J → Prop} {I : am_I} {J : am_J} {W : Nat → Nat} {NT : Nat → Nat → Prop} {s : TS} {i j : Nat} {R : Nat → Nat → Prop} {AL : Nat → Nat → Nat} {par : Nat → Option Nat}
theorem makenear_c (hR : NRr R I) (hi : i < 24) (hj : j < 24) (hij : i ≠ j) (h : ∀ I', (∀ g, g ≠ 71 → I' g = I g) → NRr (fun a b => R a b ∨ (a = i ∧ b = j) ∨ (a = j ∧ b = i)) I' → P none I' J) : am_To (am_XX L xs) d 66 0 [some (.ref 66), some (.int (nI i)), some (.int (nI j))] [] I J P := by
  obtain ⟨u, u1, u2, u3⟩ := hR i hi
  obtain ⟨v, v1, v2, v3⟩ := hR j hj
  refine bk_66_0 _ _ I J (x_i i rfl (x_i i rfl (x_i j rfl (x_i j rfl ?_))))
  rw [u2, am_up_k (fun q => hij q.symm), v2, one_shl (by omega), one_shl (by omega), fa_or, fa_or]
  refine h _ (fun g hg => by rw [am_up_row hg, am_up_row hg]) (fun a ha => ?_)
  by_cases e1 : a = j
  · subst e1
    refine ⟨v ||| 2 ^ i, Nat.or_lt_two_pow v1 (Nat.pow_lt_pow_right (by decide) hi), am_up_s, fun b => ?_⟩
    rw [fb_bit_set, Bool.or_eq_true, decide_eq_true_iff, v3 b]
    constructor
    · rintro (q | q)
      · exact Or.inl q
      · exact Or.inr (Or.inr ⟨rfl, q⟩)
    · rintro (q | ⟨q, -⟩ | ⟨-, q⟩)
      · exact Or.inl q
      · exact absurd q.symm hij
      · exact Or.inr q
  · by_cases e2 : a = i
    · subst e2
      refine ⟨u ||| 2 ^ j, Nat.or_lt_two_pow u1 (Nat.pow_lt_pow_right (by decide) hj), by rw [am_up_k e1, am_up_s], fun b => ?_⟩
      rw [fb_bit_set, Bool.or_eq_true, decide_eq_true_iff, u3 b]
      constructor
      · rintro (q | q)
        · exact Or.inl q
        · exact Or.inr (Or.inl ⟨rfl, q⟩)
      · rintro (q | ⟨-, q⟩ | ⟨q, -⟩)
        · exact Or.inl q
        · exact Or.inr q
        · exact absurd q hij
    · obtain ⟨x, x1, x2, x3⟩ := hR a ha
      refine ⟨x, x1, by rw [am_up_k e1, am_up_k e2]; exact x2, fun b => ?_⟩
      rw [x3 b]
      constructor
      · exact Or.inl
      · rintro (q | ⟨q, -⟩ | ⟨q, -⟩)
        · exact q
        · exact absurd q e2
        · exact absurd q e1
theorem findnears_c (hF : FV par (tA s)) (hp : ∀ y, y < 24 → I 69 y = oI (par y)) (hAL : ∀ a b, a < 24 → b < 24 → a ≠ b → I 64 (cl 2 a b) = nI (AL a b)) (hB : ∀ a b, AL a b < 2 ^ 31) (hi : i < 24) (hR : NRr (Rr par AL i) I) (h : ∀ I', (∀ g, g ≠ 71 → I' g = I g) → NRr (Rr par AL (i + 1)) I' → P none I' J) : am_To (am_XX L xs) (d + 1) 65 0 [some (.ref 66), some (.int (nI i)), some (.ref 64), none] [] I J P := by
  have lp : ∀ (m j : Nat) (I1 : am_I), j + m = 24 → i < j → (∀ g, g ≠ 71 → I1 g = I g) → NRr (Rj par AL i j) I1 → am_To (am_XX L xs) (d + 1) 65 25 [some (.ref 66), some (.int (nI i)), some (.ref 64), some (.int (nI j))] [] I1 J P := by
    intro m
    induction m with
    | zero =>
      intro j I1 hj hij f1 hR1
      have e : j = 24 := by omega
      subst e
      exact bk_65_25 _ _ I1 J (i_t (by decide) (h I1 f1 (NRr_ext hR1 (fun a b _ => Rj_end))))
    | succ m ih =>
      intro j I1 hj hij f1 hR1
      have hBj := hB i j
      have hc : cl 2 i j < 1728 := by
        unfold cl
        split <;> omega
      refine bk_65_25 _ _ I1 J (i_le 24 j rfl rfl (fun c => by omega) (fun _ => cellof_c (k := 2) rfl rfl rfl (by omega) (by omega) (by omega) (bk_65_38 _ _ _ I1 J (x_i _ rfl ?_))))
      rw [f1 64 (by decide)]
      refine i_le (AL i j) 0 (hAL i j hi (by omega) (by omega)) rfl (fun c => ?_) (fun c => ?_)
      · rw [nI_1]
        refine ih (j + 1) I1 (by omega) (by omega) f1 (NRr_ext hR1 (fun a b _ => ?_))
        constructor
        · rintro (q | q | q | ⟨q1, q2, q3, q4⟩ | ⟨q1, q2, q3, q4⟩)
          · exact Or.inl q
          · exact Or.inr (Or.inl q)
          · exact Or.inr (Or.inr (Or.inl q))
          · exact Or.inr (Or.inr (Or.inr (Or.inl ⟨q1, q2, by omega, q4⟩)))
          · exact Or.inr (Or.inr (Or.inr (Or.inr ⟨q1, q2, by omega, q4⟩)))
        · rintro (q | q | q | ⟨q1, q2, q3, q4⟩ | ⟨q1, q2, q3, q4⟩)
          · exact Or.inl q
          · exact Or.inr (Or.inl q)
          · exact Or.inr (Or.inr (Or.inl q))
          · refine Or.inr (Or.inr (Or.inr (Or.inl ⟨q1, q2, ?_, q4⟩)))
            rcases Nat.lt_or_ge b j with z | z
            · exact z
            · have e : b = j := by omega
              subst e
              omega
          · refine Or.inr (Or.inr (Or.inr (Or.inr ⟨q1, q2, ?_, q4⟩)))
            rcases Nat.lt_or_ge a j with z | z
            · exact z
            · have e : a = j := by omega
              subst e
              omega
      · refine makenear_c hR1 hi (by omega) (by omega) (fun I2 g1 hR2 => bk_65_48 _ _ I2 J ?_)
        rw [nI_1]
        refine ih (j + 1) I2 (by omega) (by omega) (fun g hg => (g1 g hg).trans (f1 g hg)) (NRr_ext hR2 (fun a b _ => ?_))
        constructor
        · rintro ((q | q | q | ⟨q1, q2, q3, q4⟩ | ⟨q1, q2, q3, q4⟩) | ⟨q1, q2⟩ | ⟨q1, q2⟩)
          · exact Or.inl q
          · exact Or.inr (Or.inl q)
          · exact Or.inr (Or.inr (Or.inl q))
          · exact Or.inr (Or.inr (Or.inr (Or.inl ⟨q1, q2, by omega, q4⟩)))
          · exact Or.inr (Or.inr (Or.inr (Or.inr ⟨q1, q2, by omega, q4⟩)))
          · exact Or.inr (Or.inr (Or.inr (Or.inl ⟨q1, by omega, by omega, by rw [q2]; exact c⟩)))
          · exact Or.inr (Or.inr (Or.inr (Or.inr ⟨q2, by omega, by omega, by rw [q1]; exact c⟩)))
        · rintro (q | q | q | ⟨q1, q2, q3, q4⟩ | ⟨q1, q2, q3, q4⟩)
          · exact Or.inl (Or.inl q)
          · exact Or.inl (Or.inr (Or.inl q))
          · exact Or.inl (Or.inr (Or.inr (Or.inl q)))
          · rcases Nat.lt_or_ge b j with z | z
            · exact Or.inl (Or.inr (Or.inr (Or.inr (Or.inl ⟨q1, q2, z, q4⟩))))
            · exact Or.inr (Or.inl ⟨q1, by omega⟩)
          · rcases Nat.lt_or_ge a j with z | z
            · exact Or.inl (Or.inr (Or.inr (Or.inr (Or.inr ⟨q1, q2, z, q4⟩))))
            · exact Or.inr (Or.inr ⟨by omega, q1⟩)
  have g21 : ∀ I1, (∀ g, g ≠ 71 → I1 g = I g) → NRr (Rj par AL i (i + 1)) I1 → am_To (am_XX L xs) (d + 1) 65 21 [some (.ref 66), some (.int (nI i)), some (.ref 64), none] [] I1 J P := fun I1 f1 hR1 => by
    refine bk_65_21 _ I1 J ?_
    rw [nI_1]
    exact lp (24 - (i + 1)) (i + 1) I1 (by omega) (by omega) f1 hR1
  refine bk_65_0 _ I J (x_i i rfl ?_)
  rw [hp i hi]
  refine i_c (oI_m1 (fun a q => by have := (hF.1 _ _ q).2.1; omega)) (fun c => ?_) (fun c => x_i i rfl ?_)
  · refine g21 I (fun _ _ => rfl) (NRr_ext hR (fun a b _ => ?_))
    constructor
    · exact Or.inl
    · rintro (q | ⟨q, -⟩ | ⟨q, -⟩ | ⟨q1, q2, q3, q4⟩ | ⟨q1, q2, q3, q4⟩)
      · exact q
      · rw [c] at q
        cases q
      · rw [c] at q
        cases q
      · omega
      · omega
  · rw [hp i hi]
    cases hq : par i with
    | none => exact absurd hq c
    | some x =>
      obtain ⟨q1, q2, q3⟩ := hF.1 i x hq
      have hne : i ≠ x := fun e => by
        have := (q3 i).mpr (Or.inl e)
        rw [hF.2.2.1 i] at this
        cases this
      refine makenear_c hR hi q2 hne (fun I1 f1 hR1 => g21 I1 f1 (NRr_ext hR1 (fun a b _ => ?_)))
      constructor
      · rintro (q | ⟨e1, e2⟩ | ⟨e1, e2⟩)
        · exact Or.inl q
        · exact Or.inr (Or.inl ⟨by rw [e2]; exact hq, e1⟩)
        · exact Or.inr (Or.inr (Or.inl ⟨by rw [e1]; exact hq, e2⟩))
      · rintro (q | ⟨e1, e2⟩ | ⟨e1, e2⟩ | ⟨e1, e2, e3, e4⟩ | ⟨e1, e2, e3, e4⟩)
        · exact Or.inl q
        · rw [hq] at e1
          cases e1
          exact Or.inr (Or.inl ⟨e2, rfl⟩)
        · rw [hq] at e1
          cases e1
          exact Or.inr (Or.inr ⟨rfl, e2⟩)
        · omega
        · omega
theorem clear_c (h : ∀ I', (∀ g, g ≠ 66 → g ≠ 68 → g ≠ 69 → g ≠ 70 → g ≠ 71 → I' g = I g) → TRr (fun _ => none, fun _ => 0, fun _ => 1, 0, 0) I' → I' 66 5 = 0 → (∀ a, a < 24 → I' 71 a = 0) → P none I' J) : am_To (am_XX L xs) (d + 2) 56 0 [some (.ref 66)] [] I J P := by
  refine bk_56_0 I J (bk_57_0 I J 7 (by decide) (fill_c (t := 0) (by decide) (fun I1 f1 v1 => bk_57_8 I1 J (bk_56_7 I1 J (fill_c (t := 1) (by decide) (fun I2 f2 v2 => bk_56_15 I2 J (fill_c (t := 2) (by decide) (fun I3 f3 v3 => bk_56_23 I3 J (fill_c (t := 3) (by decide) (fun I4 f4 v4 => bk_56_31 I4 J ?_))))))))))
  have f1' : ∀ g, g ≠ 68 → I1 g = I g := f1
  have f2' : ∀ g, g ≠ 69 → I2 g = I1 g := f2
  have f3' : ∀ g, g ≠ 70 → I3 g = I2 g := f3
  have f4' : ∀ g, g ≠ 71 → I4 g = I3 g := f4
  refine h _ (fun g k1 k2 k3 k4 k5 => ?_) ⟨fun y hy => ?_, fun y hy => ?_, fun y hy => ?_, ?_, am_up_s⟩ ?_ (fun a ha => ?_)
  · rw [am_up_row k1, am_up_row k1, am_up_row k1, f4' g k5, f3' g k4, f2' g k3, f1' g k2]
  · rw [am_up_h (by decide), am_up_h (by decide), am_up_h (by decide), f4' 69 (by decide), f3' 69 (by decide)]
    exact v2 y hy
  · rw [am_up_h (by decide), am_up_h (by decide), am_up_h (by decide), f4' 68 (by decide), f3' 68 (by decide), f2' 68 (by decide)]
    exact v1 y hy
  · rw [am_up_h (by decide), am_up_h (by decide), am_up_h (by decide), f4' 70 (by decide)]
    exact v3 y hy
  · rw [am_up_k (by decide), am_up_s]
    rfl
  · rw [am_up_k (by decide), am_up_k (by decide), am_up_s]
  · rw [am_up_h (by decide), am_up_h (by decide), am_up_h (by decide)]
    exact v4 a ha
theorem TRr_fr {I' : am_I} (h : TRr s I) (h1 : I' 69 = I 69) (h2 : I' 68 = I 68) (h3 : I' 70 = I 70) (h4 : I' 66 6 = I 66 6) (h5 : I' 66 7 = I 66 7) : TRr s I' := by
  unfold TRr at *
  rw [h1, h2, h3, h4, h5]
  exact h
theorem build_c (hW : WV0 W) (hN : ∀ p q, NT p q → q < 24) (hB : BNc NT I) (hWr : ∀ c, c < 576 → I 64 c = nI (W c)) (hAL : ∀ a b, a < 24 → b < 24 → a ≠ b → I 64 (cl 2 a b) = nI (AL a b)) (hAs : ∀ a b, AL a b = AL b a) (hA31 : ∀ a b, AL a b < 2 ^ 31) (h : ∀ I', (∀ g, g ≠ 66 → g ≠ 68 → g ≠ 69 → g ≠ 70 → g ≠ 71 → g ≠ 72 → I' g = I g) → TFc W NT AL I' → P none I' J) : am_To (am_XX L xs) (d + 4) 55 0 [some (.ref 66), some (.ref 64), some (.ref 65), none] [] I J P := by
  have hW31 : ∀ c, W c < 2 ^ 31 := fun c => by have := hW.1 c; omega
  refine bk_55_0 I J (clear_c (fun I1 f1 hT1 h51 h71 => bk_55_4 I1 J ?_))
  refine order_c (W := W) (fun c hc => by rw [f1 64 (by decide) (by decide) (by decide) (by decide) (by decide)]; exact hWr c hc) hW31 h51 (fun I2 n o hS f2 f2b h52 h72 => bk_55_9 I2 J ?_)
  have hn := srt_n hS
  -- the neighbours
  have lp2 : ∀ (m i : Nat) (I3 : am_I), i + m = 24 → (∀ g, g ≠ 66 → g ≠ 68 → g ≠ 69 → g ≠ 70 → g ≠ 71 → g ≠ 72 → I3 g = I g) → TRr (trr W NT o n) I3 → I3 66 5 = nI n → NRr (Rr (tP (trr W NT o n)) AL i) I3 → am_To (am_XX L xs) (d + 4) 55 46 [some (.ref 66), some (.ref 64), none, some (.int (nI i))] [] I3 J P := by
    have hv := (trr_v (NT := NT) hW hS n (Nat.le_refl n)).1
    intro m
    induction m with
    | zero =>
      intro i I3 hi f3 hT h5 hR
      have e : i = 24 := by omega
      subst e
      refine bk_55_46 _ I3 J (i_t (by decide) (h I3 f3 ⟨n, o, hS, hT, h5, NRr_ext hR (fun a b ha => Rr_end (fun y x q => ?_) hAs ha)⟩))
      obtain ⟨q1, q2, q3⟩ := hv.1 y x q
      refine ⟨q1, q2, fun e => ?_⟩
      have := (q3 y).mpr (Or.inl e.symm)
      rw [hv.2.2.1 y] at this
      cases this
    | succ m ih =>
      intro i I3 hi f3 hT h5 hR
      refine bk_55_46 _ I3 J (i_le 24 i rfl rfl (fun c => by omega) (fun _ => ?_))
      refine findnears_c (s := trr W NT o n) hv hT.1 (fun a b ha hb hab => by rw [f3 64 (by decide) (by decide) (by decide) (by decide) (by decide) (by decide)]; exact hAL a b ha hb hab) hA31 (by omega) hR (fun I4 f4 hR4 => bk_55_58 _ I4 J ?_)
      rw [nI_1]
      refine ih (i + 1) I4 (by omega) (fun g k1 k2 k3 k4 k5 k6 => (f4 g k5).trans (f3 g k1 k2 k3 k4 k5 k6)) (TRr_fr hT (f4 69 (by decide)) (f4 68 (by decide)) (f4 70 (by decide)) (by rw [f4 66 (by decide)]) (by rw [f4 66 (by decide)])) (by rw [f4 66 (by decide)]; exact h5) hR4
  -- the places
  have lp : ∀ (m i : Nat) (I3 : am_I), i + m = n → (∀ g, g ≠ 66 → g ≠ 68 → g ≠ 69 → g ≠ 70 → I3 g = I2 g) → TRr (trr W NT o i) I3 → I3 66 5 = nI n → am_To (am_XX L xs) (d + 4) 55 11 [some (.ref 66), some (.ref 64), some (.ref 65), some (.int (nI i))] [] I3 J P := by
    intro m
    induction m with
    | zero =>
      intro i I3 hi f3 hT h5
      have e : i = n := by omega
      subst e
      refine bk_55_11 _ I3 J (i_t (by rw [h5]; exact nI_le (Nat.le_refl _) (by omega)) (lp2 24 0 I3 (by omega) (fun g k1 k2 k3 k4 k5 k6 => ?_) hT h5 (fun a ha => ⟨0, by decide, ?_, fun b => ?_⟩)))
      · rw [f3 g k1 k2 k3 k4, f2 g k1 k6, f1 g k1 k2 k3 k4 k5]
      · rw [f3 71 (by decide) (by decide) (by decide) (by decide), f2 71 (by decide) (by decide)]
        exact h71 a ha
      · rw [Nat.zero_testBit]
        constructor
        · intro q
          cases q
        · rintro ⟨k, hk, -⟩
          exact absurd hk (Nat.not_lt_zero k)
    | succ m ih =>
      intro i I3 hi f3 hT h5
      obtain ⟨o1, o2⟩ := hS.2.1 i (by omega)
      have e72 : I3 72 i = nI (o i) := by
        rw [f3 72 (by decide) (by decide) (by decide) (by decide)]
        exact h72 i (by omega)
      have e64 : I3 64 (o i) = nI (W (o i)) := by
        rw [f3 64 (by decide) (by decide) (by decide) (by decide), f2 64 (by decide) (by decide), f1 64 (by decide) (by decide) (by decide) (by decide) (by decide)]
        exact hWr _ o1
      have hB3 : BNc NT I3 := by
        unfold BNc at *
        rw [f3 65 (by decide) (by decide) (by decide) (by decide), f2 65 (by decide) (by decide), f1 65 (by decide) (by decide) (by decide) (by decide) (by decide)]
        exact hB
      refine bk_55_11 _ I3 J (i_le n i h5 rfl (fun c => by omega) (fun _ => x_i i rfl (x_i i rfl (x_i (o i) e72 ?_))))
      rw [e72, e64]
      refine place_c (trr_v hW hS i (by omega)) hW hN hB3 hT o1 o2 (fun I4 f4 f4b hT4 => bk_55_38 _ I4 J ?_)
      rw [nI_1]
      exact ih (i + 1) I4 (by omega) (fun g k1 k2 k3 k4 => (f4 g k1 k2 k3 k4).trans (f3 g k1 k2 k3 k4)) hT4 (by rw [f4b 5 (by decide) (by decide)]; exact h5)
  exact lp n 0 I2 (by omega) (fun _ _ _ _ _ => rfl) (TRr_fr hT1 (f2 69 (by decide) (by decide)) (f2 68 (by decide) (by decide)) (f2 70 (by decide) (by decide)) (f2b 6 (by decide)) (f2b 7 (by decide))) h52
theorem cur_c (hW : WV0 W) (hN : ∀ p q, NT p q → q < 24) (hB : BNc NT I) (hWr : ∀ c, c < 576 → I 64 c = nI (W c)) (hAL : ∀ a b, a < 24 → b < 24 → a ≠ b → I 64 (cl 2 a b) = nI (AL a b)) (hAs : ∀ a b, AL a b = AL b a) (hA31 : ∀ a b, AL a b < 2 ^ 31) (hT : I 0 7 = 0 → TFc W NT AL I) (h : ∀ I', (∀ g, g ≠ 0 → g ≠ 66 → g ≠ 68 → g ≠ 69 → g ≠ 70 → g ≠ 71 → g ≠ 72 → I' g = I g) → I' 0 7 = 0 → TFc W NT AL I' → P (some (.ref 66)) I' J) : am_To (am_XX L xs) (d + 5) 54 0 [some (.ref 0)] [] I J P := by
  refine bk_54_0 I J ⟨fun c => h I (fun _ _ _ _ _ _ _ _ => rfl) c (hT c), fun _ => build_c hW hN hB hWr hAL hAs hA31 (fun I1 f1 hT1 => bk_54_28 I1 J (h _ (fun g k0 k1 k2 k3 k4 k5 k6 => ?_) am_up_s ?_))⟩
  · rw [am_up_row k0]
    exact f1 g k1 k2 k3 k4 k5 k6
  · obtain ⟨n, o, q1, q2, q3, q4⟩ := hT1
    exact ⟨n, o, q1, TRr_fr q2 (am_up_row (by decide)) (am_up_row (by decide)) (am_up_row (by decide)) (am_up_h (by decide)) (am_up_h (by decide)), by rw [am_up_h (by decide)]; exact q3, NRr_fr q4 (am_up_row (by decide))⟩
end
