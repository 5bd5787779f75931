/-! SIGNS: where one ends: endOf, end -/
def fL (f : Nat) : Nat := ([2, 2, 4, 2, 1] : List Nat).getD f 0
def fS (f : Nat) : Nat := ([0, 2, 4, 8, 10, 11] : List Nat).getD f 0
def fW (i : Nat) : Nat := ([1937073000, 24947, 6385252, 478694368626, 26995, 97, 1802071652, 28518, 1885434484, 28518, 28530] : List Nat).getD i 0
theorem fS_e : ∀ f, f < 5 → fS (f + 1) = fS f + fL f := by decide
theorem fS_11 : ∀ f, f < 5 → fS f + fL f ≤ 11 ∧ 1 ≤ fL f ∧ fL f ≤ 4 := by decide
theorem fW_lt : ∀ i, i < 11 → 0 < fW i ∧ fW i < 2 ^ 63 := by decide
theorem s3_e : ∀ f, f < 6 → am_s3 f = nI (fS f)
  | 0, _ => rfl
  | 1, _ => rfl
  | 2, _ => rfl
  | 3, _ => rfl
  | 4, _ => rfl
  | 5, _ => rfl
  | _ + 6, h => absurd h (by omega)
theorem s2_e : ∀ f, f < 11 → am_s2 f = lN (fW f)
  | 0, _ => rfl
  | 1, _ => rfl
  | 2, _ => rfl
  | 3, _ => rfl
  | 4, _ => rfl
  | 5, _ => rfl
  | 6, _ => rfl
  | 7, _ => rfl
  | 8, _ => rfl
  | 9, _ => rfl
  | 10, _ => rfl
  | _ + 11, h => absurd h (by omega)
/-- a sign of form f, X the token t -/
def okS (s : SC) (t f : Nat) : Prop := t + 1 + fL f < sT s ∧ sF s (t + 1 + fL f) = true ∧ sP s (t + 1 + fL f) ≠ sP s t ∧ mb (sP s (t + 1 + fL f)) ∧ ∀ i, i < fL f → sF s (t + 1 + i) = true ∧ sP s (t + 1 + i) = fW (fS f + i)
theorem cpk_or (p : Nat) : cpk p = lN p ∨ (p = 0 ∧ cpk p = -1) := by
  unfold cpk
  by_cases h : p = 0
  · rw [if_pos h]
    exact Or.inr ⟨h, rfl⟩
  · rw [if_neg h]
    exact Or.inl rfl
theorem lN_m1 {p : Nat} (h : p < 2 ^ 63) : lN p ≠ -1 := by
  intro e
  have h1 := congrArg Int64.toInt e
  rw [pk_lT h] at h1
  have h2 : (-1 : Int64).toInt = -1 := by decide
  omega
theorem cpk_eq {p q : Nat} (hp : p < 2 ^ 63) (hq : q < 2 ^ 63) : cpk p = cpk q ↔ p = q := by
  unfold cpk
  by_cases h1 : p = 0
  · by_cases h2 : q = 0
    · rw [if_pos h1, if_pos h2, h1, h2]
      exact ⟨fun _ => rfl, fun _ => rfl⟩
    · rw [if_pos h1, if_neg h2]
      exact ⟨fun e => absurd e.symm (lN_m1 hq), fun e => absurd (e.symm.trans h1) h2⟩
  · by_cases h2 : q = 0
    · rw [if_neg h1, if_pos h2]
      exact ⟨fun e => absurd e (lN_m1 hp), fun e => absurd (e.trans h2) h1⟩
    · rw [if_neg h1, if_neg h2]
      exact pk_lEQ hp hq
theorem cpk_lN {p q : Nat} (hp : p < 2 ^ 63) (hq : q < 2 ^ 63) (h0 : 0 < q) : cpk p = lN q ↔ p = q := by
  rw [← cpk_eq hp hq]
  unfold cpk
  rw [if_neg (show ¬ q = 0 by omega)]
/-- what is known of the tokens of a text -/
def TKv (s : SC) : Prop := sT s ≤ 100 ∧ (∀ t, t < sT s → pkv (sN s t) (sP s t)) ∧ (∀ t, t + 1 < sT s → sL s t + sN s t + 1 ≤ sL s (t + 1)) ∧ ∀ t, t < sT s → sL s t + sN s t ≤ 200
theorem tk_v {b : Nat → Nat} {j : Nat} (hj : j ≤ 200) : TKv (sc b j) := by
  obtain ⟨h1, h2, h3, h4⟩ := sc_v b j
  have hl : 0 < sT (sc b j) → sL (sc b j) (sT (sc b j) - 1) + sN (sc b j) (sT (sc b j) - 1) ≤ 200 := fun z => by
    cases hI : sI (sc b j) with
    | true =>
      have := (h3 hI).2.1
      omega
    | false =>
      have := (h4 hI).1 z
      omega
  refine ⟨?_, h1, h2, ?_⟩
  · cases hI : sI (sc b j) with
    | true =>
      have := (h3 hI).2.2.2
      omega
    | false =>
      have := (h4 hI).2
      omega
  · have key : ∀ m t, t + m + 1 = sT (sc b j) → sL (sc b j) t + sN (sc b j) t ≤ 200 := by
      intro m
      induction m with
      | zero =>
        intro t ht
        have e : t = sT (sc b j) - 1 := by omega
        rw [e]
        exact hl (by omega)
      | succ m ih =>
        intro t ht
        have a := h2 t (by omega)
        have c := ih (t + 1) (by omega)
        omega
    intro t ht
    exact key (sT (sc b j) - 1 - t) t (by omega)
section
variable {L : Nat} {xs : Nat → Int32} {d : Nat} {P : Option Value → am_I → am_J → Prop} {I : am_I} {J : am_J} {t f : Nat} {s : SC}
theorem endof_lp (hs : TKv s) (hC : CutC s I J) (hf : f < 5) (he : t + 1 + fL f < sT s) (h1 : (∀ i, i < fL f → sF s (t + 1 + i) = true ∧ sP s (t + 1 + i) = fW (fS f + i)) → P (some (.int (nI (t + 1 + fL f)))) I J) (h0 : ¬ (∀ i, i < fL f → sF s (t + 1 + i) = true ∧ sP s (t + 1 + i) = fW (fS f + i)) → P (some (.int (-1))) I J) : ∀ (m i : Nat), i + m = fL f → (∀ k, k < i → sF s (t + 1 + k) = true ∧ sP s (t + 1 + k) = fW (fS f + k)) → am_To (am_XX L xs) d 23 77 [some (.ref 5), none, some (.int (nI t)), some (.int (nI (fS f))), some (.int (nI (t + 1 + fL f))), some (.int (nI (t + 1 + i)))] [] I J P := by
  have h100 := hs.1
  have h11 := fS_11 f hf
  intro m
  induction m with
  | zero =>
    intro i hi hk
    have e : i = fL f := by omega
    subst e
    exact bk_23_77 _ _ _ _ I J (i_t (nI_le (Nat.le_refl _) (by omega)) (h1 hk))
  | succ m ih =>
    intro i hi hk
    obtain ⟨c1, c2, c3⟩ := hC.2 (t + 1 + i) (by omega)
    refine bk_23_77 _ _ _ _ I J (i_le (t + 1 + fL f) (t + 1 + i) rfl rfl (fun z => by omega) (fun _ => x_i (t + 1 + i) rfl ?_))
    rw [c3]
    refine i_c bI_0 (fun z => h0 (fun y => ?_)) (fun z => x_i (t + 1 + i) rfl (x_i (fS f + i) ?_ ?_))
    · have := (y i (by omega)).1
      rw [z] at this
      cases this
    · rw [nI_add, pk_sub (by omega), show (1 : Int32) = nI 1 from rfl, pk_sub (by omega)]
      congr 1
      omega
    · rw [c1, s2_e _ (by omega)]
      refine i_c (lg_cmp_0.trans (cpk_lN (pkv_63 (hs.2.1 _ (by omega))) (fW_lt _ (by omega)).2 (fW_lt _ (by omega)).1)) (fun y => ?_) (fun y => h0 (fun q => y (q i (by omega)).2))
      rw [nI_1]
      refine ih (i + 1) (by omega) (fun k hk2 => ?_)
      by_cases e : k = i
      · rw [e]
        exact ⟨by simpa using z, y⟩
      · exact hk k (by omega)
theorem endof_c (hs : TKv s) (hC : CutC s I J) (hf : f < 5) (ht : t < sT s) (h1 : okS s t f → P (some (.int (nI (t + 1 + fL f)))) I J) (h0 : ¬ okS s t f → P (some (.int (-1))) I J) : am_To (am_XX L xs) (d + 1) 23 0 [some (.ref 5), some (.int (nI f)), some (.int (nI t)), none, none, none] [] I J P := by
  have h100 := hs.1
  have h11 := fS_11 f hf
  have e : ((nI t + (1 : Int32)) + am_s3 (f + 1)) - am_s3 f = nI (t + 1 + fL f) := by
    rw [s3_e _ (by omega), s3_e _ (by omega), fS_e f hf, nI_1, nI_add, pk_sub (by omega)]
    congr 1
    omega
  refine bk_23_0 _ _ I J (x_i f rfl (x_i (f + 1) (nI_1 f) (i_le (sT s) (t + 1 + fL f) hC.1 e (fun z => h0 (fun y => by have := y.1; omega)) (fun z => ?_))))
  obtain ⟨c1, c2, c3⟩ := hC.2 (t + 1 + fL f) (by omega)
  obtain ⟨a1, a2, a3⟩ := hC.2 t ht
  refine x_i (t + 1 + fL f) e ?_
  rw [c3]
  refine i_c bI_0 (fun y => h0 (fun q => ?_)) (fun y3 => x_i (t + 1 + fL f) e (x_i t rfl ?_))
  · have := q.2.1
    rw [y] at this
    cases this
  · rw [c1, a1]
    refine i_c (lg_cmp_0.trans (cpk_eq (pkv_63 (hs.2.1 _ (by omega))) (pkv_63 (hs.2.1 _ ht)))) (fun y => h0 (fun q => q.2.2.1 y)) (fun y4 => x_i (t + 1 + fL f) e ?_)
    rw [c1]
    refine mayc_all (pkv_63 (hs.2.1 _ (by omega))) (cpk_or _) (fun y => ?_) (fun y5 => ?_)
    · exact bk_23_67 _ _ _ 0 I J (i_t rfl (h0 (fun q => y q.2.2.2.1)))
    · refine bk_23_67 _ _ _ 1 I J (i_f (by decide) ?_)
      rw [e, s3_e _ (by omega), nI_1]
      exact endof_lp hs hC hf (by omega) (fun y => h1 ⟨by omega, by simpa using y3, y4, y5, y⟩) (fun y => h0 (fun q => y q.2.2.2.2)) (fL f) 0 (by omega) (fun k hk => absurd hk (by omega))
/-- the reference: one word behind another -/
def isS (s : SC) (u q : Nat) : Prop := u < sT s ∧ sF s u = true ∧ sP s u = q
def tlS (s : SC) (t e : Nat) : Prop := e < sT s ∧ sF s e = true ∧ mb (sP s e) ∧ sP s e ≠ sP s t
theorem is_m {u q : Nat} (hs : TKv s) (hC : CutM s I J) (hu : u < 110) (hq : q < 2 ^ 63) (h1 : isS s (u + 1) q → P (some (.int 1)) I J) (h0 : ¬ isS s (u + 1) q → P (some (.int 0)) I J) : am_To (am_XX L xs) d 107 0 [some (.ref 95), some (.int (nI (u + 1))), some (.long (lN q)), none] [] I J P := by
  have h100 := hs.1
  refine bk_107_0 _ _ I J (i_le (sT s) (u + 1) hC.1 rfl (fun z => h0 (fun y => by have := y.1; omega)) (fun z => x_i u (nI_pred u) ?_))
  obtain ⟨a1, a2, a3⟩ := hC.2 u (by omega)
  obtain ⟨c1, c2, c3⟩ := hC.2 (u + 1) (by omega)
  rw [a3, if_pos (by omega)]
  refine i_c bI_0 (fun y => h0 (fun q => ?_)) (fun y => x_i (u + 1) rfl ?_)
  · have := q.2.1
    rw [y] at this
    cases this
  · rw [c1]
    exact i_c (lg_cmp_0.trans (pk_lEQ (pkv_63 (hs.2.1 _ (by omega))) hq)) (fun y2 => h1 ⟨by omega, by simpa using y, y2⟩) (fun y2 => h0 (fun q => y2 q.2.2))
theorem end_tl (hs : TKv s) (hC : CutM s I J) (ht : t < sT s) {e : Nat} (he : e < 6) (he0 : 1 ≤ e) (h1 : tlS s t (t + e) → P (some (.int (nI (t + e)))) I J) (h0 : ¬ tlS s t (t + e) → P (some (.int (-1))) I J) : am_To (am_XX L xs) (d + 1) 106 212 [some (.ref 95), some (.int (nI t)), none, some (.int 1), none] [.int (nI e), .int (nI t)] I J P := by
  have h100 := hs.1
  refine bk_106_212 _ _ _ _ I J (i_f (by decide) ?_)
  rw [nI_add]
  refine i_le (sT s) (t + e) hC.1 rfl (fun z => h0 (fun y => by have := y.1; omega)) (fun z => x_i (t + e - 1) (pk_sub (b := 1) (by omega)) ?_)
  obtain ⟨a1, a2, a3⟩ := hC.2 (t + e - 1) (by omega)
  obtain ⟨b1, b2, b3⟩ := hC.2 t (by omega)
  obtain ⟨c1, c2, c3⟩ := hC.2 (t + e) (by omega)
  rw [a3, if_pos (by omega), show t + e - 1 + 1 = t + e by omega]
  refine i_c bI_0 (fun y => h0 (fun q => ?_)) (fun y => x_i (t + e) rfl ?_)
  · have := q.2.1
    rw [y] at this
    cases this
  · rw [c1]
    refine maym_all (pkv_63 (hs.2.1 _ (by omega))) (fun y2 => ?_) (fun y2 => ?_)
    · exact bk_106_250 _ _ 0 I J (i_t rfl (h0 (fun q => y2 q.2.2.1)))
    · refine bk_106_250 _ _ 1 I J (i_f (by decide) (x_i (t + e) rfl (x_i t rfl ?_)))
      rw [c1, b1]
      exact i_c (lg_cmp_0.trans (pk_lEQ (pkv_63 (hs.2.1 _ (by omega))) (pkv_63 (hs.2.1 _ ht)))) (fun y3 => h0 (fun q => q.2.2.2 y3)) (fun y3 => h1 ⟨by omega, by simpa using y, y2, y3⟩)
theorem end_no {x2 : Int32} {a : Int32} (h : P (some (.int (-1))) I J) : am_To (am_XX L xs) (d + 1) 106 191 [some (.ref 95), some (.int a), some (.int x2), none, none] [.int 0] I J P := by
  have g : ∀ e : Int32, am_To (am_XX L xs) (d + 1) 106 212 [some (.ref 95), some (.int a), none, some (.int 0), none] [.int e, .int a] I J P := fun e => bk_106_212 _ _ _ _ I J (i_t rfl h)
  exact bk_106_191 _ _ _ I J ⟨fun _ => g _, fun _ => ⟨fun _ => g _, fun _ => g _⟩⟩
theorem all_1 {p : Nat → Prop} : (∀ i, i < 1 → p i) ↔ p 0 := ⟨fun h => h 0 (by omega), fun h i hi => by rw [show i = 0 by omega]; exact h⟩
theorem all_2 {p : Nat → Prop} : (∀ i, i < 2 → p i) ↔ p 0 ∧ p 1 := ⟨fun h => ⟨h 0 (by omega), h 1 (by omega)⟩, fun h i hi => by
  rcases (show i = 0 ∨ i = 1 by omega) with e | e <;> subst e
  · exact h.1
  · exact h.2⟩
theorem all_4 {p : Nat → Prop} : (∀ i, i < 4 → p i) ↔ p 0 ∧ p 1 ∧ p 2 ∧ p 3 := ⟨fun h => ⟨h 0 (by omega), h 1 (by omega), h 2 (by omega), h 3 (by omega)⟩, fun h i hi => by
  rcases (show i = 0 ∨ i = 1 ∨ i = 2 ∨ i = 3 by omega) with e | e | e | e <;> subst e
  · exact h.1
  · exact h.2.1
  · exact h.2.2.1
  · exact h.2.2.2⟩
theorem ok_2 {a c : Nat} (hf : fL f = 2) (ha : fW (fS f + 0) = a) (hc : fW (fS f + 1) = c) : okS s t f ↔ isS s (t + 1) a ∧ isS s (t + 2) c ∧ tlS s t (t + 3) := by
  unfold okS isS tlS
  rw [hf, all_2, ha, hc]
  constructor
  · rintro ⟨q1, q2, q3, q4, ⟨q5, q6⟩, q7, q8⟩
    exact ⟨⟨by omega, q5, q6⟩, ⟨by omega, q7, q8⟩, by omega, q2, q4, q3⟩
  · rintro ⟨⟨p1, p2, p3⟩, ⟨p4, p5, p6⟩, p7, p8, p9, p10⟩
    exact ⟨p7, p8, p10, p9, ⟨p2, p3⟩, p5, p6⟩
theorem ok_1 {a : Nat} (hf : fL f = 1) (ha : fW (fS f + 0) = a) : okS s t f ↔ isS s (t + 1) a ∧ tlS s t (t + 2) := by
  unfold okS isS tlS
  rw [hf, all_1, ha]
  constructor
  · rintro ⟨q1, q2, q3, q4, q5, q6⟩
    exact ⟨⟨by omega, q5, q6⟩, by omega, q2, q4, q3⟩
  · rintro ⟨⟨p1, p2, p3⟩, p7, p8, p9, p10⟩
    exact ⟨p7, p8, p10, p9, p2, p3⟩
theorem ok_4 {a c g h : Nat} (hf : fL f = 4) (ha : fW (fS f + 0) = a) (hc : fW (fS f + 1) = c) (hg : fW (fS f + 2) = g) (hh : fW (fS f + 3) = h) : okS s t f ↔ isS s (t + 1) a ∧ isS s (t + 2) c ∧ isS s (t + 3) g ∧ isS s (t + 4) h ∧ tlS s t (t + 5) := by
  unfold okS isS tlS
  rw [hf, all_4, ha, hc, hg, hh]
  constructor
  · rintro ⟨q1, q2, q3, q4, ⟨q5, q6⟩, ⟨q7, q8⟩, ⟨q9, q10⟩, q11, q12⟩
    exact ⟨⟨by omega, q5, q6⟩, ⟨by omega, q7, q8⟩, ⟨by omega, q9, q10⟩, ⟨by omega, q11, q12⟩, by omega, q2, q4, q3⟩
  · rintro ⟨⟨p1, p2, p3⟩, ⟨p4, p5, p6⟩, ⟨p11, p12, p13⟩, ⟨p14, p15, p16⟩, p7, p8, p9, p10⟩
    exact ⟨p7, p8, p10, p9, ⟨p2, p3⟩, ⟨p5, p6⟩, ⟨p12, p13⟩, p15, p16⟩
theorem end_m (hs : TKv s) (hC : CutM s I J) (hf : f < 5) (ht : t < sT s) (h1 : okS s t f → P (some (.int (nI (t + 1 + fL f)))) I J) (h0 : ¬ okS s t f → P (some (.int (-1))) I J) : am_To (am_XX L xs) (d + 1) 106 0 [some (.ref 95), some (.int (nI t)), some (.int (nI f)), none, none] [] I J P := by
  have h100 := hs.1
  have ea : ∀ k : Nat, nI t + nI k = nI (t + k) := fun k => nI_add t k
  match f, hf with
  | 0, _ =>
    have ok := ok_2 (s := s) (t := t) (f := 0) rfl rfl rfl
    refine bk_106_0 _ _ I J (i_t rfl ?_)
    rw [nI_1]
    refine is_m hs hC (by omega) (q := 1937073000) (by decide) (fun y1 => ?_) (fun y1 => ?_)
    · refine bk_106_14 _ _ 1 I J (i_f (by decide) ?_)
      rw [show nI t + (2 : Int32) = nI (t + 1 + 1) from ea 2]
      refine is_m hs hC (by omega) (q := 24947) (by decide) (fun y2 => ?_) (fun y2 => ?_)
      · refine bk_106_27 _ _ 1 I J (i_f (by decide) (bk_106_191 _ _ _ I J (i_f (by decide) (i_f (by decide) ?_))))
        exact end_tl hs hC ht (e := 3) (by decide) (by decide) (fun z => h1 (ok.mpr ⟨y1, y2, z⟩)) (fun z => h0 (fun q => z (ok.mp q).2.2))
      · exact bk_106_27 _ _ 0 I J (i_t rfl (bk_106_34 _ _ I J (end_no (h0 (fun q => y2 (ok.mp q).2.1)))))
    · exact bk_106_14 _ _ 0 I J (i_t rfl (bk_106_34 _ _ I J (end_no (h0 (fun q => y1 (ok.mp q).1)))))
  | 1, _ =>
    have ok := ok_2 (s := s) (t := t) (f := 1) rfl rfl rfl
    refine bk_106_0 _ _ I J (i_f (by decide) (i_t rfl ?_))
    rw [nI_1]
    refine is_m hs hC (by omega) (q := 6385252) (by decide) (fun y1 => ?_) (fun y1 => ?_)
    · refine bk_106_53 _ _ 1 I J (i_f (by decide) ?_)
      rw [show nI t + (2 : Int32) = nI (t + 1 + 1) from ea 2]
      refine is_m hs hC (by omega) (q := 478694368626) (by decide) (fun y2 => ?_) (fun y2 => ?_)
      · refine bk_106_66 _ _ 1 I J (i_f (by decide) (bk_106_191 _ _ _ I J (i_f (by decide) (i_f (by decide) ?_))))
        exact end_tl hs hC ht (e := 3) (by decide) (by decide) (fun z => h1 (ok.mpr ⟨y1, y2, z⟩)) (fun z => h0 (fun q => z (ok.mp q).2.2))
      · exact bk_106_66 _ _ 0 I J (i_t rfl (bk_106_73 _ _ I J (end_no (h0 (fun q => y2 (ok.mp q).2.1)))))
    · exact bk_106_53 _ _ 0 I J (i_t rfl (bk_106_73 _ _ I J (end_no (h0 (fun q => y1 (ok.mp q).1)))))
  | 2, _ =>
    have ok := ok_4 (s := s) (t := t) (f := 2) rfl rfl rfl rfl rfl
    refine bk_106_0 _ _ I J (i_f (by decide) (i_f (by decide) (i_t rfl ?_)))
    rw [nI_1]
    refine is_m hs hC (by omega) (q := 26995) (by decide) (fun y1 => ?_) (fun y1 => ?_)
    · refine bk_106_92 _ _ 1 I J (i_f (by decide) ?_)
      rw [show nI t + (2 : Int32) = nI (t + 1 + 1) from ea 2]
      refine is_m hs hC (by omega) (q := 97) (by decide) (fun y2 => ?_) (fun y2 => ?_)
      · refine bk_106_105 _ _ 1 I J (i_f (by decide) ?_)
        rw [show nI t + (3 : Int32) = nI (t + 2 + 1) from ea 3]
        refine is_m hs hC (by omega) (q := 1802071652) (by decide) (fun y3 => ?_) (fun y3 => ?_)
        · refine bk_106_118 _ _ 1 I J (i_f (by decide) ?_)
          rw [show nI t + (4 : Int32) = nI (t + 3 + 1) from ea 4]
          refine is_m hs hC (by omega) (q := 28518) (by decide) (fun y4 => ?_) (fun y4 => ?_)
          · refine bk_106_131 _ _ 1 I J (i_f (by decide) (bk_106_191 _ _ _ I J (i_t rfl ?_)))
            exact end_tl hs hC ht (e := 5) (by decide) (by decide) (fun z => h1 (ok.mpr ⟨y1, y2, y3, y4, z⟩)) (fun z => h0 (fun q => z (ok.mp q).2.2.2.2))
          · exact bk_106_131 _ _ 0 I J (i_t rfl (bk_106_138 _ _ I J (end_no (h0 (fun q => y4 (ok.mp q).2.2.2.1)))))
        · exact bk_106_118 _ _ 0 I J (i_t rfl (bk_106_138 _ _ I J (end_no (h0 (fun q => y3 (ok.mp q).2.2.1)))))
      · exact bk_106_105 _ _ 0 I J (i_t rfl (bk_106_138 _ _ I J (end_no (h0 (fun q => y2 (ok.mp q).2.1)))))
    · exact bk_106_92 _ _ 0 I J (i_t rfl (bk_106_138 _ _ I J (end_no (h0 (fun q => y1 (ok.mp q).1)))))
  | 3, _ =>
    have ok := ok_2 (s := s) (t := t) (f := 3) rfl rfl rfl
    refine bk_106_0 _ _ I J (i_f (by decide) (i_f (by decide) (i_f (by decide) (i_t rfl ?_))))
    rw [nI_1]
    refine is_m hs hC (by omega) (q := 1885434484) (by decide) (fun y1 => ?_) (fun y1 => ?_)
    · refine bk_106_157 _ _ 1 I J (i_f (by decide) ?_)
      rw [show nI t + (2 : Int32) = nI (t + 1 + 1) from ea 2]
      refine is_m hs hC (by omega) (q := 28518) (by decide) (fun y2 => ?_) (fun y2 => ?_)
      · refine bk_106_170 _ _ 1 I J (i_f (by decide) (bk_106_191 _ _ _ I J (i_f (by decide) (i_f (by decide) ?_))))
        exact end_tl hs hC ht (e := 3) (by decide) (by decide) (fun z => h1 (ok.mpr ⟨y1, y2, z⟩)) (fun z => h0 (fun q => z (ok.mp q).2.2))
      · exact bk_106_170 _ _ 0 I J (i_t rfl (bk_106_177 _ _ I J (end_no (h0 (fun q => y2 (ok.mp q).2.1)))))
    · exact bk_106_157 _ _ 0 I J (i_t rfl (bk_106_177 _ _ I J (end_no (h0 (fun q => y1 (ok.mp q).1)))))
  | 4, _ =>
    have ok := ok_1 (s := s) (t := t) (f := 4) rfl rfl
    refine bk_106_0 _ _ I J (i_f (by decide) (i_f (by decide) (i_f (by decide) (i_f (by decide) ?_))))
    rw [nI_1]
    refine is_m hs hC (by omega) (q := 28530) (by decide) (fun y1 => ?_) (fun y1 => ?_)
    · refine bk_106_191 _ _ _ I J (i_f (by decide) (i_t rfl ?_))
      exact end_tl hs hC ht (e := 2) (by decide) (by decide) (fun z => h1 (ok.mpr ⟨y1, z⟩)) (fun z => h0 (fun q => z (ok.mp q).2))
    · exact end_no (h0 (fun q => y1 (ok.mp q).1))
  | f + 5, hf => exact absurd hf (by omega)
end
