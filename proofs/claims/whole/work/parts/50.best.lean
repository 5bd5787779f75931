/-! BEST: what may be, the greatest sum; the class's search -/
theorem bk_89_149n {L : Nat} {xs : Nat → Int32} {d : Nat} {P : Option Value → am_I → am_J → Prop} (x1 : Int32) (x2 : Int32) (I : am_I) (J : am_J) (q : Nat) (hq : q < 6) (h : am_To (am_XX L xs) d 90 0 [some (.ref (fH (q + 1))), some (.ref (fH q)), none] [] I J (fun r I2 J2 => am_To (am_XX L xs) (d + 1) 89 152 [some (.ref 75), some (.int x1), some (.int x2), none, none] (r.toList ++ []) I2 J2 P)) : am_To (am_XX L xs) (d + 1) 89 149 [some (.ref 75), some (.int x1), some (.int x2), none, none] [.ref (fH q), .ref (fH (q + 1))] I J P := by
  match q, hq, h with
  | 0, _, h => exact am_pcall 1 (fun n => rfl) (am_lv (am_lv (am_lv (am_ln (am_ln (am_l0)))))) h
  | 1, _, h => exact am_pcall 1 (fun n => rfl) (am_lv (am_lv (am_lv (am_ln (am_ln (am_l0)))))) h
  | 2, _, h => exact am_pcall 1 (fun n => rfl) (am_lv (am_lv (am_lv (am_ln (am_ln (am_l0)))))) h
  | 3, _, h => exact am_pcall 1 (fun n => rfl) (am_lv (am_lv (am_lv (am_ln (am_ln (am_l0)))))) h
  | 4, _, h => exact am_pcall 1 (fun n => rfl) (am_lv (am_lv (am_lv (am_ln (am_ln (am_l0)))))) h
  | 5, _, h => exact am_pcall 1 (fun n => rfl) (am_lv (am_lv (am_lv (am_ln (am_ln (am_l0)))))) h
  | q + 6, h0, _ => exact absurd h0 (by omega)
theorem bk_89_102n {L : Nat} {xs : Nat → Int32} {d : Nat} {P : Option Value → am_I → am_J → Prop} (x1 : Int32) (x2 : Int32) (x3 : Int32) (x4 : Int32) (I : am_I) (J : am_J) (q : Nat) (hq : q < 6) (h : am_To (am_XX L xs) d 90 0 [some (.ref (fH (q + 1))), some (.ref (fH q)), none] [] I J (fun r I2 J2 => am_To (am_XX L xs) (d + 1) 89 105 [some (.ref 75), some (.int x1), some (.int x2), some (.int x3), some (.int x4)] (r.toList ++ []) I2 J2 P)) : am_To (am_XX L xs) (d + 1) 89 102 [some (.ref 75), some (.int x1), some (.int x2), some (.int x3), some (.int x4)] [.ref (fH q), .ref (fH (q + 1))] I J P := by
  match q, hq, h with
  | 0, _, h => exact am_pcall 1 (fun n => rfl) (am_lv (am_lv (am_lv (am_lv (am_lv (am_l0)))))) h
  | 1, _, h => exact am_pcall 1 (fun n => rfl) (am_lv (am_lv (am_lv (am_lv (am_lv (am_l0)))))) h
  | 2, _, h => exact am_pcall 1 (fun n => rfl) (am_lv (am_lv (am_lv (am_lv (am_lv (am_l0)))))) h
  | 3, _, h => exact am_pcall 1 (fun n => rfl) (am_lv (am_lv (am_lv (am_lv (am_lv (am_l0)))))) h
  | 4, _, h => exact am_pcall 1 (fun n => rfl) (am_lv (am_lv (am_lv (am_lv (am_lv (am_l0)))))) h
  | 5, _, h => exact am_pcall 1 (fun n => rfl) (am_lv (am_lv (am_lv (am_lv (am_lv (am_l0)))))) h
  | q + 6, h0, _ => exact absurd h0 (by omega)
/-- a choice of parents that may be -/
def VALo (k : Nat) (V : Nat → Nat → Nat) (B : Nat → Nat → Prop) (o : Nat → Option Nat) : Prop := ∃ ab, FV o ab ∧ (∀ y x, o y = some x → y < k ∧ x < k ∧ 0 < V x y) ∧ ∀ i p, (ab i).testBit p = true → ¬ B p i
def gn (V : Nat → Nat → Nat) (o : Nat → Option Nat) (y : Nat) : Nat := match o y with
  | some x => V x y
  | none => 0
def EXo (y : Nat) (o o' : Nat → Option Nat) : Prop := ∀ i, i < y → o' i = o i
/-- what best answers -/
def BestIs (k : Nat) (V : Nat → Nat → Nat) (B : Nat → Nat → Prop) (g : Nat) : Prop := (∀ o, VALo k V B o → fb_sm (gn V o) k ≤ g) ∧ (g = 0 ∨ ∃ o, VALo k V B o ∧ fb_sm (gn V o) k = g)
theorem best_one {k : Nat} {V : Nat → Nat → Nat} {B : Nat → Nat → Prop} {g g' : Nat} (h : BestIs k V B g) (h' : BestIs k V B g') : g = g' := by
  have a1 : g ≤ g' := by
    rcases h.2 with e | ⟨o, o1, o2⟩
    · omega
    · have := h'.1 o o1
      omega
  have a2 : g' ≤ g := by
    rcases h'.2 with e | ⟨o, o1, o2⟩
    · omega
    · have := h.1 o o1
      omega
  omega
theorem ext_ab {o o' : Nat → Option Nat} {ab ab' : Nat → Nat} (h : FV o ab) (h' : FV o' ab') (he : ∀ y x, o y = some x → o' y = some x) {p : Nat} : ∀ i, (ab i).testBit p = true → (ab' i).testBit p = true := by
  refine fv_ind h (fun i ih hp => ?_)
  cases hq : o i with
  | none =>
    rw [h.2.1 i hq, Nat.zero_testBit] at hp
    cases hp
  | some q =>
    have h1 := ((h.1 i q hq).2.2 p).mp hp
    refine ((h'.1 i q (he i q hq)).2.2 p).mpr ?_
    rcases h1 with e | e
    · exact Or.inl e
    · exact Or.inr (ih q hq e)
def mx (f : Nat → Nat) : Nat → Nat
  | 0 => 0
  | n + 1 => if mx f n < f n then f n else mx f n
theorem mx_le {f : Nat → Nat} : ∀ n x, x < n → f x ≤ mx f n := by
  intro n
  induction n with
  | zero => intro x hx; omega
  | succ n ih =>
    intro x hx
    show f x ≤ if mx f n < f n then f n else mx f n
    by_cases e : x = n
    · subst e
      split <;> omega
    · have := ih x (by omega)
      split <;> omega
theorem mx_b {f : Nat → Nat} {c : Nat} (h : ∀ x, f x ≤ c) : ∀ n, mx f n ≤ c := by
  intro n
  induction n with
  | zero => exact Nat.zero_le c
  | succ n ih =>
    show (if mx f n < f n then f n else mx f n) ≤ c
    split
    · exact h n
    · exact ih
/-- what the last m members could add -/
def hpv (V : Nat → Nat → Nat) (k : Nat) : Nat → Nat
  | 0 => 0
  | m + 1 => hpv V k m + mx (fun x => V x (k - (m + 1))) k
theorem hpv_le {V : Nat → Nat → Nat} {k c : Nat} (h : ∀ x y, V x y ≤ c) : ∀ m, hpv V k m ≤ m * c := by
  intro m
  induction m with
  | zero => exact Nat.zero_le _
  | succ m ih =>
    have := mx_b (f := fun x => V x (k - (m + 1))) (fun x => h x _) k
    show hpv V k m + mx (fun x => V x (k - (m + 1))) k ≤ (m + 1) * c
    rw [Nat.succ_mul]
    omega
theorem hope_le {k : Nat} {V : Nat → Nat → Nat} {o : Nat → Option Nat} (h : ∀ y x, o y = some x → x < k) : ∀ m, m ≤ k → fb_sm (gn V o) k ≤ fb_sm (gn V o) (k - m) + hpv V k m := by
  intro m
  induction m with
  | zero =>
    intro _
    exact Nat.le_refl _
  | succ m ih =>
    intro hm
    have h1 := ih (by omega)
    have h2 := fb_sm_succ (gn V o) (k - (m + 1))
    rw [show k - (m + 1) + 1 = k - m by omega] at h2
    have h3 : gn V o (k - (m + 1)) ≤ mx (fun x => V x (k - (m + 1))) k := by
      unfold gn
      cases hq : o (k - (m + 1)) with
      | none => exact Nat.zero_le _
      | some x => exact mx_le (f := fun x => V x (k - (m + 1))) k x (h _ x hq)
    show _ ≤ _ + (hpv V k m + mx (fun x => V x (k - (m + 1))) k)
    omega
theorem above_lt {o : Nat → Option Nat} {ab : Nat → Nat} {k p : Nat} (hF : FV o ab) (h : ∀ y x, o y = some x → x < k) : ∀ i, (ab i).testBit p = true → p < k := by
  refine fv_ind hF (fun i ih hp => ?_)
  cases hq : o i with
  | none =>
    rw [hF.2.1 i hq, Nat.zero_testBit] at hp
    cases hp
  | some q =>
    rcases ((hF.1 i q hq).2.2 p).mp hp with e | e
    · rw [e]
      exact h i q hq
    · exact ih q hq e
/-- a link that is barred is in no choice that goes on so -/
theorem bar_no {k n y x : Nat} {V : Nat → Nat → Nat} {B : Nat → Nat → Prop} {o o' : Nat → Option Nat} {ab bn : Nat → Nat} (hF : FV o ab) (hr : ∀ y' x, o y' = some x → y' < y) (hbn : ∀ i p, (bn i).testBit p = true → B p i) (hb : (ab x).testBit y = true ∨ brd n ab bn x y) (hV : VALo k V B o') (he : EXo y o o') : o' y ≠ some x := by
  intro hy
  obtain ⟨ab', h1, h2, h3⟩ := hV
  have hext : ∀ i p, (ab i).testBit p = true → (ab' i).testBit p = true := fun i p => ext_ab hF h1 (fun y' x' q => by rw [he y' (hr y' x' q)]; exact q) i
  have hyx : (ab' y).testBit x = true := ((h1.1 y x hy).2.2 x).mpr (Or.inl rfl)
  rcases hb with hb | ⟨i, hi, hi2, p, hp, hp2⟩
  · have := fv_trans h1 (hext x y hb) y hyx
    rw [h1.2.2.1 y] at this
    cases this
  · have q1 : (ab' y).testBit p = true := by
      rcases hp2 with e | e
      · rw [e]
        exact hyx
      · exact fv_trans h1 (hext x p e) y hyx
    have q2 : (ab' i).testBit p = true := by
      rcases hi2 with e | e
      · rw [e]
        exact q1
      · exact fv_trans h1 q1 i (hext i y e)
    exact h3 i p q2 (hbn i p hp)
section
variable {L : Nat} {xs : Nat → Int32} {d : Nat} {P : Option Value → am_I → am_J → Prop} {I : am_I} {J : am_J} {k : Nat} {V : Nat → Nat → Nat} {B : Nat → Nat → Prop} {bn : Nat → Nat} {t : Nat}
theorem fA_e : ∀ t, t < 7 → fA t = 82 + 2 * t ∧ fN t = 6 ∧ fB t = 78 := by decide
theorem copy_c (ht : t < 6) (h : ∀ I', (∀ g, g ≠ fA (t + 1) → I' g = I g) → (∀ i, i < 6 → I' (fA (t + 1)) i = I (fA t) i) → P none I' J) : am_To (am_XX L xs) d 90 0 [some (.ref (fH (t + 1))), some (.ref (fH t)), none] [] I J P := by
  obtain ⟨e1, e2, e3⟩ := fA_e t (by omega)
  obtain ⟨g1, g2, g3⟩ := fA_e (t + 1) (by omega)
  have lp : ∀ (m i : Nat) (I1 : am_I), i + m = 6 → (∀ g, g ≠ fA (t + 1) → I1 g = I g) → (∀ j, j < i → I1 (fA (t + 1)) j = I (fA t) j) → am_To (am_XX L xs) d 90 2 [some (.ref (fH (t + 1))), some (.ref (fH t)), some (.int (nI i))] [] I1 J P := by
    intro m
    induction m with
    | zero =>
      intro i I1 hi f1 f2
      have e : i = 6 := by omega
      subst e
      exact bk_90_2 _ I1 J t ht (i_t (by rw [g2]; exact nI_le (Nat.le_refl _) (by omega)) (h I1 f1 f2))
    | succ m ih =>
      intro i I1 hi f1 f2
      refine bk_90_2 _ I1 J t ht (i_le (fN (t + 1)) i rfl rfl (fun c => by omega) (fun _ => i_le (fN t) i rfl rfl (fun c => by omega) (fun _ => x_i i rfl (x_i i rfl ?_))))
      rw [nI_1]
      refine ih (i + 1) _ (by omega) (fun g hg => by rw [am_up_row hg]; exact f1 g hg) (fun j hj => ?_)
      by_cases e : j = i
      · rw [e, am_up_s, f1 _ (by omega)]
      · rw [am_up_k e]
        exact f2 j (by omega)
  exact bk_90_0 I J t ht (lp 6 0 I (by omega) (fun _ _ => rfl) (fun j hj => absurd hj (Nat.not_lt_zero j)))
/-- what the search knows all along -/
def SRC (k : Nat) (V : Nat → Nat → Nat) (bn : Nat → Nat) (I : am_I) : Prop := I 75 5 = nI k ∧ (∀ x y, x < k → y < k → I 77 (6 * x + y) = nI (V x y)) ∧ (∀ i, i < 6 → I 78 i = nI (bn i)) ∧ ∀ y, y ≤ k → I 79 y = nI (hpv V k (k - y))
theorem SRC_fr {I' : am_I} (h : SRC k V bn I) (h5 : I' 75 5 = I 75 5) (h1 : I' 77 = I 77) (h2 : I' 78 = I 78) (h3 : I' 79 = I 79) : SRC k V bn I' := by
  unfold SRC at *
  rw [h5, h1, h2, h3]
  exact h
theorem i6 {x y : Nat} : (nI x * (6 : Int32)) + nI y = nI (6 * x + y) := by
  rw [show nI x * (6 : Int32) = nI (x * 6) from pk_mul x 6, nI_add, Nat.mul_comm]
theorem descend_c (hk : k ≤ 6) (hV0 : ∀ x, V x x = 0) (hV : ∀ x y, V x y < 2 ^ 20) (hbn : ∀ i, bn i < 2 ^ 24) (hbB : ∀ i p, (bn i).testBit p = true → B p i) (hBb : ∀ i p, i < k → p < k → B p i → (bn i).testBit p = true) : ∀ (m y : Nat) (d : Nat) (P : Option Value → am_I → am_J → Prop) (g : Nat) (o : Nat → Option Nat) (ab : Nat → Nat) (I : am_I), y + m = k → SRC k V bn I → (∀ i, i < 6 → I (fA y) i = nI (ab i)) → I 75 6 = nI g → g < 2 ^ 25 → FV o ab → (∀ y' x, o y' = some x → y' < y ∧ x < k ∧ 0 < V x y') → (∀ i p, (ab i).testBit p = true → ¬ B p i) → (∀ I' g', (∀ h, h ≠ 75 → (h ≤ fA y ∨ 94 < h) → I' h = I h) → (∀ j, j ≠ 6 → I' 75 j = I 75 j) → I' 75 6 = nI g' → g' < 2 ^ 25 → g ≤ g' → (∀ o', VALo k V B o' → EXo y o o' → fb_sm (gn V o') k ≤ g') → (g' = g ∨ ∃ o', VALo k V B o' ∧ EXo y o o' ∧ fb_sm (gn V o') k = g') → P none I' J) → am_To (am_XX L xs) (d + m + 3) 89 0 [some (.ref 75), some (.int (nI y)), some (.int (nI (fb_sm (gn V o) y))), none, none] [] I J P := by
  intro m
  induction m with
  | zero =>
    intro y d P g o ab I hy hS hab hg hg25 hF hr hB h
    have ey : y = k := by omega
    subst ey
    have hrb : fb_sm (gn V o) y ≤ y * 2 ^ 20 := fb_sm_bound (fun i _ => by
      unfold gn
      cases o i with
      | none => exact Nat.zero_le _
      | some x => exact Nat.le_of_lt (hV x i))
    have hself : VALo y V B o := ⟨ab, hF, fun y' x q => ⟨(hr y' x q).1, (hr y' x q).2⟩, hB⟩
    have hsame : ∀ o', VALo y V B o' → EXo y o o' → fb_sm (gn V o') y = fb_sm (gn V o) y := fun o' _ he => fb_sm_cong (fun i hi => by
      unfold gn
      rw [he i hi])
    have fin : ∀ g', (if I 75 6 < nI (fb_sm (gn V o) y) then nI (fb_sm (gn V o) y) else I 75 6) = nI g' → g' < 2 ^ 25 → g ≤ g' → fb_sm (gn V o) y ≤ g' → (g' = g ∨ g' = fb_sm (gn V o) y) → am_To (am_XX L xs) (d + 0 + 3) 89 0 [some (.ref 75), some (.int (nI y)), some (.int (nI (fb_sm (gn V o) y))), none, none] [] I J P := fun g' e1 e2 e3 e4 e5 => by
      refine bk_89_0 _ _ I J (i_t (by rw [am_up_k (by decide), hS.1]; exact nI_le (Nat.le_refl _) (by omega)) ?_)
      rw [e1]
      refine h _ g' (fun t ht _ => am_up_row ht) (fun j hj => am_up_k hj) am_up_s e2 e3 (fun o' h1 h2 => by rw [hsame o' h1 h2]; exact e4) ?_
      rcases e5 with e5 | e5
      · exact Or.inl e5
      · exact Or.inr ⟨o, hself, fun _ _ => rfl, e5.symm⟩
    by_cases c : g < fb_sm (gn V o) y
    · exact fin (fb_sm (gn V o) y) (by rw [hg, if_pos (nI_lt c (by omega))]) (by omega) (by omega) (Nat.le_refl _) (Or.inr rfl)
    · exact fin g (by rw [hg, if_neg (fun z => c ((nI_ltI (by omega) (by omega)).mp z))]) hg25 (Nat.le_refl _) (by omega) (Or.inl rfl)
  | succ m ih =>
    intro y d P g o ab I hy hS hab hg hg25 hF hr hB h
    have hyk : y < k := by omega
    obtain ⟨fy1, fy2, fy3⟩ := fA_e y (by omega)
    obtain ⟨fz1, fz2, fz3⟩ := fA_e (y + 1) (by omega)
    have hrb : fb_sm (gn V o) y ≤ y * 2 ^ 20 := fb_sm_bound (fun i _ => by
      unfold gn
      cases o i with
      | none => exact Nat.zero_le _
      | some x => exact Nat.le_of_lt (hV x i))
    have hoy : ∀ i, y ≤ i → o i = none := fun i hi => by
      cases hq : o i with
      | none => rfl
      | some x =>
        have := (hr i x hq).1
        omega
    have hself : VALo k V B o := ⟨ab, hF, fun y' x q => ⟨by have := (hr y' x q).1; omega, (hr y' x q).2⟩, hB⟩
    have hsum : fb_sm (gn V o) k = fb_sm (gn V o) y := by
      have e := fb_sm_split (gn V o) y (k - y)
      rw [show y + (k - y) = k by omega] at e
      have z : fb_sm (fun i => gn V o (y + i)) (k - y) = 0 := by
        have : fb_sm (fun i => gn V o (y + i)) (k - y) ≤ (k - y) * 0 := fb_sm_bound (fun i _ => by
          unfold gn
          rw [hoy (y + i) (by omega)]
          exact Nat.le_refl 0)
        omega
      omega
    have hhp := hpv_le (k := k) (c := 2 ^ 20) (fun x y => Nat.le_of_lt (hV x y)) (k - y)
    have hhp2 : hpv V k (k - y) ≤ 6 * 2 ^ 20 := Nat.le_trans hhp (Nat.mul_le_mul_right _ (by omega))
    -- behind the first comparison
    have main : ∀ g1 (I1 : am_I), (∀ h, h ≠ 75 → I1 h = I h) → (∀ j, j ≠ 6 → I1 75 j = I 75 j) → I1 75 6 = nI g1 → g1 < 2 ^ 25 → g ≤ g1 → (g1 = g ∨ ∃ o', VALo k V B o' ∧ EXo y o o' ∧ fb_sm (gn V o') k = g1) → am_To (am_XX L xs) (d + (m + 1) + 3) 89 44 [some (.ref 75), some (.int (nI y)), some (.int (nI (fb_sm (gn V o) y))), some (.int (nI 0)), none] [] I1 J P := by
      intro g1 I1 f1 f2 f3 f4 f5 f6
      -- the loop over x
      have lp : ∀ (q x g2 : Nat) (I2 : am_I), x + q = k → (∀ h, h ≠ 75 → (h ≤ fA y ∨ 94 < h) → I2 h = I h) → (∀ j, j ≠ 6 → I2 75 j = I 75 j) → I2 75 6 = nI g2 → g2 < 2 ^ 25 → g ≤ g2 → (∀ o' x', VALo k V B o' → EXo y o o' → o' y = some x' → x' < x → fb_sm (gn V o') k ≤ g2) → (g2 = g ∨ ∃ o', VALo k V B o' ∧ EXo y o o' ∧ fb_sm (gn V o') k = g2) → am_To (am_XX L xs) (d + (m + 1) + 3) 89 44 [some (.ref 75), some (.int (nI y)), some (.int (nI (fb_sm (gn V o) y))), some (.int (nI x)), none] [] I2 J P := by
        intro q
        induction q with
        | zero =>
          intro x g2 I2 hx k1 k2 k3 k4 k5 k6 k7
          have ex : x = k := by omega
          subst ex
          have hS2 : SRC x V bn I2 := SRC_fr hS (k2 5 (by decide)) (k1 77 (by decide) (by omega)) (k1 78 (by decide) (by omega)) (k1 79 (by decide) (by omega))
          refine bk_89_44 _ _ _ I2 J (i_t (by rw [hS2.1]; exact nI_le (Nat.le_refl _) (by omega)) (x_i (y + 1) (nI_1 y) ?_))
          rw [vL_e (y + 1) (by omega)]
          refine bk_89_143 _ _ I2 J (y + 1) (by omega) (x_i y rfl ?_)
          rw [vL_e y (by omega)]
          refine bk_89_149n _ _ I2 J y (by omega) (copy_c (by omega) (fun I3 c1 c2 => bk_89_152 _ _ I3 J ?_))
          rw [nI_1]
          have hS3 : SRC x V bn I3 := SRC_fr hS2 (by rw [c1 75 (by omega)]) (c1 77 (by omega)) (c1 78 (by omega)) (c1 79 (by omega))
          have es : fb_sm (gn V o) y = fb_sm (gn V o) (y + 1) := by
            rw [fb_sm_succ]
            have : gn V o y = 0 := by
              unfold gn
              rw [hoy y (Nat.le_refl y)]
            omega
          rw [es]
          refine ih (y + 1) d _ g2 o ab I3 (by omega) hS3 (fun i hi => ?_) (by rw [c1 75 (by omega)]; exact k3) k4 hF (fun y' x' q => ⟨by have := (hr y' x' q).1; omega, (hr y' x' q).2⟩) hB (fun I4 g4 d1 d2 d3 d4 d5 d6 d7 => bk_89_160 I4 J ?_)
          · rw [c2 i hi, k1 (fA y) (by omega) (by omega)]
            exact hab i hi
          · refine h I4 g4 (fun t ht ht2 => ?_) (fun j hj => ?_) d3 d4 (by omega) (fun o' v1 v2 => ?_) ?_
            · rw [d1 t ht (by omega), c1 t (by omega)]
              exact k1 t ht ht2
            · rw [d2 j hj, c1 75 (by omega)]
              exact k2 j hj
            · cases hq : o' y with
              | none =>
                refine d6 o' v1 (fun i hi => ?_)
                by_cases e : i = y
                · rw [e, hq, hoy y (Nat.le_refl y)]
                · exact v2 i (by omega)
              | some x' =>
                have hx' : x' < x := by
                  obtain ⟨ab', w1, w2, w3⟩ := v1
                  exact (w2 y x' hq).2.1
                have := k6 o' x' v1 v2 hq hx'
                omega
            · rcases d7 with d7 | ⟨o', v1, v2, v3⟩
              · rw [d7]
                exact k7
              · exact Or.inr ⟨o', v1, fun i hi => v2 i (by omega), v3⟩
        | succ q ihq =>
          intro x g2 I2 hx k1 k2 k3 k4 k5 k6 k7
          have hS2 : SRC k V bn I2 := SRC_fr hS (k2 5 (by decide)) (k1 77 (by decide) (by omega)) (k1 78 (by decide) (by omega)) (k1 79 (by decide) (by omega))
          have hab2 : ∀ i, i < 6 → I2 (fA y) i = nI (ab i) := fun i hi => by
            rw [k1 (fA y) (by omega) (by omega)]
            exact hab i hi
          have e77 : I2 77 (6 * x + y) = nI (V x y) := hS2.2.1 x y (by omega) hyk
          have hVxy := hV x y
          have nxt : (∀ o', VALo k V B o' → EXo y o o' → o' y ≠ some x) → am_To (am_XX L xs) (d + (m + 1) + 3) 89 44 [some (.ref 75), some (.int (nI y)), some (.int (nI (fb_sm (gn V o) y))), some (.int (nI x + 1)), none] [] I2 J P := fun hno => by
            rw [nI_1]
            refine ihq (x + 1) g2 I2 (by omega) k1 k2 k3 k4 k5 (fun o' x' v1 v2 v3 v4 => ?_) k7
            by_cases e : x' = x
            · rw [e] at v3
              exact absurd v3 (hno o' v1 v2)
            · exact k6 o' x' v1 v2 v3 (by omega)
          refine bk_89_44 _ _ _ I2 J (i_le k x hS2.1 rfl (fun c => by omega) (fun _ => x_i (6 * x + y) i6 (i_le (V x y) 0 e77 rfl (fun c => nxt (fun o' v1 v2 v3 => ?_)) (fun c => x_i y rfl ?_))))
          · obtain ⟨ab', w1, w2, w3⟩ := v1
            have := (w2 y x v3).2.2
            omega
          · rw [vL_e y (by omega), e77]
            refine bk_89_76 _ _ _ _ I2 J y (by omega) ?_
            have hbr : ∀ s0 : Int32, s0 ≠ 0 → ((ab x).testBit y = true ∨ brd 6 ab bn x y) → am_To (am_XX L xs) (d + (m + 1) + 3) 89 85 [some (.ref 75), some (.int (nI y)), some (.int (nI (fb_sm (gn V o) y))), some (.int (nI x)), some (.int (nI (V x y)))] [.int s0] I2 J P := fun s0 hs0 hb => bk_89_85 _ _ _ _ _ I2 J (i_f hs0 (nxt (fun o' v1 v2 => bar_no hF (fun y' x' q => (hr y' x' q).1) hbB hb v1 v2)))
            rw [← fy3]
            refine barof_c (t := y) (ab := ab) (bn := bn) (by omega) (fun i hi => hab2 i (by omega)) hF.2.2.2 (fun i hi => by rw [fy3]; exact hS2.2.2.1 i (by omega)) hbn (by omega) (by omega) (fun z => hbr 3 (by decide) (Or.inl z)) (fun z z2 => hbr 4 (by decide) (Or.inr (by rw [fy2] at z2; exact z2))) (fun z z2 => ?_)
            rw [fy2] at z2
            -- x becomes the parent of y
            have hxy : x ≠ y := fun e => by
              subst e
              have := hV0 x
              omega
            refine bk_89_85 _ _ _ _ _ I2 J (i_t rfl (x_i (y + 1) (nI_1 y) ?_))
            rw [vL_e (y + 1) (by omega)]
            refine bk_89_96 _ _ _ _ I2 J (y + 1) (by omega) (x_i y rfl ?_)
            rw [vL_e y (by omega)]
            refine bk_89_102n _ _ _ _ I2 J y (by omega) (copy_c (by omega) (fun I3 c1 c2 => bk_89_105 _ _ _ _ I3 J (x_i (y + 1) (nI_1 y) ?_)))
            rw [vL_e (y + 1) (by omega)]
            refine bk_89_113 _ _ _ _ I3 J (y + 1) (by omega) (join_c (t := y + 1) (ab := ab) (by omega) (fun i hi => by rw [c2 i (by omega)]; exact hab2 i (by omega)) hF.2.2.2 (by omega) (by omega) (fun I4 j1 j2 => bk_89_118 _ _ _ _ I4 J ?_))
            have hS4 : SRC k V bn I4 := SRC_fr hS2 (by rw [j1 75 (by omega), c1 75 (by omega)]) (by rw [j1 77 (by omega), c1 77 (by omega)]) (by rw [j1 78 (by omega), c1 78 (by omega)]) (by rw [j1 79 (by omega), c1 79 (by omega)])
            have hF4 := fv_join hF (show x < 24 by omega) (show y < 24 by omega) hxy (hoy y (Nat.le_refl y)) z
            have es : nI (fb_sm (gn V o) y) + nI (V x y) = nI (fb_sm (gn V (upf o y (some x))) (y + 1)) := by
              rw [nI_add, fb_sm_succ]
              congr 1
              have a1 : fb_sm (gn V (upf o y (some x))) y = fb_sm (gn V o) y := fb_sm_cong (fun i hi => by
                unfold gn
                rw [upf_n (by omega)])
              have a2 : gn V (upf o y (some x)) y = V x y := by
                unfold gn
                rw [upf_s]
              rw [a1, a2]
            rw [es, nI_1]
            refine ih (y + 1) d _ g2 (upf o y (some x)) (jn ab x y) I4 (by omega) hS4 (fun i hi => j2 i (by omega)) (by rw [j1 75 (by omega), c1 75 (by omega)]; exact k3) k4 hF4 (fun y' x' q => ?_) (fun i p hp hBp => ?_) (fun I5 g5 d1 d2 d3 d4 d5 d6 d7 => bk_89_129 _ _ _ I5 J ?_)
            · by_cases e : y' = y
              · rw [e, upf_s] at q
                cases q
                exact ⟨by omega, by omega, by rw [e]; exact c⟩
              · rw [upf_n e] at q
                have := hr y' x' q
                exact ⟨by omega, this.2⟩
            · rw [jn_bit] at hp
              rcases hp with hp | ⟨hp1, hp2⟩
              · exact hB i p hp hBp
              · have hik : i < k := by
                  rcases hp1 with e | e
                  · omega
                  · cases hq : o i with
                    | none =>
                      rw [hF.2.1 i hq, Nat.zero_testBit] at e
                      cases e
                    | some x' =>
                      have := (hr i x' hq).1
                      omega
                have hpk : p < k := by
                  rcases hp2 with e | e
                  · omega
                  · -- what is above x is a parent of some one
                    exact above_lt hF (fun y' x' q => (hr y' x' q).2.1) x e
                exact z2 ⟨i, by omega, hp1, p, hBb i p hik hpk hBp, hp2⟩
            · rw [nI_1]
              refine ihq (x + 1) g5 I5 (by omega) (fun t ht ht2 => ?_) (fun j hj => ?_) d3 d4 (by omega) (fun o' x' v1 v2 v3 v4 => ?_) ?_
              · rw [d1 t ht (by omega), j1 t (by omega), c1 t (by omega)]
                exact k1 t ht ht2
              · rw [d2 j hj, j1 75 (by omega), c1 75 (by omega)]
                exact k2 j hj
              · by_cases e : x' = x
                · rw [e] at v3
                  refine d6 o' v1 (fun i hi => ?_)
                  by_cases e2 : i = y
                  · rw [e2, upf_s, v3]
                  · rw [upf_n e2]
                    exact v2 i (by omega)
                · have := k6 o' x' v1 v2 v3 (by omega)
                  omega
              · rcases d7 with d7 | ⟨o', v1, v2, v3⟩
                · rw [d7]
                  exact k7
                · refine Or.inr ⟨o', v1, fun i hi => ?_, v3⟩
                  rw [v2 i (by omega), upf_n (by omega)]
      exact lp k 0 g1 I1 (by omega) (fun t ht _ => f1 t ht) f2 f3 f4 f5 (fun o' x' _ _ _ hx => absurd hx (Nat.not_lt_zero x')) f6
    -- the greater of what there is and what is reached
    have fin : ∀ g', (if I 75 6 < nI (fb_sm (gn V o) y) then nI (fb_sm (gn V o) y) else I 75 6) = nI g' → g' < 2 ^ 25 → g ≤ g' → fb_sm (gn V o) y ≤ g' → (g' = g ∨ g' = fb_sm (gn V o) y) → am_To (am_XX L xs) (d + (m + 1) + 3) 89 0 [some (.ref 75), some (.int (nI y)), some (.int (nI (fb_sm (gn V o) y))), none, none] [] I J P := fun g' e1 e2 e3 e4 e5 => by
      have e5' : g' = g ∨ ∃ o', VALo k V B o' ∧ EXo y o o' ∧ fb_sm (gn V o') k = g' := by
        rcases e5 with e5 | e5
        · exact Or.inl e5
        · exact Or.inr ⟨o, hself, fun _ _ => rfl, by rw [hsum]; exact e5.symm⟩
      refine bk_89_0 _ _ I J ?_
      rw [e1]
      have q5 : am_up I 75 6 (nI g') 75 5 = nI k := by
        rw [am_up_k (by decide)]
        exact hS.1
      have q79 : nI (fb_sm (gn V o) y) + am_up I 75 6 (nI g') 79 y = nI (fb_sm (gn V o) y + hpv V k (k - y)) := by
        rw [am_up_h (by decide), hS.2.2.2 y (by omega), nI_add]
      refine i_le k y q5 rfl (fun c => by omega) (fun _ => i_le 6 y rfl rfl (fun c => by omega) (fun _ => x_i y rfl (i_lt g' (fb_sm (gn V o) y + hpv V k (k - y)) am_up_s q79 (fun c => ?_) (fun c => ?_))))
      · exact main g' _ (fun t ht => am_up_row ht) (fun j hj => am_up_k hj) am_up_s e2 e3 e5'
      · refine h _ g' (fun t ht _ => am_up_row ht) (fun j hj => am_up_k hj) am_up_s e2 e3 (fun o' v1 v2 => ?_) e5'
        clear e5'
        obtain ⟨ab', w1, w2, w3⟩ := v1
        have h1 := hope_le (V := V) (fun y' x' q => (w2 y' x' q).2.1) (k - y) (by omega)
        rw [show k - (k - y) = y by omega] at h1
        have h2 : fb_sm (gn V o') y = fb_sm (gn V o) y := fb_sm_cong (fun i hi => by
          unfold gn
          rw [v2 i hi])
        omega
    by_cases c : g < fb_sm (gn V o) y
    · exact fin (fb_sm (gn V o) y) (by rw [hg, if_pos (nI_lt c (by omega))]) (by omega) (by omega) (Nat.le_refl _) (Or.inr rfl)
    · exact fin g (by rw [hg, if_neg (fun z => c ((nI_ltI (by omega) (by omega)).mp z))]) hg25 (Nat.le_refl _) (by omega) (Or.inl rfl)
end
