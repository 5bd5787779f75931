/-! FORESTS: parents and the bits of all above; barOf, join, isOver, fill -/
def dep (ab : Nat → Nat) (y : Nat) : Nat := fb_ct (fun z => (ab y).testBit z) 24
def FV (par : Nat → Option Nat) (ab : Nat → Nat) : Prop := (∀ y x, par y = some x → y < 24 ∧ x < 24 ∧ ∀ z, (ab y).testBit z = true ↔ z = x ∨ (ab x).testBit z = true) ∧ (∀ y, par y = none → ab y = 0) ∧ (∀ y, (ab y).testBit y = false) ∧ (∀ y, ab y < 2 ^ 24)
def jn (ab : Nat → Nat) (x y i : Nat) : Nat := if i = y ∨ (ab i).testBit y = true then ab i ||| (ab x ||| 2 ^ x) else ab i
theorem fv_0 : FV (fun _ => none) (fun _ => 0) := ⟨fun y x h => (by cases h), fun _ _ => rfl, fun y => Nat.zero_testBit y, fun _ => (by decide : 0 < 2 ^ 24)⟩
theorem ct_one {x : Nat} : ∀ {n : Nat}, x < n → fb_ct (fun z => decide (z = x)) n = 1 := by
  intro n h
  have h1 := fb_ct_upd (fun _ => false) true h
  have h2 : fb_ct (fun _ => false) n = 0 := fb_ct_zero.mpr (fun _ _ => rfl)
  have h3 : fb_ct (fun z => decide (z = x)) n = fb_ct (fun k => if k = x then true else (fun _ => false) k) n := fb_ct_cong (fun k _ => by
    by_cases e : k = x
    · rw [if_pos e, decide_eq_true e]
    · rw [if_neg e, decide_eq_false e])
  rw [h3]
  simp only [h2] at h1
  simp at h1
  simpa using h1
theorem dep_up {par : Nat → Option Nat} {ab : Nat → Nat} (h : FV par ab) {y x : Nat} (hp : par y = some x) : dep ab y = dep ab x + 1 := by
  obtain ⟨hy, hx, hz⟩ := h.1 y x hp
  have e : dep ab y = fb_ct (fun z => (ab x).testBit z || decide (z = x)) 24 := fb_ct_cong (fun z _ => by
    rw [Bool.eq_iff_iff, hz z, Bool.or_eq_true, decide_eq_true_iff]
    exact or_comm)
  rw [e, fb_ct_or, ct_one hx]
  · rfl
  · intro k _ q
    have e2 := of_decide_eq_true q.2
    subst e2
    rw [h.2.2.1 k] at q
    exact absurd q.1 (by decide)
theorem dep_lt {par : Nat → Option Nat} {ab : Nat → Nat} (h : FV par ab) {y : Nat} (hy : y < 24) : dep ab y < 24 := by
  have h1 := fb_ct_le (fun z => (ab y).testBit z) 24
  rcases Nat.lt_or_ge (dep ab y) 24 with c | c
  · exact c
  · have e : fb_ct (fun z => (ab y).testBit z) 24 = 24 := Nat.le_antisymm h1 c
    have := fb_ct_all.mp e y hy
    rw [h.2.2.1 y] at this
    cases this
theorem fv_ind {par : Nat → Option Nat} {ab : Nat → Nat} (h : FV par ab) {C : Nat → Prop} (hs : ∀ y, (∀ x, par y = some x → C x) → C y) : ∀ y, C y := by
  have key : ∀ n y, dep ab y < n → C y := by
    intro n
    induction n with
    | zero => intro y hy; omega
    | succ n ih =>
      intro y hy
      refine hs y (fun x hx => ih x ?_)
      have := dep_up h hx
      omega
  intro y
  exact key (dep ab y + 1) y (by omega)
theorem fv_trans {par : Nat → Option Nat} {ab : Nat → Nat} (h : FV par ab) {y z : Nat} (hyz : (ab y).testBit z = true) : ∀ i, (ab i).testBit y = true → (ab i).testBit z = true := by
  refine fv_ind h (fun i ih hi => ?_)
  cases hp : par i with
  | none =>
    rw [h.2.1 i hp, Nat.zero_testBit] at hi
    cases hi
  | some p =>
    obtain ⟨-, -, hq⟩ := h.1 i p hp
    rw [hq] at hi ⊢
    rcases hi with e | e
    · subst e
      exact Or.inr hyz
    · exact Or.inr (ih p hp e)
theorem jn_bit {ab : Nat → Nat} {x y i z : Nat} : (jn ab x y i).testBit z = true ↔ (ab i).testBit z = true ∨ ((i = y ∨ (ab i).testBit y = true) ∧ (z = x ∨ (ab x).testBit z = true)) := by
  unfold jn
  by_cases c : i = y ∨ (ab i).testBit y = true
  · rw [if_pos c, Nat.testBit_or, fb_bit_set, Bool.or_eq_true, Bool.or_eq_true, decide_eq_true_iff]
    constructor
    · rintro (q | q | q)
      · exact Or.inl q
      · exact Or.inr ⟨c, Or.inr q⟩
      · exact Or.inr ⟨c, Or.inl q⟩
    · rintro (q | ⟨-, q | q⟩)
      · exact Or.inl q
      · exact Or.inr (Or.inr q)
      · exact Or.inr (Or.inl q)
  · rw [if_neg c]
    exact ⟨Or.inl, fun q => q.elim id (fun q => absurd q.1 c)⟩
theorem fv_join {par : Nat → Option Nat} {ab : Nat → Nat} (h : FV par ab) {x y : Nat} (hx : x < 24) (hy : y < 24) (hxy : x ≠ y) (hp : par y = none) (hr : (ab x).testBit y = false) : FV (upf par y (some x)) (jn ab x y) := by
  have hax : jn ab x y x = ab x := if_neg (fun q => by
    rcases q with q | q
    · exact hxy q
    · rw [hr] at q
      cases q)
  refine ⟨fun i p hip => ?_, fun i hi => ?_, fun i => ?_, fun i => ?_⟩
  · by_cases e : i = y
    · subst e
      rw [upf_s] at hip
      cases hip
      refine ⟨hy, hx, fun z => ?_⟩
      rw [jn_bit, hax, h.2.1 i hp, Nat.zero_testBit]
      constructor
      · rintro (q | ⟨-, q⟩)
        · cases q
        · exact q
      · intro q
        exact Or.inr ⟨Or.inl rfl, q⟩
    · rw [upf_n e] at hip
      obtain ⟨h1, h2, h3⟩ := h.1 i p hip
      refine ⟨h1, h2, fun z => ?_⟩
      rw [jn_bit, jn_bit, h3 z, h3 y]
      constructor
      · rintro ((q | q) | ⟨q | q | q, q2⟩)
        · exact Or.inl q
        · exact Or.inr (Or.inl q)
        · exact absurd q e
        · exact Or.inr (Or.inr ⟨Or.inl q.symm, q2⟩)
        · exact Or.inr (Or.inr ⟨Or.inr q, q2⟩)
      · rintro (q | q | ⟨q | q, q2⟩)
        · exact Or.inl (Or.inl q)
        · exact Or.inl (Or.inr q)
        · exact Or.inr ⟨Or.inr (Or.inl q.symm), q2⟩
        · exact Or.inr ⟨Or.inr (Or.inr q), q2⟩
  · by_cases e : i = y
    · subst e
      rw [upf_s] at hi
      cases hi
    · rw [upf_n e] at hi
      unfold jn
      rw [if_neg]
      · exact h.2.1 i hi
      · rw [h.2.1 i hi, Nat.zero_testBit]
        rintro (q | q)
        · exact e q
        · cases q
  · cases hb : (jn ab x y i).testBit i with
    | false => rfl
    | true =>
      rw [jn_bit, h.2.2.1 i] at hb
      rcases hb with q | ⟨q1, q2⟩
      · cases q
      · rcases q1 with q1 | q1
        · subst q1
          rcases q2 with q2 | q2
          · exact absurd q2.symm hxy
          · rw [hr] at q2
            cases q2
        · rcases q2 with q2 | q2
          · subst q2
            rw [hr] at q1
            cases q1
          · have := fv_trans h q1 x q2
            rw [hr] at this
            cases this
  · unfold jn
    split
    · exact Nat.or_lt_two_pow (h.2.2.2 i) (Nat.or_lt_two_pow (h.2.2.2 x) (Nat.pow_lt_pow_right (by decide) hx))
    · exact h.2.2.2 i
theorem and_ne {a b : Nat} : a &&& b ≠ 0 ↔ ∃ p, a.testBit p = true ∧ b.testBit p = true := by
  constructor
  · intro h
    obtain ⟨p, hp⟩ := Nat.exists_testBit_of_ne_zero h
    rw [Nat.testBit_and, Bool.and_eq_true] at hp
    exact ⟨p, hp⟩
  · rintro ⟨p, h1, h2⟩ h0
    have h3 : (a &&& b).testBit p = true := by rw [Nat.testBit_and, h1, h2]; rfl
    rw [h0, Nat.zero_testBit] at h3
    cases h3
theorem bit_24 {u p : Nat} (hu : u < 2 ^ 24) (h : u.testBit p = true) : p < 24 := by
  rcases Nat.lt_or_ge p 24 with c | c
  · exact c
  · have : u < 2 ^ p := Nat.lt_of_lt_of_le hu (Nat.pow_le_pow_right (by decide) c)
    rw [Nat.testBit_lt_two_pow this] at h
    cases h
theorem fN_le : ∀ t, t < 8 → fN t ≤ 24 ∧ 0 < fN t := by decide
theorem fA_ne : ∀ t, t < 8 → fA t ≠ fB t := by decide
section
variable {L : Nat} {xs : Nat → Int32} {d : Nat} {P : Option Value → am_I → am_J → Prop} {I : am_I} {J : am_J} {x y t : Nat} {ab bn : Nat → Nat} {par : Nat → Option Nat}
theorem isorlower_c (ht : t < 8) (hab : ∀ i, i < fN t → I (fA t) i = nI (ab i)) (h24 : ∀ i, ab i < 2 ^ 24) (hx : x < fN t) (hy : y < 24) (h1 : x = y ∨ (ab x).testBit y = true → P (some (.int 1)) I J) (h0 : ¬ (x = y ∨ (ab x).testBit y = true) → P (some (.int 0)) I J) : am_To (am_XX L xs) (d + 1) 63 0 [some (.ref (fH t)), some (.int (nI x)), some (.int (nI y))] [] I J P := by
  have hN := fN_le t ht
  have := h24 x
  refine bk_63_0 _ _ I J t ht (i_eq x y rfl rfl (fun c => h1 (Or.inl c)) (fun c => x_i x rfl (hasbit_c (hab x hx) rfl (by omega) (by omega) (fun z => ?_) (fun z => ?_))))
  · refine bk_63_15 0 I J (i_t rfl (h0 (fun q => ?_)))
    rcases q with q | q
    · exact c q
    · rw [z] at q
      cases q
  · exact bk_63_15 1 I J (i_f (by decide) (h1 (Or.inr z)))
/-- what bars x from y in a forest of n members: 3, 4 or 0 -/
def brd (n : Nat) (ab bn : Nat → Nat) (x y : Nat) : Prop := ∃ i, i < n ∧ (i = y ∨ (ab i).testBit y = true) ∧ ∃ p, (bn i).testBit p = true ∧ (p = x ∨ (ab x).testBit p = true)
theorem barof_c (ht : t < 8) (hab : ∀ i, i < fN t → I (fA t) i = nI (ab i)) (h24 : ∀ i, ab i < 2 ^ 24) (hbn : ∀ i, i < fN t → I (fB t) i = nI (bn i)) (hb24 : ∀ i, bn i < 2 ^ 24) (hx : x < fN t) (hy : y < fN t) (h3 : (ab x).testBit y = true → P (some (.int 3)) I J) (h4 : (ab x).testBit y = false → brd (fN t) ab bn x y → P (some (.int 4)) I J) (h0 : (ab x).testBit y = false → ¬ brd (fN t) ab bn x y → P (some (.int 0)) I J) : am_To (am_XX L xs) (d + 2) 61 0 [some (.ref (fH t)), some (.int (nI x)), some (.int (nI y)), some (.ref (fB t)), none, none] [] I J P := by
  have hN := fN_le t ht
  have hax := h24 x
  refine bk_61_0 _ _ I J t ht (x_i x rfl (hasbit_c (hab x hx) rfl (by omega) (by omega) (fun z => ?_) (fun z => ?_)))
  · refine bk_61_10 _ _ 0 I J t ht (i_t rfl (x_i x rfl ?_))
    rw [hab x hx, one_shl (by omega), fa_or]
    have lp : ∀ (m i : Nat), i + m = fN t → (∀ k, k < i → ¬ ((k = y ∨ (ab k).testBit y = true) ∧ ∃ p, (bn k).testBit p = true ∧ (p = x ∨ (ab x).testBit p = true))) → am_To (am_XX L xs) (d + 2) 61 30 [some (.ref (fH t)), none, some (.int (nI y)), some (.ref (fB t)), some (.int (nI (ab x ||| 2 ^ x))), some (.int (nI i))] [] I J P := by
      intro m
      induction m with
      | zero =>
        intro i hi hk
        have e : i = fN t := by omega
        subst e
        refine bk_61_30 _ _ _ I J t ht (i_t (nI_le (Nat.le_refl _) (by omega)) (h0 z (fun q => ?_)))
        obtain ⟨i, hi, q1, q2⟩ := q
        exact hk i hi ⟨q1, q2⟩
      | succ m ih =>
        intro i hi hk
        have hbi := hb24 i
        have nxt : ¬ ((i = y ∨ (ab i).testBit y = true) ∧ ∃ p, (bn i).testBit p = true ∧ (p = x ∨ (ab x).testBit p = true)) → am_To (am_XX L xs) (d + 2) 61 30 [some (.ref (fH t)), none, some (.int (nI y)), some (.ref (fB t)), some (.int (nI (ab x ||| 2 ^ x))), some (.int (nI i + 1))] [] I J P := fun q => by
          rw [nI_1]
          refine ih (i + 1) (by omega) (fun k hk2 => ?_)
          by_cases e : k = i
          · rw [e]
            exact q
          · exact hk k (by omega)
        refine bk_61_30 _ _ _ I J t ht (i_le (fN t) i rfl rfl (fun c => by omega) (fun _ => i_le (fN t) i rfl rfl (fun c => by omega) (fun _ => isorlower_c ht hab h24 (by omega) (by omega) (fun q => ?_) (fun q => ?_))))
        · refine bk_61_54 _ _ _ 1 I J t ht (i_f (by decide) (x_i i rfl ?_))
          rw [hbn i (by omega), fa_and]
          have hle : bn i &&& (ab x ||| 2 ^ x) ≤ bn i := Nat.and_le_left
          have key : bn i &&& (ab x ||| 2 ^ x) ≠ 0 ↔ ∃ p, (bn i).testBit p = true ∧ (p = x ∨ (ab x).testBit p = true) := by
            rw [and_ne]
            constructor
            · rintro ⟨p, p1, p2⟩
              rw [fb_bit_set, Bool.or_eq_true, decide_eq_true_iff] at p2
              exact ⟨p, p1, p2.symm⟩
            · rintro ⟨p, p1, p2⟩
              refine ⟨p, p1, ?_⟩
              rw [fb_bit_set, Bool.or_eq_true, decide_eq_true_iff]
              exact p2.symm
          refine i_eq (bn i &&& (ab x ||| 2 ^ x)) 0 rfl rfl (fun c => nxt (fun q2 => key.mpr q2.2 c)) (fun c => h4 z ⟨i, by omega, q, key.mp c⟩)
        · exact bk_61_54 _ _ _ 0 I J t ht (i_t rfl (nxt (fun q2 => q q2.1)))
    exact lp (fN t) 0 (by omega) (fun k hk => absurd hk (by omega))
  · exact bk_61_10 _ _ 1 I J t ht (i_f (by decide) (h3 z))
theorem join_c (ht : t < 8) (hab : ∀ i, i < fN t → I (fA t) i = nI (ab i)) (h24 : ∀ i, ab i < 2 ^ 24) (hx : x < fN t) (hy : y < fN t) (h : ∀ I', (∀ g, g ≠ fA t → I' g = I g) → (∀ i, i < fN t → I' (fA t) i = nI (jn ab x y i)) → P none I' J) : am_To (am_XX L xs) (d + 2) 64 0 [some (.ref (fH t)), some (.int (nI x)), some (.int (nI y)), none, none] [] I J P := by
  have hN := fN_le t ht
  have hax := h24 x
  refine bk_64_0 _ _ I J t ht (x_i x rfl ?_)
  rw [hab x hx, one_shl (by omega), fa_or]
  have lp : ∀ (m i : Nat) (I1 : am_I), i + m = fN t → (∀ g, g ≠ fA t → I1 g = I g) → (∀ k, k < fN t → I1 (fA t) k = nI (if k < i then jn ab x y k else ab k)) → am_To (am_XX L xs) (d + 2) 64 14 [some (.ref (fH t)), none, some (.int (nI y)), some (.int (nI (ab x ||| 2 ^ x))), some (.int (nI i))] [] I1 J P := by
    intro m
    induction m with
    | zero =>
      intro i I1 hi f1 f2
      have e : i = fN t := by omega
      subst e
      refine bk_64_14 _ _ _ I1 J t ht (i_t (nI_le (Nat.le_refl _) (by omega)) (h I1 f1 (fun i hi => ?_)))
      rw [f2 i hi, if_pos hi]
    | succ m ih =>
      intro i I1 hi f1 f2
      have hii : i < fN t := by omega
      have e0 : I1 (fA t) i = nI (ab i) := by rw [f2 i hii, if_neg (by omega)]
      have := h24 i
      refine bk_64_14 _ _ _ I1 J t ht (i_le (fN t) i rfl rfl (fun c => by omega) (fun _ => ?_))
      refine bk_63_0 _ _ I1 J t ht ?_
      have gt : (i = y ∨ (ab i).testBit y = true) → am_To (am_XX L xs) (d + 2) 64 31 [some (.ref (fH t)), none, some (.int (nI y)), some (.int (nI (ab x ||| 2 ^ x))), some (.int (nI i))] [.int 1] I1 J P := fun q => by
        refine bk_64_31 _ _ _ 1 I1 J t ht (i_f (by decide) (x_i i rfl (x_i i rfl ?_)))
        rw [e0, fa_or, nI_1]
        refine ih (i + 1) _ (by omega) (fun g hg => by rw [am_up_row hg]; exact f1 g hg) (fun k hk => ?_)
        by_cases e : k = i
        · subst e
          rw [am_up_s, if_pos (by omega)]
          unfold jn
          rw [if_pos q]
        · rw [am_up_k e, f2 k hk]
          by_cases c : k < i
          · rw [if_pos c, if_pos (by omega)]
          · rw [if_neg c, if_neg (by omega)]
      have gf : ¬ (i = y ∨ (ab i).testBit y = true) → am_To (am_XX L xs) (d + 2) 64 31 [some (.ref (fH t)), none, some (.int (nI y)), some (.int (nI (ab x ||| 2 ^ x))), some (.int (nI i))] [.int 0] I1 J P := fun q => by
        refine bk_64_31 _ _ _ 0 I1 J t ht (i_t rfl ?_)
        rw [nI_1]
        refine ih (i + 1) _ (by omega) f1 (fun k hk => ?_)
        rw [f2 k hk]
        by_cases e : k = i
        · subst e
          rw [if_neg (by omega), if_pos (by omega)]
          unfold jn
          rw [if_neg q]
        · by_cases c : k < i
          · rw [if_pos c, if_pos (by omega)]
          · rw [if_neg c, if_neg (by omega)]
      refine i_eq i y rfl rfl (fun c => gt (Or.inl c)) (fun c => x_i i rfl (hasbit_c e0 rfl (by omega) (by omega) (fun z => bk_63_15 0 I1 J (i_t rfl (gf (fun q => ?_)))) (fun z => bk_63_15 1 I1 J (i_f (by decide) (gt (Or.inr z))))))
      rcases q with q | q
      · exact c q
      · rw [z] at q
        cases q
  exact lp (fN t) 0 I (by omega) (fun _ _ => rfl) (fun k hk => by rw [if_neg (by omega)]; exact hab k hk)
theorem lower_c (ht : t < 8) (hab : ∀ i, i < fN t → I (fA t) i = nI (ab i)) (h24 : ∀ i, ab i < 2 ^ 24) (hx : x < 24) (h : ∀ u, u < 2 ^ 24 → (∀ z, u.testBit z = true ↔ z < fN t ∧ (ab z).testBit x = true) → P (some (.int (nI u))) I J) : am_To (am_XX L xs) (d + 1) 70 0 [some (.ref (fH t)), some (.int (nI x)), none, none] [] I J P := by
  have hN := fN_le t ht
  have lp : ∀ (m i u : Nat), i + m = fN t → u < 2 ^ 24 → (∀ z, u.testBit z = true ↔ z < i ∧ (ab z).testBit x = true) → am_To (am_XX L xs) (d + 1) 70 4 [some (.ref (fH t)), some (.int (nI x)), some (.int (nI u)), some (.int (nI i))] [] I J P := by
    intro m
    induction m with
    | zero =>
      intro i u hi hu hz
      have e : i = fN t := by omega
      subst e
      exact bk_70_4 _ _ _ I J t ht (i_t (nI_le (Nat.le_refl _) (by omega)) (h u hu hz))
    | succ m ih =>
      intro i u hi hu hz
      have := h24 i
      refine bk_70_4 _ _ _ I J t ht (i_le (fN t) i rfl rfl (fun c => by omega) (fun _ => x_i i rfl (hasbit_c (hab i (by omega)) rfl (by omega) (by omega) (fun q => ?_) (fun q => ?_))))
      · refine bk_70_23 _ _ _ 0 I J t ht (i_t rfl ?_)
        rw [nI_1]
        refine ih (i + 1) u (by omega) hu (fun z => ?_)
        rw [hz z]
        constructor
        · rintro ⟨z1, z2⟩
          exact ⟨by omega, z2⟩
        · rintro ⟨z1, z2⟩
          refine ⟨?_, z2⟩
          rcases Nat.lt_or_ge z i with c | c
          · exact c
          · have e : z = i := by omega
            subst e
            rw [q] at z2
            cases z2
      · refine bk_70_23 _ _ _ 1 I J t ht (i_f (by decide) ?_)
        rw [nI_1, one_shl (by omega), fa_or]
        refine ih (i + 1) _ (by omega) (Nat.or_lt_two_pow hu (Nat.pow_lt_pow_right (by decide) (by omega))) (fun z => ?_)
        rw [fb_bit_set, Bool.or_eq_true, decide_eq_true_iff, hz z]
        constructor
        · rintro (⟨z1, z2⟩ | z1)
          · exact ⟨by omega, z2⟩
          · exact ⟨by omega, by rw [z1]; exact q⟩
        · rintro ⟨z1, z2⟩
          rcases Nat.lt_or_ge z i with c | c
          · exact Or.inl ⟨c, z2⟩
          · exact Or.inr (by omega)
  exact bk_70_0 _ I J t ht (lp (fN t) 0 0 (by omega) (by decide) (fun z => by rw [Nat.zero_testBit]; exact ⟨fun q => (by cases q), fun q => absurd q.1 (by omega)⟩))
theorem fill_c {a : Int32} (ht : t < 6) (h : ∀ I', (∀ g, g ≠ vH t → I' g = I g) → (∀ i, i < vN t → I' (vH t) i = a) → P none I' J) : am_To (am_XX L xs) d 58 0 [some (.ref (vH t)), some (.int a), none, none] [] I J P := by
  have hN : vN t ≤ 576 := (by decide : ∀ t, t < 6 → vN t ≤ 576) t ht
  have lp : ∀ (m i : Nat) (I1 : am_I), i + m = vN t → (∀ g, g ≠ vH t → I1 g = I g) → (∀ k, k < i → I1 (vH t) k = a) → am_To (am_XX L xs) d 58 5 [some (.ref (vH t)), some (.int a), some (.int (nI i)), some (.int (nI (vN t)))] [] I1 J P := by
    intro m
    induction m with
    | zero =>
      intro i I1 hi f1 f2
      have e : i = vN t := by omega
      subst e
      exact bk_58_5 _ _ _ I1 J t ht (i_t (nI_le (Nat.le_refl _) (by omega)) (h I1 f1 f2))
    | succ m ih =>
      intro i I1 hi f1 f2
      refine bk_58_5 _ _ _ I1 J t ht (i_le (vN t) i rfl rfl (fun c => by omega) (fun _ => x_i i rfl ?_))
      rw [nI_1]
      refine ih (i + 1) _ (by omega) (fun g hg => by rw [am_up_row hg]; exact f1 g hg) (fun k hk => ?_)
      by_cases e : k = i
      · rw [e, am_up_s]
      · rw [am_up_k e]
        exact f2 k (by omega)
  exact bk_58_0 _ I J t ht (lp (vN t) 0 I (by omega) (fun _ _ => rfl) (fun k hk => absurd hk (by omega)))
/-- the reference: whether x is y or above it -/
theorem isover_m (hF : FV par ab) (hp : ∀ i, i < 24 → I 115 i = oI (par i)) (hx : x < 24) (hy : y < 24) (h1 : x = y ∨ (ab y).testBit x = true → P (some (.int 1)) I J) (h0 : ¬ (x = y ∨ (ab y).testBit x = true) → P (some (.int 0)) I J) : am_To (am_XX L xs) d 128 0 [some (.ref 95), some (.int (nI x)), some (.int (nI y)), none] [] I J P := by
  have lp : ∀ k, k < 24 → ((x = y ∨ (ab y).testBit x = true) ↔ (x = k ∨ (ab k).testBit x = true)) → am_To (am_XX L xs) d 128 2 [some (.ref 95), some (.int (nI x)), none, some (.int (nI k))] [] I J P := by
    refine fv_ind hF (fun k ih hk he => ?_)
    refine bk_128_2 _ _ I J (i_f (nI_m1 (by omega)) (i_eq k x rfl rfl (fun c => h1 (he.mpr (Or.inl c.symm))) (fun c => x_i k rfl ?_)))
    rw [hp k hk]
    cases hq : par k with
    | none =>
      refine bk_128_2 _ _ I J (i_t rfl (h0 (fun z => ?_)))
      rcases he.mp z with z | z
      · exact c z.symm
      · rw [hF.2.1 k hq, Nat.zero_testBit] at z
        cases z
    | some k' =>
      obtain ⟨q1, q2, q3⟩ := hF.1 k k' hq
      refine ih k' hq q2 ?_
      rw [he, q3 x]
      constructor
      · rintro (z | z)
        · exact absurd z.symm c
        · exact z
      · exact Or.inr
  exact bk_128_0 _ _ I J (lp y hy Iff.rfl)
end
