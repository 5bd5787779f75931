/-! EVIDENCE: back, signs, say, weight of both -/
/-- the reference's sayings -/
def Sm (m : Nat) (Y : Nat → Nat → Nat) (I : am_I) : Prop := I 95 3 = nI m ∧ ∀ k, k < m → I 105 k = nI (Y k 4) ∧ I 106 k = nI (Y k 0) ∧ I 107 k = nI (Y k 1) ∧ I 108 k = nI (Y k 2) ∧ (Y k 0 < 3 → I 109 k = nI (Y k 3))
def EVc (th : Nat → Bool) (sn : Nat → Nat) (S : Nat → Nat → Nat → Nat) (I : am_I) : Prop := (∀ T, T < 12 → Gr T (sn T) (S T) I ∧ I 59 T = bI (th T)) ∧ Gr 12 (sn 12) (S 12) I
def EVm (th : Nat → Bool) (sn : Nat → Nat) (S : Nat → Nat → Nat → Nat) (I : am_I) : Prop := (∀ T, T < 12 → I 98 T = bI (th T) ∧ (th T = true → Gm T (sn T) (S T) I)) ∧ Sm (sn 12) (S 12) I
def syV (w : Nat) (r : Nat → Nat) : Prop := r 0 ≤ 3 ∧ r 1 < w ∧ r 2 < w ∧ r 1 ≠ r 2 ∧ r 3 ≤ 9 ∧ r 4 ≤ 9
def EVv (w : Nat) (th : Nat → Bool) (sn : Nat → Nat) (S : Nat → Nat → Nat → Nat) : Prop := (∀ T, T < 12 → sn T ≤ 40 ∧ (th T = false → sn T = 0) ∧ ∀ k, k < sn T → sgV w (S T k)) ∧ sn 12 ≤ 60 ∧ ∀ k, k < sn 12 → syV w (S 12 k)
/-- the weight of a cell -/
def WT (sn : Nat → Nat) (S : Nat → Nat → Nat → Nat) (c : Nat) : Nat := fb_sm (fun T => gsum (S T) c (sn T)) 13
/-- a NOT -/
def nt (sn : Nat → Nat) (S : Nat → Nat → Nat → Nat) (x y : Nat) : Prop := ∃ k, k < sn 12 ∧ S 12 k 0 = 3 ∧ S 12 k 1 = x ∧ S 12 k 2 = y
theorem cl_inj {k x y k' a b : Nat} (hk : k < 4) (hk' : k' < 4) (hx : x < 24) (hy : y < 24) (ha : a < 24) (hb : b < 24) : cl k x y = cl k' a b ↔ k = k' ∧ ((x = a ∧ y = b) ∨ (k = 2 ∧ x = b ∧ y = a)) := by
  unfold cl
  split <;> split <;> omega
theorem gsum_le {w : Nat} {S : Nat → Nat → Nat} {c n : Nat} (h : ∀ k, k < n → S k 3 ≤ 9) : gsum S c n ≤ n * 9 := by
  refine fb_sm_bound (fun k hk => ?_)
  split
  · exact h k hk
  · omega
theorem WT_le {w : Nat} {th : Nat → Bool} {sn : Nat → Nat} {S : Nat → Nat → Nat → Nat} (h : EVv w th sn S) (c : Nat) : WT sn S c ≤ 13 * 540 := by
  refine fb_sm_bound (fun T hT => ?_)
  by_cases e : T = 12
  · subst e
    have := gsum_le (w := w) (c := c) (fun k hk => (h.2.2 k hk).2.2.2.2.1)
    have := h.2.1
    omega
  · obtain ⟨h1, h2, h3⟩ := h.1 T (by omega)
    have := gsum_le (w := w) (c := c) (fun k hk => (h3 k hk).2.2.2.2)
    omega
section
variable {L : Nat} {xs : Nat → Int32} {d : Nat} {P : Option Value → am_I → am_J → Prop} {I : am_I} {J : am_J} {T w k x y c n : Nat} {th : Nat → Bool} {sn : Nat → Nat} {S : Nat → Nat → Nat → Nat} {a x1 x2 x3 x4 x5 : Int32} {v : Nat → Nat}
theorem hastext_c (hth : ∀ i, i < 12 → I 59 i = bI (th i)) (h0 : (∀ T, T < 12 → th T = true → a ≠ nI T) → P (some (.int 0)) I J) (h1 : ∀ T, T < 12 → th T = true → a = nI T → P (some (.int 1)) I J) : am_To (am_XX L xs) d 32 0 [some (.ref 9), some (.int a)] [] I J P := by
  refine bk_32_0 a I J ⟨fun c => h0 (fun j hj _ e => ?_), fun c => ⟨fun c2 => h0 (fun j hj _ e => ?_), fun c2 => ?_⟩⟩
  · rw [e] at c
    exact nI_pos (by omega) c
  · rw [e] at c2
    exact nI_ge hj (by decide) c2
  · rcases pk_ix a (n := 12) (by omega) with h | h | ⟨j, hj, e⟩
    · exact absurd h c
    · exact absurd h c2
    · subst e
      refine x_i j rfl ?_
      rw [hth j hj]
      refine i_c bI_0 (fun z => h0 (fun T hT ht e => ?_)) (fun z => h1 j hj (by simpa using z) rfl)
      have := (nI_eq (by omega) (by omega)).mp e
      rw [← this, z] at ht
      cases ht
theorem istext_m (hth : ∀ i, i < 12 → I 98 i = bI (th i)) (h0 : (∀ T, T < 12 → th T = true → a ≠ nI T) → P (some (.int 0)) I J) (h1 : ∀ T, T < 12 → th T = true → a = nI T → P (some (.int 1)) I J) : am_To (am_XX L xs) (d + 1) 110 0 [some (.ref 95), some (.int a)] [] I J P := by
  refine bk_110_0 a I J (isin_n (m := 11) (by omega) rfl (fun z => ?_) (fun j hj e => ?_))
  · exact bk_110_7 _ 0 I J (i_t rfl (h0 (fun T hT _ => z T (by omega))))
  · subst e
    refine bk_110_7 _ 1 I J (i_f (by decide) (x_i j rfl ?_))
    rw [hth j (by omega)]
    refine i_c bI_0 (fun z => h0 (fun T hT ht e => ?_)) (fun z => h1 j (by omega) (by simpa using z) rfl)
    have := (nI_eq (by omega) (by omega)).mp e
    rw [← this, z] at ht
    cases ht
theorem signs_C (hE : EVc th sn S I) (h0 : (∀ T, T < 12 → th T = true → a ≠ nI T) → P (some (.int (-1))) I J) (h1 : ∀ T, T < 12 → th T = true → a = nI T → P (some (.int (nI (sn T)))) I J) : am_To (am_XX L xs) (d + 1) 34 0 [some (.ref 0), some (.int a)] [] I J P := by
  refine bk_34_0 a I J (hastext_c (fun i hi => (hE.1 i hi).2) (fun z => ?_) (fun T hT ht e => ?_))
  · exact bk_34_8 _ 0 I J (i_t rfl (h0 z))
  · subst e
    refine bk_34_8 _ 1 I J (i_f (by decide) (x_i T rfl ?_))
    rw [tL_e T hT]
    refine bk_34_20 I J T hT ?_
    rw [(hE.1 T hT).1.1]
    exact h1 T hT ht rfl
theorem signs_M (hE : EVm th sn S I) (h0 : (∀ T, T < 12 → th T = true → a ≠ nI T) → P (some (.int (-1))) I J) (h1 : ∀ T, T < 12 → th T = true → a = nI T → P (some (.int (nI (sn T)))) I J) : am_To (am_XX L xs) (d + 2) 111 0 [some (.ref 95), some (.int a)] [] I J P := by
  refine bk_111_0 a I J (istext_m (fun i hi => (hE.1 i hi).1) (fun z => ?_) (fun T hT ht e => ?_))
  · exact bk_111_5 _ 0 I J (i_t rfl (h0 z))
  · subst e
    refine bk_111_5 _ 1 I J (i_f (by decide) (x_i T rfl ?_))
    rw [((hE.1 T hT).2 ht).1]
    exact h1 T hT ht rfl
theorem back_C (hv : EVv w th sn S) (hw : w ≤ 24) (hE : EVc th sn S I) (h0 : (∀ T, T < 12 → th T = true → a ≠ nI T) → P (some (.int 0)) I J) (h1 : ∀ T, T < 12 → th T = true → a = nI T → ∀ I', (∀ g, g ≠ 0 → g ≠ 59 → g ≠ 64 → g ≠ gH T → I' g = I g) → I' 0 7 = 1 → (∀ i, I' 59 i = if i = T then 0 else I 59 i) → I' (gH T) 3 = 0 → (∀ c, I' 64 c = I 64 c + (-1) * nI (gsum (S T) c (sn T))) → P (some (.int 1)) I' J) : am_To (am_XX L xs) (d + 2) 31 0 [some (.ref 0), some (.int a)] [] I J P := by
  refine bk_31_0 a I J (hastext_c (fun i hi => (hE.1 i hi).2) (fun z => ?_) (fun T hT ht e => ?_))
  · exact bk_31_8 _ 0 I J (i_t rfl (h0 z))
  · subst e
    have hgT := gH_e T hT
    obtain ⟨v1, v2, v3⟩ := hv.1 T hT
    refine bk_31_8 _ 1 I J (i_f (by decide) (bk_33_0 _ I J (x_i T rfl (x_i T rfl ?_))))
    rw [tL_e T hT, vn0]
    have hG : Gr T (sn T) (S T) (am_up I 59 T 0) := Gr_fr (hE.1 T hT).1 (fun g e1 e2 => am_up_row (by omega))
    refine bk_33_14 _ _ J T hT (weigh_c hT v1 hG (fun k hk => cl_lt (v3 k hk) hw) (fun I1 e1 e2 => bk_33_18 _ I1 J (x_i T rfl ?_)))
    rw [tL_e T hT]
    refine bk_33_24 I1 J T hT (bk_31_21 _ J (h1 T hT ht rfl _ (fun g k0 k59 k64 kT => ?_) am_up_s (fun i => ?_) ?_ (fun c => ?_)))
    · rw [am_up_row k0, am_up_row kT, e1 g k64, am_up_row k59]
    · rw [am_up_h (by decide), am_up_h (by omega), e1 59 (by decide)]
      by_cases e : i = T
      · rw [e, am_up_s, if_pos rfl]
      · rw [am_up_k e, if_neg e]
    · rw [am_up_h (by omega), am_up_s]
    · rw [am_up_h (by decide), am_up_h (by omega), e2, am_up_h (by decide)]
theorem back_M (hE : EVm th sn S I) (h0 : (∀ T, T < 12 → th T = true → a ≠ nI T) → P (some (.int 0)) I J) (h1 : ∀ T, T < 12 → th T = true → a = nI T → P (some (.int 1)) (am_up I 98 T 0) J) : am_To (am_XX L xs) (d + 2) 109 0 [some (.ref 95), some (.int a)] [] I J P := by
  refine bk_109_0 a I J (istext_m (fun i hi => (hE.1 i hi).1) (fun z => ?_) (fun T hT ht e => ?_))
  · exact bk_109_5 _ 0 I J (i_t rfl (h0 z))
  · subst e
    refine bk_109_5 _ 1 I J (i_f (by decide) (x_i T rfl ?_))
    rw [vn0]
    exact h1 T hT ht rfl
/-- what a saying may be -/
def SayA (w m : Nat) (x1 x2 x3 x4 x5 : Int32) (p k x y q : Nat) : Prop := p ≤ 9 ∧ k ≤ 3 ∧ x < w ∧ y < w ∧ x ≠ y ∧ x1 = nI p ∧ x2 = nI k ∧ x3 = nI x ∧ x4 = nI y ∧ ((k = 3 ∧ q = 0) ∨ (k < 3 ∧ 1 ≤ q ∧ q ≤ 9 ∧ x5 = nI q)) ∧ m < 60
def syR (p k x y q : Nat) : Nat → Nat := fun i => match i with
  | 0 => k
  | 1 => x
  | 2 => y
  | 3 => q
  | 4 => p
  | _ => 0
theorem gH12 : gH 12 = 60 := rfl
theorem say_C (hV : w ≤ 24) (hW : I 3 1 = nI w) (hm : n ≤ 60) (hG : Gr 12 n (S 12) I) (h0 : (∀ p k x y q, ¬ SayA w n x1 x2 x3 x4 x5 p k x y q) → P (some (.int (-1))) I J) (h1 : ∀ p k x y q, SayA w n x1 x2 x3 x4 x5 p k x y q → ∀ I', (∀ g, g ≠ 0 → g ≠ 64 → g ≠ 65 → (g < 60 ∨ 63 < g) → I' g = I g) → I' 0 7 = 1 → Gr 12 (n + 1) (upf (S 12) n (syR p k x y q)) I' → (k < 3 → I' 65 = I 65 ∧ ∀ c, I' 64 c = if c = cl k x y then I 64 c + nI q else I 64 c) → (k = 3 → I' 64 = I 64 ∧ ∀ j, I' 65 j = if j = y then I 65 j ||| ((1 : Int32) <<< (nI x &&& 31)) else I 65 j) → P (some (.int (nI n))) I' J) : am_To (am_XX L xs) (d + 3) 41 0 [some (.ref 0), some (.int x1), some (.int x2), some (.int x3), some (.int x4), some (.int x5), none, none] [] I J P := by
  -- not known: whatever the weight
  have gn : (∀ p k x y q, ¬ SayA w n x1 x2 x3 x4 x5 p k x y q) → am_To (am_XX L xs) (d + 3) 41 36 [some (.ref 0), some (.int x1), some (.int x2), some (.int x3), some (.int x4), some (.int x5), none, none] [] I J P := fun z => by
    have g62 : ∀ r : Int32, am_To (am_XX L xs) (d + 3) 41 62 [some (.ref 0), some (.int x1), some (.int x2), some (.int x3), some (.int x4), some (.int x5), some (.int 0), none] [.int r] I J P := fun r => bk_41_62 _ _ _ _ _ _ _ I J (i_t rfl (h0 z))
    refine bk_41_36 _ _ _ _ _ I J (bk_41_37 _ _ _ _ _ 0 I J ⟨fun _ => bk_41_57 _ _ _ _ _ _ I J (g62 1), fun _ => ⟨fun _ => bk_41_61 _ _ _ _ _ _ I J (g62 0), fun _ => ⟨fun _ => bk_41_61 _ _ _ _ _ _ I J (g62 0), fun _ => bk_41_57 _ _ _ _ _ _ I J (g62 1)⟩⟩⟩)
  refine bk_41_0 _ _ _ _ _ I J ⟨fun c => gn (fun p k x y q z => ?_), fun c1 => ⟨fun c => gn (fun p k x y q z => ?_), fun c2 => ⟨fun c => gn (fun p k x y q z => ?_), fun c3 => ⟨fun c => gn (fun p k x y q z => ?_), fun c4 => ?_⟩⟩⟩⟩
  · have := z.1
    rw [z.2.2.2.2.2.1] at c
    exact nI_pos (by omega) c
  · have := z.1
    rw [z.2.2.2.2.2.1] at c
    exact nI_nlt this (by decide) c
  · have := z.2.1
    rw [z.2.2.2.2.2.2.1] at c
    exact nI_pos (by omega) c
  · have := z.2.1
    rw [z.2.2.2.2.2.2.1] at c
    exact nI_nlt this (by decide) c
  · obtain ⟨p, hp, ep⟩ := nI_of2 (M := 9) (n := 9) (by decide) c1 (Int32.not_lt.mp c2)
    obtain ⟨k, hk, ek⟩ := nI_of2 (M := 3) (n := 3) (by decide) c3 (Int32.not_lt.mp c4)
    subst ep
    subst ek
    refine areunlike_c hW hV (fun z => ?_) (fun x y hx hy hxy ex ey => ?_)
    · refine bk_41_29 _ _ _ _ _ 0 I J (i_t rfl (gn (fun p' k' x y q q2 => ?_)))
      obtain ⟨q3, q4, q5, q6, q7, q8, q9, q10, q11, q12, q13⟩ := q2
      exact z x y q5 q6 q7 q10 q11
    · subst ex
      subst ey
      -- a weight that fits
      have gw : ∀ q : Nat, ((k = 3 ∧ q = 0) ∨ (k < 3 ∧ 1 ≤ q ∧ q ≤ 9 ∧ x5 = nI q)) → am_To (am_XX L xs) (d + 3) 41 57 [some (.ref 0), some (.int (nI p)), some (.int (nI k)), some (.int (nI x)), some (.int (nI y)), some (.int x5), some (.int 1), none] [] I J P := fun q hq => by
        refine bk_41_57 _ _ _ _ _ _ I J (bk_41_62 _ _ _ _ _ _ _ I J (i_f (by decide) (i_f (by decide) ?_)))
        refine isfull_c 12 (by decide) hG.1 hm (by decide) (fun z => ?_) (fun z => ?_)
        · have z' : n < 60 := z
          have hA : SayA w n (nI p) (nI k) (nI x) (nI y) x5 p k x y q := ⟨hp, hk, hx, hy, hxy, rfl, rfl, rfl, rfl, hq, z'⟩
          have hG7 : Gr 12 n (S 12) (am_up I 0 7 1) := Gr_fr hG (fun g e1 e2 => am_up_row (by rw [gH12] at e1; omega))
          refine bk_41_84 _ _ _ _ _ 0 I J (i_t rfl (i_eq k 3 rfl rfl (fun k3 => ?_) (fun k3 => ?_)))
          · subst k3
            have q0 : q = 0 := by omega
            subst q0
            refine bk_43_0 _ _ _ _ J (cellof_c (k := 3) rfl rfl rfl (by omega) (by omega) (by omega) ?_)
            refine bk_43_10 _ _ _ _ _ J (add_c (n := n) (S := S 12) (T := 12) (r := syR p 3 x y 0) (by decide) hG7 z (by decide) (fun I1 e1 e2 => ?_))
            refine bk_43_15 _ _ I1 J (x_i y rfl (x_i y rfl (bk_41_110 _ _ J ?_)))
            rw [am_up_h (by decide), show I1 60 3 = nI (n + 1) from e2.1, nI_pred]
            refine h1 p 3 x y 0 hA _ (fun g k0 k64 k65 kg => ?_) ?_ (Gr_fr e2 (fun g a b => am_up_row (by rw [gH12] at b; omega))) (fun c => by omega) (fun _ => ⟨?_, fun j => ?_⟩)
            · rw [am_up_row k65, e1 g kg, am_up_row k0]
            · rw [am_up_h (by decide), e1 0 (by decide), am_up_s]
            · rw [am_up_row (by decide), e1 64 (by decide), am_up_row (by decide)]
            · have e65 : I1 65 = I 65 := by
                rw [e1 65 (by decide), am_up_row (by decide)]
              by_cases e : j = y
              · rw [e, am_up_s, if_pos rfl, e65]
              · rw [am_up_k e, if_neg e, e65]
          · have q1 : k < 3 ∧ 1 ≤ q ∧ q ≤ 9 ∧ x5 = nI q := by
              rcases hq with q1 | q1
              · exact absurd q1.1 k3
              · exact q1
            obtain ⟨q1, q2, q3, q4⟩ := q1
            subst q4
            have hcl : cl k x y < 1728 := by
              unfold cl
              split <;> omega
            refine cellof_c (k := k) rfl rfl rfl (by omega) (by omega) (by omega) (bk_41_125 _ _ _ _ J ?_)
            refine bk_44_0 _ _ _ _ J (add_c (n := n) (S := S 12) (T := 12) (r := syR p k x y q) (by decide) hG7 z (by decide) (fun I1 e1 e2 => ?_))
            refine bk_44_10 _ _ I1 J (x_i (cl k x y) rfl (x_i (cl k x y) rfl (bk_41_130 _ _ J ?_)))
            rw [am_up_h (by decide), show I1 60 3 = nI (n + 1) from e2.1, nI_pred]
            refine h1 p k x y q hA _ (fun g k0 k64 k65 kg => ?_) ?_ (Gr_fr e2 (fun g a b => am_up_row (by rw [gH12] at b; omega))) (fun _ => ⟨?_, fun j => ?_⟩) (fun c => by omega)
            · rw [am_up_row k64, e1 g kg, am_up_row k0]
            · rw [am_up_h (by decide), e1 0 (by decide), am_up_s]
            · rw [am_up_row (by decide), e1 65 (by decide), am_up_row (by decide)]
            · have e64 : I1 64 = I 64 := by
                rw [e1 64 (by decide), am_up_row (by decide)]
              by_cases e : j = cl k x y
              · rw [e, am_up_s, if_pos rfl, e64]
              · rw [am_up_k e, if_neg e, e64]
        · refine bk_41_84 _ _ _ _ _ 1 I J (i_f (by decide) (h0 (fun p' k' x' y' q' z2 => ?_)))
          have := z2.2.2.2.2.2.2.2.2.2.2
          have z' : n = 60 := z
          omega
      have gx : (∀ q : Nat, ¬ ((k = 3 ∧ q = 0) ∨ (k < 3 ∧ 1 ≤ q ∧ q ≤ 9 ∧ x5 = nI q))) → am_To (am_XX L xs) (d + 3) 41 61 [some (.ref 0), some (.int (nI p)), some (.int (nI k)), some (.int (nI x)), some (.int (nI y)), some (.int x5), some (.int 1), none] [] I J P := fun hq => by
        refine bk_41_61 _ _ _ _ _ _ I J (bk_41_62 _ _ _ _ _ _ _ I J (i_f (by decide) (i_t rfl (h0 (fun p' k' x' y' q' z2 => ?_)))))
        obtain ⟨q3, q4, q5, q6, q7, q8, q9, q10, q11, q12, q13⟩ := z2
        have e := (nI_eq (by omega) (by omega)).mp q9
        subst e
        exact hq q' q12
      refine bk_41_29 _ _ _ _ _ 1 I J (i_f (by decide) (bk_41_37 _ _ _ _ _ 1 I J (i_eq k 3 rfl rfl (fun k3 => gw 0 (Or.inl ⟨k3, rfl⟩)) (fun k3 => ⟨fun c => gx (fun q hq => ?_), fun c5 => ⟨fun c => gx (fun q hq => ?_), fun c6 => ?_⟩⟩))))
      · rcases hq with hq | ⟨hq1, hq2, hq3, hq4⟩
        · omega
        · rw [hq4] at c
          exact nI_nlt hq2 (by omega) c
      · rcases hq with hq | ⟨hq1, hq2, hq3, hq4⟩
        · omega
        · rw [hq4] at c
          exact nI_nlt hq3 (by decide) c
      · have c7 : ¬ x5 < 0 := fun q => c5 (Int32.lt_trans q (by decide))
        obtain ⟨q, hq, eq⟩ := nI_of2 (M := 9) (n := 9) (by decide) c7 (Int32.not_lt.mp c6)
        subst eq
        have hq1 : 1 ≤ q := Nat.le_of_not_lt (fun q2 => c5 (nI_lt q2 (by decide)))
        exact gw q (Or.inr ⟨by omega, hq1, hq, rfl⟩)
theorem say_M (hV : w ≤ 24) (hW : I 95 2 = nI w) (hm : n ≤ 60) (hG : Sm n (S 12) I) (h0 : (∀ p k x y q, ¬ SayA w n x1 x2 x3 x4 x5 p k x y q) → P (some (.int (-1))) I J) (h1 : ∀ p k x y q, SayA w n x1 x2 x3 x4 x5 p k x y q → ∀ I', (∀ g, g ≠ 95 → (g < 105 ∨ 109 < g) → I' g = I g) → (∀ i, i ≠ 3 → I' 95 i = I 95 i) → Sm (n + 1) (upf (S 12) n (syR p k x y q)) I' → P (some (.int (nI n))) I' J) : am_To (am_XX L xs) (d + 3) 115 0 [some (.ref 95), some (.int x1), some (.int x2), some (.int x3), some (.int x4), some (.int x5)] [] I J P := by
  refine bk_115_0 _ _ _ _ _ I J (isin_n (m := 9) (by omega) rfl (fun z => ?_) (fun p hp ep => ?_))
  · exact bk_115_7 _ _ _ _ _ 0 I J (i_t rfl (h0 (fun p k x y q A => z p A.1 A.2.2.2.2.2.1)))
  · subst ep
    refine bk_115_7 _ _ _ _ _ 1 I J (i_f (by decide) (isin_n (m := 3) (by omega) rfl (fun z => ?_) (fun k hk ek => ?_)))
    · exact bk_115_16 _ _ _ _ _ 0 I J (i_t rfl (h0 (fun p k x y q A => z k A.2.1 A.2.2.2.2.2.2.1)))
    · subst ek
      refine bk_115_16 _ _ _ _ _ 1 I J (i_f (by decide) (arewords_m hW hV (fun z => ?_) (fun x y hx hy ex ey => ?_)))
      · exact bk_115_26 _ _ _ _ _ 0 I J (i_t rfl (h0 (fun p k x y q A => z x y A.2.2.1 A.2.2.2.1 A.2.2.2.2.2.2.2.1 A.2.2.2.2.2.2.2.2.1)))
      · subst ex
        subst ey
        have gs : ∀ q : Nat, x ≠ y → ((k = 3 ∧ q = 0) ∨ (k < 3 ∧ 1 ≤ q ∧ q ≤ 9 ∧ x5 = nI q)) → am_To (am_XX L xs) (d + 3) 115 51 [some (.ref 95), some (.int (nI p)), some (.int (nI k)), some (.int (nI x)), some (.int (nI y)), some (.int x5)] [] I J P := fun q hxy hq => by
          have e3 := hG.1
          refine bk_115_51 _ _ _ _ _ I J (i_eq n 60 e3 rfl (fun c => h0 (fun p' k' x' y' q' A => by have := A.2.2.2.2.2.2.2.2.2.2; omega)) (fun c => ?_))
          have hA : SayA w n (nI p) (nI k) (nI x) (nI y) x5 p k x y q := ⟨hp, hk, hx, hy, hxy, rfl, rfl, rfl, rfl, hq, by omega⟩
          refine x_i n e3 (x_i n (by rw [am_up_h (by decide)]; exact e3) (x_i n (by rw [am_up_h (by decide), am_up_h (by decide)]; exact e3) (x_i n (by rw [am_up_h (by decide), am_up_h (by decide), am_up_h (by decide)]; exact e3) (x_i n (by rw [am_up_h (by decide), am_up_h (by decide), am_up_h (by decide), am_up_h (by decide)]; exact e3) ?_))))
          rw [am_up_s, am_up_h (show (95 : Nat) ≠ 109 by decide), am_up_h (show (95 : Nat) ≠ 108 by decide), am_up_h (show (95 : Nat) ≠ 107 by decide), am_up_h (show (95 : Nat) ≠ 106 by decide), am_up_h (show (95 : Nat) ≠ 105 by decide), e3, nI_1, nI_pred]
          refine h1 p k x y q hA _ (fun g e1 e2 => ?_) (fun i hi => ?_) ⟨am_up_s, fun j hj => ?_⟩
          · rw [am_up_row e1, am_up_row (by omega), am_up_row (by omega), am_up_row (by omega), am_up_row (by omega), am_up_row (by omega)]
          · rw [am_up_k hi, am_up_h (by decide), am_up_h (by decide), am_up_h (by decide), am_up_h (by decide), am_up_h (by decide)]
          · rw [am_up_h (show (105 : Nat) ≠ 95 by decide), am_up_h (show (105 : Nat) ≠ 109 by decide), am_up_h (show (105 : Nat) ≠ 108 by decide), am_up_h (show (105 : Nat) ≠ 107 by decide), am_up_h (show (105 : Nat) ≠ 106 by decide), am_up_h (show (106 : Nat) ≠ 95 by decide), am_up_h (show (106 : Nat) ≠ 109 by decide), am_up_h (show (106 : Nat) ≠ 108 by decide), am_up_h (show (106 : Nat) ≠ 107 by decide), am_up_h (show (107 : Nat) ≠ 95 by decide), am_up_h (show (107 : Nat) ≠ 109 by decide), am_up_h (show (107 : Nat) ≠ 108 by decide), am_up_h (show (108 : Nat) ≠ 95 by decide), am_up_h (show (108 : Nat) ≠ 109 by decide), am_up_h (show (109 : Nat) ≠ 95 by decide)]
            by_cases e : j = n
            · subst e
              rw [am_up_s, am_up_s, am_up_s, am_up_s, am_up_s, upf_s]
              refine ⟨rfl, rfl, rfl, rfl, fun k3 => ?_⟩
              rcases hq with q1 | q1
              · exact absurd q1.1 (Nat.ne_of_lt k3)
              · exact q1.2.2.2
            · rw [am_up_k e, am_up_k e, am_up_k e, am_up_k e, am_up_k e, upf_n e, am_up_h (show (106 : Nat) ≠ 105 by decide), am_up_h (show (107 : Nat) ≠ 106 by decide), am_up_h (show (107 : Nat) ≠ 105 by decide), am_up_h (show (108 : Nat) ≠ 107 by decide), am_up_h (show (108 : Nat) ≠ 106 by decide), am_up_h (show (108 : Nat) ≠ 105 by decide), am_up_h (show (109 : Nat) ≠ 108 by decide), am_up_h (show (109 : Nat) ≠ 107 by decide), am_up_h (show (109 : Nat) ≠ 106 by decide), am_up_h (show (109 : Nat) ≠ 105 by decide)]
              exact hG.2 j (by omega)
        refine bk_115_26 _ _ _ _ _ 1 I J (i_f (by decide) (i_eq x y rfl rfl (fun c => h0 (fun p' k' x' y' q' A => ?_)) (fun c => i_le 3 k rfl rfl (fun c2 => gs 0 c (Or.inl ⟨by omega, rfl⟩)) (fun c2 => ?_))))
        · have e1 := (nI_eq (by omega) (by have := A.2.2.1; omega)).mp A.2.2.2.2.2.2.2.1
          have e2 := (nI_eq (by omega) (by have := A.2.2.2.1; omega)).mp A.2.2.2.2.2.2.2.2.1
          have := A.2.2.2.2.1
          omega
        · refine isin_m (fun z => ?_) (fun z1 z2 => ?_)
          · refine bk_115_48 _ _ _ _ _ 0 I J (i_t rfl (h0 (fun p' k' x' y' q' A => ?_)))
            have ek := (nI_eq (by omega) (by have := A.2.1; omega)).mp A.2.2.2.2.2.2.1
            obtain ⟨-, -, -, -, -, -, -, -, -, q12, -⟩ := A
            rcases q12 with q1 | ⟨q1, q2, q3, q4⟩
            · omega
            · rw [q4] at z
              rcases z with z | z
              · exact nI_nlt q2 (by omega) z
              · exact nI_nlt q3 (by decide) z
          · have z3 : ¬ x5 < 0 := fun q => z1 (Int32.lt_trans q (by decide))
            obtain ⟨q, hq, eq⟩ := nI_of2 (M := 9) (n := 9) (by decide) z3 (Int32.not_lt.mp z2)
            have hq1 : 1 ≤ q := Nat.le_of_not_lt (fun q2 => z1 (by rw [eq]; exact nI_lt q2 (by decide)))
            exact bk_115_48 _ _ _ _ _ 1 I J (i_f (by decide) (gs q c (Or.inr ⟨c2, hq1, hq, eq⟩)))
end
