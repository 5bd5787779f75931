/-! WEIGHT, REASON of both -/
theorem am_wk {X : am_X} {d mid pc : Nat} {ls ls' : am_L} {st : List Value} {I : am_I} {J : am_J} {P : Option Value → am_I → am_J → Prop} (hle : am_leL ls ls') (h : am_To X d mid pc ls st I J P) : am_To X d mid pc ls' st I J P := by
  obtain ⟨N, r, I', J', h1, h2⟩ := h
  exact ⟨N, r, I', J', fun n hn => am_exec_le _ _ _ _ _ _ _ _ _ _ _ hle (h1 n hn), h2⟩
def LinkA (w : Nat) (x1 x2 x3 : Int32) (k x y : Nat) : Prop := k ≤ 2 ∧ x < w ∧ y < w ∧ x ≠ y ∧ x1 = nI k ∧ x2 = nI x ∧ x3 = nI y
/-- the k-th place with a property, from i on, of m places -/
def kth (p : Nat → Bool) : Nat → Nat → Nat → Option Nat
  | _, 0, _ => none
  | i, m + 1, k => if p i = true then (match k with
    | 0 => some i
    | k' + 1 => kth p (i + 1) m k') else kth p (i + 1) m k
theorem kth_s {p : Nat → Bool} (i m k : Nat) : kth p i (m + 1) k = if p i = true then (match k with
    | 0 => some i
    | k' + 1 => kth p (i + 1) m k') else kth p (i + 1) m k := rfl
theorem kth_some {p : Nat → Bool} {j : Nat} : ∀ (m i k : Nat), kth p i m k = some j → i ≤ j ∧ j < i + m ∧ p j = true := by
  intro m
  induction m with
  | zero => intro i k h; cases h
  | succ m ih =>
    intro i k h
    unfold kth at h
    by_cases c : p i = true
    · rw [if_pos c] at h
      cases k with
      | zero =>
        cases h
        exact ⟨Nat.le_refl _, by omega, c⟩
      | succ k =>
        obtain ⟨h1, h2, h3⟩ := ih _ _ h
        exact ⟨by omega, by omega, h3⟩
    · rw [if_neg c] at h
      obtain ⟨h1, h2, h3⟩ := ih _ _ h
      exact ⟨by omega, by omega, h3⟩
theorem kth_none {p : Nat → Bool} : ∀ (m i k : Nat), kth p i m k = none ↔ fb_ct p (i + m) ≤ k + fb_ct p i := by
  intro m
  induction m with
  | zero =>
    intro i k
    exact ⟨fun _ => by simp, fun _ => rfl⟩
  | succ m ih =>
    intro i k
    have e : i + (m + 1) = i + 1 + m := by omega
    have hs := fb_ct_succ p i
    have hm := fb_ct_mono p (show i + 1 ≤ i + 1 + m by omega)
    unfold kth
    by_cases c : p i = true
    · rw [if_pos c]
      rw [if_pos c] at hs
      cases k with
      | zero =>
        dsimp only
        constructor
        · intro h
          cases h
        · intro h
          rw [e] at h
          omega
      | succ k =>
        dsimp only
        rw [ih, e]
        omega
    · rw [if_neg c, ih, e]
      rw [if_neg c] at hs
      omega
def pS (S : Nat → Nat → Nat) (c : Nat) : Nat → Bool := fun k => decide (cl (S k 0) (S k 1) (S k 2) = c)
theorem pS_t {S : Nat → Nat → Nat} {c k : Nat} : pS S c k = true ↔ cl (S k 0) (S k 1) (S k 2) = c := decide_eq_true_iff
def rsS (a : Int32) (T k : Nat) (r : Nat → Nat) : Int32 := if a = 0 then nI (100 * T + k) else if a = 1 then nI (r 4) else if a = 3 then nI (r 3) else -1
def rsY (a : Int32) (r : Nat → Nat) : Int32 := if a = 2 then nI (r 4) else if a = 3 then nI (r 3) else -1
def rsn (sn : Nat → Nat) (S : Nat → Nat → Nat → Nat) (c : Nat) (a : Int32) : Nat → Nat → Nat → Int32
  | _, 0, k => match kth (pS (S 12) c) 0 (sn 12) k with
    | some i => rsY a (S 12 i)
    | none => -1
  | T, m + 1, k => match kth (pS (S T) c) 0 (sn T) k with
    | some i => rsS a T k (S T i)
    | none => rsn sn S c a (T + 1) m (k - fb_ct (pS (S T) c) (sn T))
theorem rsn_s {sn : Nat → Nat} {S : Nat → Nat → Nat → Nat} {c : Nat} {a : Int32} (T m k : Nat) : rsn sn S c a T (m + 1) k = match kth (pS (S T) c) 0 (sn T) k with
    | some i => rsS a T k (S T i)
    | none => rsn sn S c a (T + 1) m (k - fb_ct (pS (S T) c) (sn T)) := rfl
theorem rsn_out {sn : Nat → Nat} {S : Nat → Nat → Nat → Nat} {c : Nat} {a : Int32} (h : ∀ j, j ≤ 3 → a ≠ nI j) : ∀ m T k, rsn sn S c a T m k = -1 := by
  have h0 : ¬ a = 0 := h 0 (by omega)
  have h1 : ¬ a = 1 := h 1 (by omega)
  have h2 : ¬ a = 2 := h 2 (by omega)
  have h3 : ¬ a = 3 := h 3 (by omega)
  intro m
  induction m with
  | zero =>
    intro T k
    unfold rsn
    cases kth (pS (S 12) c) 0 (sn 12) k with
    | none => rfl
    | some i =>
      dsimp only
      unfold rsY
      rw [if_neg h2, if_neg h3]
  | succ m ih =>
    intro T k
    unfold rsn
    cases kth (pS (S T) c) 0 (sn T) k with
    | none => exact ih _ _
    | some i =>
      dsimp only
      unfold rsS
      rw [if_neg h0, if_neg h1, if_neg h3]
section
variable {L : Nat} {xs : Nat → Int32} {d : Nat} {P : Option Value → am_I → am_J → Prop} {I : am_I} {J : am_J} {T w k x y c n : Nat} {th : Nat → Bool} {sn : Nat → Nat} {S : Nat → Nat → Nat → Nat} {a x1 x2 x3 x4 x5 : Int32} {v : Nat → Nat}
theorem islink_c (hW : I 3 1 = nI w) (hw : w ≤ 24) (h0 : (∀ k x y, ¬ LinkA w x1 x2 x3 k x y) → P (some (.int 0)) I J) (h1 : ∀ k x y, LinkA w x1 x2 x3 k x y → P (some (.int 1)) I J) : am_To (am_XX L xs) (d + 2) 46 0 [some (.ref 0), some (.int x1), some (.int x2), some (.int x3)] [] I J P := by
  refine bk_46_0 _ _ _ I J ⟨fun c => h0 (fun k x y A => ?_), fun c => ⟨fun c2 => h0 (fun k x y A => ?_), fun c2 => ?_⟩⟩
  · rw [A.2.2.2.2.1] at c
    exact nI_pos (by have := A.1; omega) c
  · rw [A.2.2.2.2.1] at c2
    exact nI_ge (show k < 3 by have := A.1; omega) (by decide) c2
  · rcases pk_ix x1 (n := 3) (by omega) with h | h | ⟨k, hk, e⟩
    · exact absurd h c
    · exact absurd h c2
    · subst e
      refine areunlike_c hW hw (fun z => ?_) (fun x y hx hy hxy ex ey => ?_)
      · exact bk_46_18 0 I J (i_t rfl (h0 (fun k x y A => z x y A.2.1 A.2.2.1 A.2.2.2.1 A.2.2.2.2.2.1 A.2.2.2.2.2.2)))
      · exact bk_46_18 1 I J (i_f (by decide) (h1 k x y ⟨by omega, hx, hy, hxy, rfl, ex, ey⟩))
theorem areasked_m (hW : I 95 2 = nI w) (hw : w ≤ 24) (h0 : (∀ k x y, ¬ LinkA w x1 x2 x3 k x y) → P (some (.int 0)) I J) (h1 : ∀ k x y, LinkA w x1 x2 x3 k x y → P (some (.int 1)) I J) : am_To (am_XX L xs) (d + 3) 118 0 [some (.ref 95), some (.int x1), some (.int x2), some (.int x3)] [] I J P := by
  refine bk_118_0 _ _ _ I J (isin_n (m := 2) (by omega) rfl (fun z => ?_) (fun k hk ek => ?_))
  · exact bk_118_6 _ _ 0 I J (i_t rfl (h0 (fun k x y A => z k A.1 A.2.2.2.2.1)))
  · refine bk_118_6 _ _ 1 I J (i_f (by decide) (arewords_m hW hw (fun z => ?_) (fun x y hx hy ex ey => ?_)))
    · exact bk_118_15 _ _ 0 I J (i_t rfl (h0 (fun k x y A => z x y A.2.1 A.2.2.1 A.2.2.2.2.2.1 A.2.2.2.2.2.2)))
    · refine bk_118_15 _ _ 1 I J (i_f (by decide) (i_eq x y ex ey (fun z => h0 (fun k' x' y' A => ?_)) (fun z => h1 k x y ⟨hk, hx, hy, z, ek, ex, ey⟩)))
      have e1 := (nI_eq (by omega) (by have := A.2.1; omega)).mp (ex.symm.trans A.2.2.2.2.2.1)
      have e2 := (nI_eq (by omega) (by have := A.2.2.1; omega)).mp (ey.symm.trans A.2.2.2.2.2.2)
      have := A.2.2.2.1
      omega
theorem LinkA_one {k' x' y' : Nat} (hw : w ≤ 24) (h1 : LinkA w x1 x2 x3 k x y) (h2 : LinkA w x1 x2 x3 k' x' y') : k' = k ∧ x' = x ∧ y' = y := by
  obtain ⟨a1, a2, a3, a4, a5, a6, a7⟩ := h1
  obtain ⟨b1, b2, b3, b4, b5, b6, b7⟩ := h2
  exact ⟨(nI_eq (by omega) (by omega)).mp (b5.symm.trans a5), (nI_eq (by omega) (by omega)).mp (b6.symm.trans a6), (nI_eq (by omega) (by omega)).mp (b7.symm.trans a7)⟩
theorem weight_C (hW : I 3 1 = nI w) (hw : w ≤ 24) (hWT : ∀ c, c < 1728 → I 64 c = nI (WT sn S c)) (h0 : (∀ k x y, ¬ LinkA w x1 x2 x3 k x y) → P (some (.int (-1))) I J) (h1 : ∀ k x y, LinkA w x1 x2 x3 k x y → P (some (.int (nI (WT sn S (cl k x y))))) I J) : am_To (am_XX L xs) (d + 3) 45 0 [some (.ref 0), some (.int x1), some (.int x2), some (.int x3)] [] I J P := by
  refine bk_45_0 _ _ _ I J (islink_c hW hw (fun z => ?_) (fun k x y A => ?_))
  · exact bk_45_7 _ _ _ 0 I J (i_t rfl (h0 z))
  · have A' := A
    obtain ⟨a1, a2, a3, a4, a5, a6, a7⟩ := A
    have hc : cl k x y < 1728 := by
      unfold cl
      split <;> omega
    refine bk_45_7 _ _ _ 1 I J (i_f (by decide) (cellof_c a5 a6 a7 (by omega) (by omega) (by omega) (bk_45_23 _ I J (x_i _ rfl ?_))))
    rw [hWT _ hc]
    exact h1 k x y A'
/-- the reference: whether a row is of a link -/
theorem islink_m {k' a' b' : Nat} {y0 y1 y2 y3 y4 y5 : Int32} (e0 : y0 = nI k) (e1 : y1 = nI x) (e2 : y2 = nI y) (e3 : y3 = nI k') (e4 : y4 = nI a') (e5 : y5 = nI b') (hk : k < 4) (hk' : k' < 4) (hx : x < 24) (hy : y < 24) (ha : a' < 24) (hb : b' < 24) (h1 : cl k' a' b' = cl k x y → P (some (.int 1)) I J) (h0 : cl k' a' b' ≠ cl k x y → P (some (.int 0)) I J) : am_To (am_XX L xs) d 120 0 [some (.int y0), some (.int y1), some (.int y2), some (.int y3), some (.int y4), some (.int y5)] [] I J P := by
  have key := cl_inj hk' hk ha hb hx hy
  have g : k = k' → ¬ (x = a' ∧ y = b') → am_To (am_XX L xs) d 120 17 [some (.int y0), some (.int y1), some (.int y2), none, some (.int y4), some (.int y5)] [] I J P := fun q1 q2 => by
    refine bk_120_17 _ _ _ _ _ I J (i_eq k 2 e0 rfl (fun c => i_eq x b' e1 e5 (fun c1 => i_eq y a' e2 e4 (fun c2 => h1 (key.mpr ?_)) (fun c2 => h0 (fun z => ?_))) (fun c1 => h0 (fun z => ?_))) (fun c => h0 (fun z => ?_)))
    · omega
    · have := key.mp z
      omega
    · have := key.mp z
      omega
    · have := key.mp z
      omega
  refine bk_120_0 _ _ _ _ _ _ I J (i_eq k k' e0 e3 (fun c => i_eq x a' e1 e4 (fun c1 => i_eq y b' e2 e5 (fun c2 => h1 (key.mpr (by omega))) (fun c2 => g c (by omega))) (fun c1 => g c (by omega))) (fun c => h0 (fun z => ?_)))
  have := key.mp z
  omega
theorem gsum_s {Y : Nat → Nat → Nat} {i : Nat} : gsum Y c (i + 1) = gsum Y c i + (if cl (Y i 0) (Y i 1) (Y i 2) = c then Y i 3 else 0) := rfl
theorem weightof_m (hv : EVv w th sn S) (hw : w ≤ 24) (hE : EVm th sn S I) (hk : k ≤ 2) (hx : x < 24) (hy : y < 24) (h : P (some (.int (nI (WT sn S (cl k x y))))) I J) : am_To (am_XX L xs) (d + 1) 119 0 [some (.ref 95), some (.int (nI k)), some (.int (nI x)), some (.int (nI y)), none, none, none] [] I J P := by
  have hsn := hv.2.1
  -- the sayings
  have ls : ∀ (m i : Nat), i + m = sn 12 → am_To (am_XX L xs) (d + 1) 119 112 [some (.ref 95), some (.int (nI k)), some (.int (nI x)), some (.int (nI y)), some (.int (nI (fb_sm (fun T => gsum (S T) (cl k x y) (sn T)) 12 + gsum (S 12) (cl k x y) i))), some (.int (nI i)), none] [] I J P := by
    intro m
    induction m with
    | zero =>
      intro i hi
      have e : i = sn 12 := by omega
      subst e
      exact bk_119_112 _ _ _ _ _ I J (i_t (by rw [hE.2.1]; exact nI_le (Nat.le_refl _) (by omega)) h)
    | succ m ih =>
      intro i hi
      obtain ⟨s1, s2, s3, s4, s5⟩ := hE.2.2 i (by omega)
      obtain ⟨v1, v2, v3, v4, v5, v6⟩ := hv.2.2 i (by omega)
      refine bk_119_112 _ _ _ _ _ I J (i_le (sn 12) i hE.2.1 rfl (fun c => by omega) (fun _ => x_i i rfl (x_i i rfl (x_i i rfl ?_))))
      refine islink_m rfl rfl rfl s2 s3 s4 (by omega) (by omega) hx hy (by omega) (by omega) (fun z => ?_) (fun z => ?_)
      · refine bk_119_150 _ _ _ _ _ 1 I J (i_f (by decide) (x_i i rfl (bk_119_164 _ _ _ _ _ _ I J ?_)))
        have k3 : S 12 i 0 < 3 := by
          have := (cl_inj (by omega) (by omega) (by omega) (by omega) hx hy).mp z
          omega
        rw [s5 k3, nI_add, nI_1]
        have e := ih (i + 1) (by omega)
        rw [gsum_s, if_pos z, ← Nat.add_assoc] at e
        exact e
      · refine bk_119_150 _ _ _ _ _ 0 I J (i_t rfl (bk_119_164 _ _ _ _ _ _ I J ?_))
        rw [Int32.add_zero, nI_1]
        have e := ih (i + 1) (by omega)
        rw [gsum_s, if_neg z, Nat.add_zero] at e
        exact e
  -- the texts
  have lt : ∀ (m T : Nat), T + m = 12 → am_To (am_XX L xs) (d + 1) 119 6 [some (.ref 95), some (.int (nI k)), some (.int (nI x)), some (.int (nI y)), some (.int (nI (fb_sm (fun T => gsum (S T) (cl k x y) (sn T)) T))), some (.int (nI T)), none] [] I J P := by
    intro m
    induction m with
    | zero =>
      intro T hT
      have e : T = 12 := by omega
      subst e
      exact bk_119_6 _ _ _ _ _ I J (i_t (by decide) (ls (sn 12) 0 (by omega)))
    | succ m ih =>
      intro T hT
      have hT12 : T < 12 := by omega
      obtain ⟨v1, v2, v3⟩ := hv.1 T hT12
      obtain ⟨e1, e2⟩ := hE.1 T hT12
      refine bk_119_6 _ _ _ _ _ I J (i_le 12 T rfl rfl (fun c => by omega) (fun _ => x_i T rfl ?_))
      rw [e1]
      refine i_c bI_0 (fun z => ?_) (fun z => ?_)
      · rw [nI_1]
        have e := ih (T + 1) (by omega)
        rw [fb_sm_succ, show gsum (S T) (cl k x y) (sn T) = 0 by rw [v2 z]; rfl] at e
        exact e
      · have hG := e2 (by simpa using z)
        have inner : ∀ (m2 i : Nat), i + m2 = sn T → am_To (am_XX L xs) (d + 1) 119 33 [some (.ref 95), some (.int (nI k)), some (.int (nI x)), some (.int (nI y)), some (.int (nI (fb_sm (fun T => gsum (S T) (cl k x y) (sn T)) T + gsum (S T) (cl k x y) i))), some (.int (nI T)), some (.int (nI (100 * T + i)))] [] I J P := by
          have e100 : ((100 : Int32) * nI T) + I 99 T = nI (100 * T + sn T) := by
            rw [hG.1, show (100 : Int32) * nI T = nI (100 * T) from pk_mul 100 T, nI_add]
          intro m2
          induction m2 with
          | zero =>
            intro i hi
            have e : i = sn T := by omega
            subst e
            refine bk_119_33 _ _ _ _ _ _ I J (x_i T rfl (i_t (by rw [e100]; exact nI_le (Nat.le_refl _) (by omega)) ?_))
            rw [nI_1]
            exact ih (T + 1) (by omega)
          | succ m2 ih2 =>
            intro i hi
            obtain ⟨s1, s2, s3, s4, s5⟩ := hG.2 i (by omega)
            obtain ⟨u1, u2, u3, u4, u5⟩ := v3 i (by omega)
            refine bk_119_33 _ _ _ _ _ _ I J (x_i T rfl (i_le (100 * T + sn T) (100 * T + i) e100 rfl (fun c => by omega) (fun _ => x_i _ rfl (x_i _ rfl (x_i _ rfl ?_)))))
            refine islink_m rfl rfl rfl s1 s2 s3 (by omega) (by omega) hx hy (by omega) (by omega) (fun z => ?_) (fun z => ?_)
            · refine bk_119_80 _ _ _ _ _ _ 1 I J (i_f (by decide) (x_i _ rfl (bk_119_94 _ _ _ _ _ _ _ I J ?_)))
              rw [s4, nI_add, nI_1]
              have e := ih2 (i + 1) (by omega)
              rw [gsum_s, if_pos z, ← Nat.add_assoc] at e
              exact e
            · refine bk_119_80 _ _ _ _ _ _ 0 I J (i_t rfl (bk_119_94 _ _ _ _ _ _ _ I J ?_))
              rw [Int32.add_zero, nI_1]
              have e := ih2 (i + 1) (by omega)
              rw [gsum_s, if_neg z, Nat.add_zero] at e
              exact e
        have e := inner (sn T) 0 (by omega)
        rw [show (100 : Int32) * nI T = nI (100 * T) from pk_mul 100 T]
        exact e
  exact bk_119_0 _ _ _ I J (lt 12 0 (by omega))
theorem weight_M (hv : EVv w th sn S) (hW : I 95 2 = nI w) (hw : w ≤ 24) (hE : EVm th sn S I) (h0 : (∀ k x y, ¬ LinkA w x1 x2 x3 k x y) → P (some (.int (-1))) I J) (h1 : ∀ k x y, LinkA w x1 x2 x3 k x y → P (some (.int (nI (WT sn S (cl k x y))))) I J) : am_To (am_XX L xs) (d + 4) 117 0 [some (.ref 95), some (.int x1), some (.int x2), some (.int x3)] [] I J P := by
  refine bk_117_0 _ _ _ I J (areasked_m hW hw (fun z => ?_) (fun k x y A => ?_))
  · exact bk_117_7 _ _ _ 0 I J (i_t rfl (h0 z))
  · have A' := A
    obtain ⟨a1, a2, a3, a4, a5, a6, a7⟩ := A
    subst a5
    subst a6
    subst a7
    exact bk_117_7 _ _ _ 1 I J (i_f (by decide) (weightof_m hv hw hE a1 (by omega) (by omega) (bk_117_17 _ I J (h1 k x y A'))))
theorem gN_60 (hT : T < 13) : gN T ≤ 60 ∧ 40 ≤ gN T := by
  unfold gN
  cases Nat.beq T 12 with
  | true => exact ⟨by decide, by decide⟩
  | false => exact ⟨by decide, by decide⟩
theorem countof_c {Y : Nat → Nat → Nat} (hT : T < 13) (hG : Gr T n Y I) (hn : n ≤ gN T) (hc : c < 2 ^ 31) (hcl : ∀ k, k < n → cl (Y k 0) (Y k 1) (Y k 2) < 2 ^ 31) (h : P (some (.int (nI (fb_ct (pS Y c) n)))) I J) : am_To (am_XX L xs) d 49 0 [some (.ref (gH T)), some (.int (nI c)), none, none] [] I J P := by
  have h60 := gN_60 hT
  have lp : ∀ (m i : Nat), i + m = n → am_To (am_XX L xs) d 49 4 [some (.ref (gH T)), some (.int (nI c)), some (.int (nI (fb_ct (pS Y c) i))), some (.int (nI i))] [] I J P := by
    intro m
    induction m with
    | zero =>
      intro i hi
      have e : i = n := by omega
      subst e
      exact bk_49_4 _ _ _ I J T hT (i_t (by rw [hG.1]; exact nI_le (Nat.le_refl _) (by omega)) h)
    | succ m ih =>
      intro i hi
      have e := ih (i + 1) (by omega)
      rw [fb_ct_succ] at e
      refine bk_49_4 _ _ _ I J T hT (i_le n i hG.1 rfl (fun c => by omega) (fun _ => x_i i rfl (i_eq _ c (hG.2 i (by omega)).1 rfl (fun z => ?_) (fun z => ?_) (hcl i (by omega)) hc)))
      · rw [if_pos (pS_t.mpr z)] at e
        rw [nI_1, nI_1]
        exact e
      · rw [if_neg (fun q => z (pS_t.mp q)), Nat.add_zero] at e
        rw [nI_1]
        exact e
  exact bk_49_0 _ I J T hT (lp n 0 (by omega))
theorem find_c {Y : Nat → Nat → Nat} (hT : T < 13) (hG : Gr T n Y I) (hn : n ≤ gN T) (hc : c < 2 ^ 31) (hcl : ∀ k, k < n → cl (Y k 0) (Y k 1) (Y k 2) < 2 ^ 31) (hk : k < 2 ^ 31) (h : P (some (.int (oI (kth (pS Y c) 0 n k)))) I J) : am_To (am_XX L xs) d 51 0 [some (.ref (gH T)), some (.int (nI c)), some (.int (nI k)), none, none] [] I J P := by
  have h60 := gN_60 hT
  have lp : ∀ (m i l : Nat), i + m = n → l < 2 ^ 31 → kth (pS Y c) 0 n k = kth (pS Y c) i m l → am_To (am_XX L xs) d 51 5 [some (.ref (gH T)), some (.int (nI c)), none, some (.int (nI l)), some (.int (nI i))] [] I J P := by
    intro m
    induction m with
    | zero =>
      intro i l hi hl he
      have e : i = n := by omega
      subst e
      refine bk_51_5 _ _ _ I J T hT (i_t (by rw [hG.1]; exact nI_le (Nat.le_refl _) (by omega)) ?_)
      rw [he] at h
      exact h
    | succ m ih =>
      intro i l hi hl he
      refine bk_51_5 _ _ _ I J T hT (i_le n i hG.1 rfl (fun c => by omega) (fun _ => x_i i rfl (i_eq _ c (hG.2 i (by omega)).1 rfl (fun z => ?_) (fun z => ?_) (hcl i (by omega)) hc)))
      · have z' := pS_t.mpr z
        rw [kth_s i m l, if_pos z'] at he
        refine i_eq l 0 rfl rfl (fun q => ?_) (fun q => ?_)
        · subst q
          dsimp only at he
          rw [he] at h
          exact h
        · obtain ⟨l', rfl⟩ : ∃ l', l = l' + 1 := ⟨l - 1, by omega⟩
          dsimp only at he
          rw [pk_m1, nI_1]
          exact ih (i + 1) l' (by omega) (by omega) he
      · rw [kth_s i m l, if_neg (fun q => z (pS_t.mp q))] at he
        rw [nI_1]
        exact ih (i + 1) l (by omega) hl he
  exact bk_51_0 _ _ I J T hT (lp n 0 k (by omega) hk rfl)
theorem sw50 (a : Int32) : (a = 0 ∧ am_sw 85 a [(0, 52), (1, 59), (2, 85), (3, 72)] = 52) ∨ (a = 1 ∧ am_sw 85 a [(0, 52), (1, 59), (2, 85), (3, 72)] = 59) ∨ (a = 3 ∧ am_sw 85 a [(0, 52), (1, 59), (2, 85), (3, 72)] = 72) ∨ (a ≠ 0 ∧ a ≠ 1 ∧ a ≠ 3 ∧ am_sw 85 a [(0, 52), (1, 59), (2, 85), (3, 72)] = 85) := by
  by_cases h0 : a = 0
  · exact Or.inl ⟨h0, by rw [h0]; rfl⟩
  · by_cases h1 : a = 1
    · exact Or.inr (Or.inl ⟨h1, by rw [h1]; rfl⟩)
    · by_cases h3 : a = 3
      · exact Or.inr (Or.inr (Or.inl ⟨h3, by rw [h3]; rfl⟩))
      · refine Or.inr (Or.inr (Or.inr ⟨h0, h1, h3, ?_⟩))
        simp only [am_sw, if_neg h0, if_neg h1, if_neg h3]
        split <;> rfl
theorem sw52 (a : Int32) : (a = 2 ∧ am_sw 56 a [(2, 36), (3, 46)] = 36) ∨ (a = 3 ∧ am_sw 56 a [(2, 36), (3, 46)] = 46) ∨ (a ≠ 2 ∧ a ≠ 3 ∧ am_sw 56 a [(2, 36), (3, 46)] = 56) := by
  by_cases h2 : a = 2
  · exact Or.inl ⟨h2, by rw [h2]; rfl⟩
  · by_cases h3 : a = 3
    · exact Or.inr (Or.inl ⟨h3, by rw [h3]; rfl⟩)
    · refine Or.inr (Or.inr ⟨h2, h3, ?_⟩)
      simp only [am_sw, if_neg h2, if_neg h3]
theorem tell_C (hv : EVv w th sn S) (hw : w ≤ 24) (hE : EVc th sn S I) (hc : c < 1728) (hk : k < 2 ^ 31) (h : P (some (.int (rsn sn S c a 0 12 k))) I J) : am_To (am_XX L xs) (d + 2) 48 0 [some (.ref 9), some (.int (nI c)), some (.int (nI k)), some (.int a), none, none, none] [] I J P := by
  have cl12 : ∀ i, i < sn 12 → cl (S 12 i 0) (S 12 i 1) (S 12 i 2) < 2 ^ 31 := fun i hi => by
    obtain ⟨v1, v2, v3, v4, v5, v6⟩ := hv.2.2 i hi
    unfold cl
    split <;> omega
  have lp : ∀ (m T l : Nat), T + m = 12 → l < 2 ^ 31 → rsn sn S c a 0 12 k = rsn sn S c a T m l → am_To (am_XX L xs) (d + 2) 48 6 [some (.ref 9), some (.int (nI c)), none, some (.int a), some (.int (nI l)), some (.int (nI T)), none] [] I J P := by
    intro m
    induction m with
    | zero =>
      intro T l hT hl he
      have e : T = 12 := by omega
      subst e
      rw [he] at h
      unfold rsn at h
      refine bk_48_6 _ _ _ _ I J (i_t (by decide) (find_c (T := 12) (by decide) hE.2 hv.2.1 (by omega) cl12 hl ?_))
      refine bk_48_68 _ _ I J ?_
      cases hq : kth (pS (S 12) c) 0 (sn 12) l with
      | none =>
        rw [hq] at h
        exact bk_52_0 _ _ I J (i_t rfl (bk_48_72 _ I J h))
      | some i =>
        rw [hq] at h
        dsimp only at h
        obtain ⟨-, hi, -⟩ := kth_some _ _ _ hq
        have h60 := hv.2.1
        obtain ⟨g1, g2, g3⟩ := hE.2.2 i (by omega)
        refine bk_52_0 _ _ I J (i_f (nI_m1 (by omega)) ?_)
        unfold rsY at h
        rcases sw52 a with ⟨e1, e2⟩ | ⟨e1, e2⟩ | ⟨e1, e3, e2⟩
        · rw [e2]
          rw [if_pos e1] at h
          refine bk_52_36 _ I J (x_i i rfl (bk_48_72 _ I J ?_))
          rw [show I 63 i = nI (S 12 i 4) from g3]
          exact h
        · rw [e2]
          rw [if_neg (by rw [e1]; decide), if_pos e1] at h
          refine bk_52_46 _ I J (x_i i rfl (bk_48_72 _ I J ?_))
          rw [show I 62 i = nI (S 12 i 3) from g2]
          exact h
        · rw [e2]
          rw [if_neg e1, if_neg e3] at h
          refine am_wk (am_ln (am_ln (am_ln am_l0))) (bk_52_56 I J ?_)
          exact bk_48_72 _ I J h
    | succ m ih =>
      intro T l hT hl he
      have hT12 : T < 12 := by omega
      obtain ⟨v1, v2, v3⟩ := hv.1 T hT12
      obtain ⟨hG, -⟩ := hE.1 T hT12
      have hgN := gN_e hT12
      have clT : ∀ i, i < sn T → cl (S T i 0) (S T i 1) (S T i 2) < 2 ^ 31 := fun i hi => by
        have := cl_lt (v3 i hi) hw
        omega
      have hct := fb_ct_le (pS (S T) c) (sn T)
      have hkn := kth_none (p := pS (S T) c) (sn T) 0 l
      rw [Nat.zero_add, show fb_ct (pS (S T) c) 0 = 0 from rfl, Nat.add_zero] at hkn
      rw [rsn_s T m l] at he
      refine bk_48_6 _ _ _ _ I J (i_le 12 T rfl rfl (fun z => by omega) (fun _ => x_i T rfl ?_))
      rw [tL_e T hT12]
      refine bk_48_20 _ _ _ _ I J T hT12 (countof_c (by omega) hG (by omega) (by omega) clT ?_)
      refine bk_48_24 _ _ _ _ _ I J (i_le (fb_ct (pS (S T) c) (sn T)) l rfl rfl (fun z => ?_) (fun z => ?_))
      · rw [hkn.mpr z] at he
        rw [pk_sub z, nI_1]
        exact ih (T + 1) (l - fb_ct (pS (S T) c) (sn T)) (by omega) (by omega) he
      · cases hq : kth (pS (S T) c) 0 (sn T) l with
        | none => exact absurd (hkn.mp hq) (by omega)
        | some i =>
          rw [hq] at he
          dsimp only at he
          rw [he] at h
          obtain ⟨-, hi, -⟩ := kth_some _ _ _ hq
          obtain ⟨g1, g2, g3⟩ := hG.2 i (by omega)
          refine bk_50_0 _ _ _ _ I J (x_i T rfl ?_)
          rw [tL_e T hT12]
          refine bk_50_6 _ _ _ _ I J T hT12 (find_c (by omega) hG (by omega) (by omega) clT hl ?_)
          rw [hq]
          refine bk_50_11 _ _ _ _ I J (i_f (nI_m1 (by omega)) ?_)
          unfold rsS at h
          rcases sw50 a with ⟨e1, e2⟩ | ⟨e1, e2⟩ | ⟨e1, e2⟩ | ⟨e1, e3, e4, e2⟩
          · rw [e2]
            rw [if_pos e1] at h
            refine am_wk (am_ln (am_lv (am_ln (am_lv (am_ln (am_ln am_l0)))))) (bk_50_52 (nI T) (nI l) I J (bk_48_43 _ I J ?_))
            rw [show (100 : Int32) * nI T = nI (100 * T) from pk_mul 100 T, nI_add]
            exact h
          · rw [e2]
            rw [if_neg (by rw [e1]; decide), if_pos e1] at h
            refine am_wk (am_lv (am_lv (am_ln (am_ln (am_ln (am_lv am_l0)))))) (bk_50_59 (nI T) (nI i) I J (x_i T rfl ?_))
            rw [tL_e T hT12]
            refine bk_50_65 _ I J T hT12 (x_i i rfl (bk_48_43 _ I J ?_))
            rw [g3]
            exact h
          · rw [e2]
            rw [if_neg (by rw [e1]; decide), if_neg (by rw [e1]; decide), if_pos e1] at h
            refine am_wk (am_lv (am_lv (am_ln (am_ln (am_ln (am_lv am_l0)))))) (bk_50_72 (nI T) (nI i) I J (x_i T rfl ?_))
            rw [tL_e T hT12]
            refine bk_50_78 _ I J T hT12 (x_i i rfl (bk_48_43 _ I J ?_))
            rw [g2]
            exact h
          · rw [e2]
            rw [if_neg e1, if_neg e3, if_neg e4] at h
            refine am_wk (am_ln (am_ln (am_ln (am_ln (am_ln (am_ln am_l0)))))) (bk_50_85 I J ?_)
            exact bk_48_43 _ I J h
  exact bk_48_0 _ _ _ I J (lp 12 0 k (by omega) hk rfl)
theorem reason_C (hv : EVv w th sn S) (hW : I 3 1 = nI w) (hw : w ≤ 24) (hE : EVc th sn S I) (h0 : ((∀ k x y, ¬ LinkA w x1 x2 x3 k x y) ∨ x4 < 0) → P (some (.int (-1))) I J) (h1 : ∀ k x y l, LinkA w x1 x2 x3 k x y → l < 2 ^ 31 → x4 = nI l → P (some (.int (rsn sn S (cl k x y) x5 0 12 l))) I J) : am_To (am_XX L xs) (d + 4) 47 0 [some (.ref 0), some (.int x1), some (.int x2), some (.int x3), some (.int x4), some (.int x5)] [] I J P := by
  refine bk_47_0 _ _ _ _ _ I J (islink_c hW hw (fun z => ?_) (fun k x y A => ?_))
  · exact bk_47_7 _ _ _ _ _ 0 I J (i_t rfl (h0 (Or.inl z)))
  · have A' := A
    obtain ⟨a1, a2, a3, a4, a5, a6, a7⟩ := A
    have hc : cl k x y < 1728 := by
      unfold cl
      split <;> omega
    refine bk_47_7 _ _ _ _ _ 1 I J (i_f (by decide) ⟨fun z => h0 (Or.inr z), fun z => ?_⟩)
    obtain ⟨l, hl, rfl⟩ := nI_of z
    exact cellof_c a5 a6 a7 (by omega) (by omega) (by omega) (bk_47_25 _ _ _ I J (tell_C hv hw hE hc hl (bk_47_32 _ I J (h1 k x y l A' hl rfl))))
end
