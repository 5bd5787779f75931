/-! THE REFERENCE'S TREE: weighs, grows -/
def HAv (G : Nat → Nat) (I : am_I) : Prop := (∀ c, c < 576 → I 113 c = nI (G c)) ∧ ∀ x y, x < 24 → y < 24 → x ≠ y → I 114 (24 * x + y) = nI (G (cl 2 x y))
theorem HAv_ext {G G' : Nat → Nat} {I : am_I} (h : HAv G I) (he : ∀ c, G c = G' c) : HAv G' I := ⟨fun c hc => by rw [← he c]; exact h.1 c hc, fun x y a b c => by rw [← he]; exact h.2 x y a b c⟩
theorem cl2_e {a b x y : Nat} (ha : a < 24) (hb : b < 24) (hx : x < 24) (hy : y < 24) : cl 2 a b = cl 2 x y ↔ (a = x ∧ b = y) ∨ (a = y ∧ b = x) := by
  rw [cl_inj (by omega) (by omega) ha hb hx hy]
  constructor
  · rintro ⟨-, q | ⟨-, q⟩⟩
    · exact Or.inl q
    · exact Or.inr q
  · rintro (q | q)
    · exact ⟨rfl, Or.inl q⟩
    · exact ⟨rfl, Or.inr ⟨rfl, q⟩⟩
theorem WT_ex {sn : Nat → Nat} {S : Nat → Nat → Nat → Nat} {c : Nat} (h : 0 < WT sn S c) : ∃ T k, T < 13 ∧ k < sn T ∧ cl (S T k 0) (S T k 1) (S T k 2) = c := by
  apply Classical.byContradiction
  intro hn
  have h0 : WT sn S c ≤ 13 * 0 := fb_sm_bound (fun T hT => by
    have h1 : gsum (S T) c (sn T) ≤ sn T * 0 := fb_sm_bound (fun k hk => by
      rw [if_neg (fun e => hn ⟨T, k, hT, hk, e⟩)]
      exact Nat.le_refl 0)
    exact h1)
  omega
theorem WT_pos {w : Nat} {th : Nat → Bool} {sn : Nat → Nat} {S : Nat → Nat → Nat → Nat} (hv : EVv w th sn S) (hw : w ≤ 24) {k x y : Nat} (hk : k < 4) (hx : x < 24) (hy : y < 24) (h : 0 < WT sn S (cl k x y)) : x ≠ y ∧ x < w ∧ y < w := by
  obtain ⟨T, i, hT, hi, e⟩ := WT_ex h
  have hr : S T i 0 ≤ 3 ∧ S T i 1 < w ∧ S T i 2 < w ∧ S T i 1 ≠ S T i 2 := by
    by_cases q : T = 12
    · subst q
      obtain ⟨a1, a2, a3, a4, a5, a6⟩ := hv.2.2 i hi
      exact ⟨a1, a2, a3, a4⟩
    · obtain ⟨a1, a2, a3, a4, a5⟩ := (hv.1 T (by omega)).2.2 i hi
      exact ⟨by omega, a2, a3, a4⟩
  have := (cl_inj (by omega) hk (by omega) (by omega) hx hy).mp e
  omega
theorem WT_v {w : Nat} {th : Nat → Bool} {sn : Nat → Nat} {S : Nat → Nat → Nat → Nat} (hv : EVv w th sn S) (hw : w ≤ 24) : WV0 (WT sn S) := by
  refine ⟨fun c => ?_, fun x hx => ?_⟩
  · have := WT_le hv c
    omega
  · rcases Nat.eq_zero_or_pos (WT sn S (24 * x + x)) with q | q
    · exact q
    · have e : cl 0 x x = 24 * x + x := by
        unfold cl
        rw [if_neg (by omega)]
        omega
      rw [← e] at q
      exact absurd rfl (WT_pos hv hw (by omega) hx hx q).1
section
variable {L : Nat} {xs : Nat → Int32} {d : Nat} {P : Option Value → am_I → am_J → Prop} {I : am_I} {J : am_J} {G : Nat → Nat} {k a b q w n : Nat} {th : Nat → Bool} {sn : Nat → Nat} {S : Nat → Nat → Nat → Nat} {x4 : Int32} {o : Nat → Nat}
theorem ix24 {x y : Nat} : ((24 : Int32) * nI x) + nI y = nI (24 * x + y) := by
  rw [show (24 : Int32) * nI x = nI (24 * x) from pk_mul 24 x, nI_add]
theorem adds_m (hk : k ≤ 3) (ha : a < 24) (hb : b < 24) (hab : a ≠ b) (hq : k < 3 → x4 = nI q) (hG : HAv G I) (h : ∀ I', (∀ g, g ≠ 113 → g ≠ 114 → I' g = I g) → HAv (fun c => G c + if cl k a b = c then q else 0) I' → P none I' J) : am_To (am_XX L xs) d 125 0 [some (.ref 95), some (.int (nI k)), some (.int (nI a)), some (.int (nI b)), some (.int x4)] [] I J P := by
  have e0 : cl 0 a b = 24 * a + b := by
    unfold cl
    rw [if_neg (by omega)]
    omega
  refine bk_125_0 _ _ _ _ I J ?_
  rw [ix24]
  refine i_eq k 0 rfl rfl (fun k0 => ?_) (fun k0 => ?_)
  · subst k0
    rw [hq (by omega)]
    refine x_i (24 * a + b) rfl (x_i (24 * a + b) rfl (bk_125_20 _ _ _ _ _ J (i_f (by decide) (h _ (fun g h1 h2 => am_up_row h1) ⟨fun c hc => ?_, fun x y hx hy hxy => ?_⟩))))
    · dsimp only
      by_cases e : c = 24 * a + b
      · rw [e, am_up_s, e0, if_pos rfl, hG.1 _ (by omega), nI_add]
      · rw [am_up_k e, e0, if_neg (fun z => e z.symm), Nat.add_zero]
        exact hG.1 c hc
    · dsimp only
      rw [am_up_h (by decide), if_neg (fun z => by have := (cl_inj (by omega) (by omega) ha hb hx hy).mp z; omega), Nat.add_zero]
      exact hG.2 x y hx hy hxy
  · refine bk_125_20 _ _ _ _ I J ?_
    rw [ix24, ix24]
    refine i_eq k 2 rfl rfl (fun k2 => ?_) (fun k2 => h I (fun _ _ _ => rfl) ⟨fun c hc => ?_, fun x y hx hy hxy => ?_⟩)
    · subst k2
      rw [hq (by omega)]
      refine x_i (24 * a + b) rfl (x_i (24 * a + b) rfl (x_i (24 * b + a) rfl (x_i (24 * b + a) rfl ?_)))
      have hne : 24 * b + a ≠ 24 * a + b := by omega
      rw [am_up_k hne, hG.2 a b ha hb hab, hG.2 b a hb ha (by omega), nI_add, nI_add]
      refine h _ (fun g h1 h2 => by rw [am_up_row h2, am_up_row h2]) ⟨fun c hc => ?_, fun x y hx hy hxy => ?_⟩
      · dsimp only
        rw [am_up_h (by decide), am_up_h (by decide), if_neg (fun z => by
          unfold cl at z
          split at z <;> omega), Nat.add_zero]
        exact hG.1 c hc
      · dsimp only
        have key := cl2_e ha hb hx hy
        by_cases e1 : 24 * x + y = 24 * b + a
        · have e2 : x = b ∧ y = a := by omega
          obtain ⟨e3, e4⟩ := e2
          subst e3
          subst e4
          rw [am_up_s, if_pos (key.mpr (Or.inr ⟨rfl, rfl⟩))]
        · by_cases e2 : 24 * x + y = 24 * a + b
          · have e3 : x = a ∧ y = b := by omega
            obtain ⟨e4, e5⟩ := e3
            subst e4
            subst e5
            rw [am_up_k (by omega), am_up_s, if_pos rfl]
          · rw [am_up_k e1, am_up_k e2, if_neg (fun z => by have := key.mp z; omega), Nat.add_zero]
            exact hG.2 x y hx hy hxy
    · dsimp only
      rw [if_neg (fun z => by
        unfold cl at z
        split at z <;> omega), Nat.add_zero]
      exact hG.1 c hc
    · dsimp only
      rw [if_neg (fun z => by have := (cl_inj (by omega) (by omega) ha hb hx hy).mp z; omega), Nat.add_zero]
      exact hG.2 x y hx hy hxy
theorem Sm_fr {m : Nat} {Y : Nat → Nat → Nat} {I' : am_I} (h : Sm m Y I) (h3 : I' 95 3 = I 95 3) (hf : ∀ g, 105 ≤ g → g ≤ 109 → I' g = I g) : Sm m Y I' := by
  unfold Sm at *
  rw [h3, hf 105 (by decide) (by decide), hf 106 (by decide) (by decide), hf 107 (by decide) (by decide), hf 108 (by decide) (by decide), hf 109 (by decide) (by decide)]
  exact h
theorem Gm_fr {T m : Nat} {Y : Nat → Nat → Nat} {I' : am_I} (h : Gm T m Y I) (hf : ∀ g, 99 ≤ g → g ≤ 104 → I' g = I g) : Gm T m Y I' := by
  unfold Gm at *
  rw [hf 99 (by decide) (by decide), hf 100 (by decide) (by decide), hf 101 (by decide) (by decide), hf 102 (by decide) (by decide), hf 103 (by decide) (by decide), hf 104 (by decide) (by decide)]
  exact h
theorem EVm_fr {I' : am_I} (h : EVm th sn S I) (h3 : I' 95 3 = I 95 3) (hf : ∀ g, 98 ≤ g → g ≤ 109 → I' g = I g) : EVm th sn S I' := by
  refine ⟨fun T hT => ⟨?_, fun ht => Gm_fr ((h.1 T hT).2 ht) (fun g a b => hf g (by omega) (by omega))⟩, Sm_fr h.2 h3 (fun g a b => hf g (by omega) b)⟩
  rw [hf 98 (by decide) (by decide)]
  exact (h.1 T hT).1
theorem weighs_m (hv : EVv w th sn S) (hw : w ≤ 24) (hE : EVm th sn S I) (h : ∀ I', (∀ g, g ≠ 113 → g ≠ 114 → I' g = I g) → HAv (WT sn S) I' → P none I' J) : am_To (am_XX L xs) (d + 1) 124 0 [some (.ref 95), none, none] [] I J P := by
  have hsn := hv.2.1
  have hE1 : ∀ I1 : am_I, (∀ g, g ≠ 113 → g ≠ 114 → I1 g = I g) → EVm th sn S I1 := fun I1 f => EVm_fr hE (by rw [f 95 (by decide) (by decide)]) (fun g a b => f g (by omega) (by omega))
  -- the sayings
  have ls : ∀ (m i : Nat) (I1 : am_I), i + m = sn 12 → (∀ g, g ≠ 113 → g ≠ 114 → I1 g = I g) → HAv (fun c => fb_sm (fun T => gsum (S T) c (sn T)) 12 + gsum (S 12) c i) I1 → am_To (am_XX L xs) (d + 1) 124 108 [some (.ref 95), some (.int (nI i)), none] [] I1 J P := by
    intro m
    induction m with
    | zero =>
      intro i I1 hi f1 hG
      have e : i = sn 12 := by omega
      subst e
      exact bk_124_108 _ I1 J (i_t (by rw [(hE1 I1 f1).2.1]; exact nI_le (Nat.le_refl _) (by omega)) (h I1 f1 hG))
    | succ m ih =>
      intro i I1 hi f1 hG
      have hEi := hE1 I1 f1
      obtain ⟨s1, s2, s3, s4, s5⟩ := hEi.2.2 i (by omega)
      obtain ⟨v1, v2, v3, v4, v5, v6⟩ := hv.2.2 i (by omega)
      refine bk_124_108 _ I1 J (i_le (sn 12) i hEi.2.1 rfl (fun c => by omega) (fun _ => x_i i rfl (x_i i rfl (x_i i rfl (x_i i rfl ?_)))))
      rw [s2, s3, s4]
      refine adds_m (q := S 12 i 3) v1 (by omega) (by omega) v4 s5 hG (fun I2 f2 hG2 => bk_124_144 _ I2 J ?_)
      rw [nI_1]
      refine ih (i + 1) I2 (by omega) (fun g a b => (f2 g a b).trans (f1 g a b)) (HAv_ext hG2 (fun c => ?_))
      show _ = _ + gsum (S 12) c (i + 1)
      rw [gsum_s, Nat.add_assoc]
  -- the texts
  have lt : ∀ (m T : Nat) (I1 : am_I), T + m = 12 → (∀ g, g ≠ 113 → g ≠ 114 → I1 g = I g) → HAv (fun c => fb_sm (fun T => gsum (S T) c (sn T)) T) I1 → am_To (am_XX L xs) (d + 1) 124 31 [some (.ref 95), some (.int (nI T)), none] [] I1 J P := by
    intro m
    induction m with
    | zero =>
      intro T I1 hT f1 hG
      have e : T = 12 := by omega
      subst e
      exact bk_124_31 _ I1 J (i_t (by decide) (ls (sn 12) 0 I1 (by omega) f1 hG))
    | succ m ih =>
      intro T I1 hT f1 hG
      have hT12 : T < 12 := by omega
      have hEi := hE1 I1 f1
      obtain ⟨v1, v2, v3⟩ := hv.1 T hT12
      obtain ⟨e1, e2⟩ := hEi.1 T hT12
      refine bk_124_31 _ I1 J (i_le 12 T rfl rfl (fun c => by omega) (fun _ => ?_))
      rw [show (100 : Int32) * nI T = nI (100 * T) from pk_mul 100 T]
      cases ht : th T with
      | false =>
        rw [ht] at e1
        have g : am_To (am_XX L xs) (d + 1) 124 31 [some (.ref 95), some (.int (nI T + 1)), none] [] I1 J P := by
          rw [nI_1]
          refine ih (T + 1) I1 (by omega) f1 (HAv_ext hG (fun c => ?_))
          rw [fb_sm_succ, show gsum (S T) c (sn T) = 0 by rw [v2 ht]; rfl]
          rfl
        exact bk_124_42 _ _ I1 J (x_i T rfl ⟨fun _ => g, fun _ => x_i T rfl (i_t e1 g)⟩)
      | true =>
        have inner : ∀ (m2 i : Nat) (I2 : am_I), i + m2 = sn T → (∀ g, g ≠ 113 → g ≠ 114 → I2 g = I g) → HAv (fun c => fb_sm (fun T => gsum (S T) c (sn T)) T + gsum (S T) c i) I2 → am_To (am_XX L xs) (d + 1) 124 42 [some (.ref 95), some (.int (nI T)), some (.int (nI (100 * T + i)))] [] I2 J P := by
          intro m2
          induction m2 with
          | zero =>
            intro i I2 hi f2 hG2
            have e : i = sn T := by omega
            subst e
            have hG3 := ((hE1 I2 f2).1 T hT12).2 ht
            refine bk_124_42 _ _ I2 J (x_i T rfl (i_t ?_ ?_))
            · rw [hG3.1, show (100 : Int32) * nI T = nI (100 * T) from pk_mul 100 T, nI_add]
              exact nI_le (Nat.le_refl _) (by omega)
            · rw [nI_1]
              exact ih (T + 1) I2 (by omega) f2 hG2
          | succ m2 ih2 =>
            intro i I2 hi f2 hG2
            obtain ⟨w1, w2⟩ := (hE1 I2 f2).1 T hT12
            have hG3 := w2 ht
            rw [ht] at w1
            obtain ⟨s1, s2, s3, s4, s5⟩ := hG3.2 i (by omega)
            obtain ⟨u1, u2, u3, u4, u5⟩ := v3 i (by omega)
            have e100 : ((100 : Int32) * nI T) + I2 99 T = nI (100 * T + sn T) := by
              rw [hG3.1, show (100 : Int32) * nI T = nI (100 * T) from pk_mul 100 T, nI_add]
            refine bk_124_42 _ _ I2 J (x_i T rfl (i_le (100 * T + sn T) (100 * T + i) e100 rfl (fun c => by omega) (fun _ => x_i T rfl (i_f (by rw [w1]; decide) (x_i _ rfl (x_i _ rfl (x_i _ rfl (x_i _ rfl ?_))))))))
            rw [s1, s2, s3]
            refine adds_m (q := S T i 3) (by omega) (by omega) (by omega) u4 (fun _ => s4) hG2 (fun I3 f3 hG4 => bk_124_94 _ _ I3 J ?_)
            rw [nI_1]
            refine ih2 (i + 1) I3 (by omega) (fun g a b => (f3 g a b).trans (f2 g a b)) (HAv_ext hG4 (fun c => ?_))
            show _ = _ + gsum (S T) c (i + 1)
            rw [gsum_s, Nat.add_assoc]
        exact inner (sn T) 0 I1 (by omega) f1 hG
  -- the rows are emptied
  have lz : ∀ (m i : Nat) (I1 : am_I), i + m = 576 → (∀ g, g ≠ 113 → g ≠ 114 → I1 g = I g) → (∀ k, k < i → I1 113 k = 0 ∧ I1 114 k = 0) → am_To (am_XX L xs) (d + 1) 124 2 [some (.ref 95), some (.int (nI i)), none] [] I1 J P := by
    intro m
    induction m with
    | zero =>
      intro i I1 hi f1 hz
      have e : i = 576 := by omega
      subst e
      exact bk_124_2 _ I1 J (i_t (by decide) (lt 12 0 I1 (by omega) f1 ⟨fun c hc => (hz c hc).1, fun x y hx hy _ => (hz (24 * x + y) (by omega)).2⟩))
    | succ m ih =>
      intro i I1 hi f1 hz
      refine bk_124_2 _ I1 J (i_le 576 i rfl rfl (fun c => by omega) (fun _ => x_i i rfl (x_i i rfl ?_)))
      rw [nI_1]
      refine ih (i + 1) _ (by omega) (fun g a b => by rw [am_up_row b, am_up_row a]; exact f1 g a b) (fun k hk => ?_)
      rw [am_up_h (show (113 : Nat) ≠ 114 by decide)]
      by_cases e : k = i
      · rw [e, am_up_s, am_up_s]
        exact ⟨rfl, rfl⟩
      · rw [am_up_k e, am_up_k e, am_up_h (show (114 : Nat) ≠ 113 by decide)]
        exact hz k (by omega)
  exact bk_124_0 I J (lz 576 0 I (by omega) (fun _ _ _ => rfl) (fun k hk => absurd hk (Nat.not_lt_zero k)))
theorem TRm_fr {s : TS} {I' : am_I} (h : TRm s I) (h1 : I' 115 = I 115) (h2 : I' 116 = I 116) (h3 : I' 95 26 = I 95 26) (h4 : I' 95 27 = I 95 27) : TRm s I' := by
  unfold TRm at *
  rw [h1, h2, h3, h4]
  exact h
theorem HAv_fr {I' : am_I} (h : HAv G I) (h1 : I' 113 = I 113) (h2 : I' 114 = I 114) : HAv G I' := by
  unfold HAv at *
  rw [h1, h2]
  exact h
theorem grows_m (hv : EVv w th sn S) (hw : w ≤ 24) (hE : EVm th sn S I) (hS : Srt (WT sn S) 576 n o) (h : ∀ I', (∀ g, g ≠ 95 → g ≠ 113 → g ≠ 114 → g ≠ 115 → g ≠ 116 → g ≠ 117 → I' g = I g) → (∀ k, k ≠ 26 → k ≠ 27 → I' 95 k = I 95 k) → HAv (WT sn S) I' → TRm (trr (WT sn S) (nt sn S) o n) I' → P none I' J) : am_To (am_XX L xs) (d + 2) 123 0 [some (.ref 95), none, none, none] [] I J P := by
  have hW := WT_v hv hw
  have hW31 : ∀ c, WT sn S c < 2 ^ 31 := fun c => by have := hW.1 c; omega
  have hn := srt_n hS
  -- what stays all along
  have inj : ∀ i j, i < n → j < n → o i = o j → i = j := fun i j hi hj e => by
    rcases Nat.lt_or_ge i j with c | c
    · have := hS.1 i j c hj
      unfold bf at this
      rw [e] at this
      omega
    · rcases Nat.lt_or_ge j i with c2 | c2
      · have := hS.1 j i c2 hi
        unfold bf at this
        rw [e] at this
        omega
      · omega
  -- one link after another
  have nxt : ∀ (m i : Nat) (I1 : am_I), i + m = n → (∀ g, g ≠ 95 → g ≠ 113 → g ≠ 114 → g ≠ 115 → g ≠ 116 → g ≠ 117 → I1 g = I g) → (∀ k, k ≠ 26 → k ≠ 27 → I1 95 k = I 95 k) → HAv (WT sn S) I1 → TRm (trr (WT sn S) (nt sn S) o i) I1 → (∀ c, c < 576 → (I1 117 c = 0 ↔ ¬ (WT sn S c = 0 ∨ ∃ k, k < i ∧ o k = c))) → ∀ P' : Option Value → am_I → am_J → Prop, (∀ s0, am_To (am_XX L xs) (d + 2) 123 82 [some (.ref 95), some (.int s0), none, none] [] I1 J P → P' (some (.int s0)) I1 J) → am_To (am_XX L xs) (d + 1) 126 0 [some (.ref 95), none, none] [] I1 J P' := by
    intro m
    induction m with
    | zero =>
      intro i I1 hi f1 f2 hG hT hD P' hP
      have e : i = n := by omega
      subst e
      refine next_m hG.1 hW31 hD (fun e he hnd _ => ?_) (fun _ => hP _ (bk_123_82 _ I1 J (i_t rfl (h I1 f1 f2 hG hT))))
      rcases Nat.eq_zero_or_pos (WT sn S e) with q | q
      · exact absurd (Or.inl q) hnd
      · obtain ⟨k, hk, ek⟩ := hS.2.2 e he q
        exact absurd (Or.inr ⟨k, hk, ek⟩) hnd
    | succ m ih =>
      intro i I1 hi f1 f2 hG hT hD P' hP
      obtain ⟨o1, o2⟩ := hS.2.1 i (by omega)
      have hio : ¬ (WT sn S (o i) = 0 ∨ ∃ k, k < i ∧ o k = o i) := by
        rintro (q | ⟨k, hk, ek⟩)
        · omega
        · have := inj k i (by omega) (by omega) ek
          omega
      refine next_m hG.1 hW31 hD (fun e he hnd hmin => ?_) (fun hall => absurd (hall (o i) o1) hio)
      have ee : e = o i := by
        apply Classical.byContradiction
        intro hne
        have q1 := hmin (o i) o1 hio (fun q => hne q.symm)
        have hpos : 0 < WT sn S e := Nat.pos_of_ne_zero (fun q => hnd (Or.inl q))
        obtain ⟨k, hk, ek⟩ := hS.2.2 e he hpos
        have hki : i < k := by
          rcases Nat.lt_or_ge k i with c | c
          · exact absurd (Or.inr ⟨k, c, ek⟩) hnd
          · rcases Nat.eq_or_lt_of_le c with c2 | c2
            · rw [← c2] at ek
              exact absurd ek.symm hne
            · exact c2
        have q2 := hS.1 i k hki hk
        rw [ek] at q2
        unfold bf at q1 q2
        omega
      subst ee
      have hxy : o i / 24 ≠ o i % 24 := fun q => by
        have := hW.2 (o i / 24) (by omega)
        rw [show 24 * (o i / 24) + o i / 24 = o i by omega] at this
        omega
      have hTv := trr_v (NT := nt sn S) hW hS i (by omega)
      refine hP _ (bk_123_82 _ I1 J (i_f (nI_m1 (by omega)) (x_i (o i) rfl ?_)))
      rw [q_rem o1, q_div o1, vn1]
      have hE2 : EVm th sn S (am_up I1 117 (o i) 1) := EVm_fr hE (by rw [am_up_h (by decide)]; exact f2 3 (by decide) (by decide)) (fun g a b => by rw [am_up_row (by omega)]; exact f1 g (by omega) (by omega) (by omega) (by omega) (by omega) (by omega))
      refine bar_m hTv (fun y hy => by rw [am_up_h (by decide)]; exact hT.1 y hy) hw hv.2.1 hv.2.2 hE2.2 o1 hxy ?_
      have hstep : trr (WT sn S) (nt sn S) o (i + 1) = tstep (WT sn S) (nt sn S) (trr (WT sn S) (nt sn S) o i) (o i) := rfl
      generalize hs : trr (WT sn S) (nt sn S) o i = s at *
      have hlt := tb_lt (NT := nt sn S) (s := s) (e := o i)
      have hDone : ∀ (K : am_I), K 117 = am_up I1 117 (o i) 1 117 → ∀ c, c < 576 → (K 117 c = 0 ↔ ¬ (WT sn S c = 0 ∨ ∃ k, k < i + 1 ∧ o k = c)) := fun K hK c hc => by
        rw [hK]
        by_cases e : c = o i
        · subst e
          rw [am_up_s]
          exact ⟨fun q => absurd q (by decide), fun q => absurd (Or.inr ⟨i, by omega, rfl⟩) q⟩
        · rw [am_up_k e, hD c hc]
          constructor
          · rintro q (z | ⟨k, hk, ek⟩)
            · exact q (Or.inl z)
            · by_cases e2 : k = i
              · rw [e2] at ek
                exact e ek.symm
              · exact q (Or.inr ⟨k, by omega, ek⟩)
          · rintro q (z | ⟨k, hk, ek⟩)
            · exact q (Or.inl z)
            · exact q (Or.inr ⟨k, by omega, ek⟩)
      unfold tstep at hstep
      refine bk_123_115 _ _ _ _ _ _ J (x_i (o i) rfl (x_i (o i) rfl ?_))
      rw [am_up_s]
      refine i_eq (tb (nt sn S) s (o i)) 0 rfl rfl (fun c => x_i (o i % 24) rfl (x_i (o i) rfl ?_)) (fun c => ?_)
      · rw [if_pos c] at hstep
        have e26 : am_up (am_up (am_up I1 117 (o i) 1) 116 (o i) (nI (tb (nt sn S) s (o i)))) 115 (o i % 24) (nI (o i / 24)) 95 26 = nI (tK s) := by
          rw [am_up_h (by decide), am_up_h (by decide), am_up_h (by decide)]
          exact hT.2.2.1
        rw [e26, nI_1, am_up_k (show (27 : Nat) ≠ 26 by decide), am_up_h (show (95 : Nat) ≠ 115 by decide), am_up_h (show (95 : Nat) ≠ 116 by decide), am_up_h (show (95 : Nat) ≠ 117 by decide), hT.2.2.2, am_up_h (show (113 : Nat) ≠ 95 by decide), am_up_h (show (113 : Nat) ≠ 115 by decide), am_up_h (show (113 : Nat) ≠ 116 by decide), am_up_h (show (113 : Nat) ≠ 117 by decide), hG.1 _ o1, nI_add, c]
        refine bk_123_157 _ J (ih (i + 1) _ (by omega) (fun g a1 a2 a3 a4 a5 a6 => ?_) (fun k a1 a2 => ?_) (HAv_fr hG ?_ ?_) ?_ (hDone _ ?_) _ (fun s0 q => bk_123_161 _ _ J q))
        · rw [am_up_row a1, am_up_row a1, am_up_row a4, am_up_row a5, am_up_row a6]
          exact f1 g a1 a2 a3 a4 a5 a6
        · rw [am_up_k a2, am_up_k a1, am_up_h (by decide), am_up_h (by decide), am_up_h (by decide)]
          exact f2 k a1 a2
        · rw [am_up_row (by decide), am_up_row (by decide), am_up_row (by decide), am_up_row (by decide), am_up_row (by decide)]
        · rw [am_up_row (by decide), am_up_row (by decide), am_up_row (by decide), am_up_row (by decide), am_up_row (by decide)]
        · rw [hstep]
          refine ⟨fun y hy => ?_, fun k hk => ?_, ?_, ?_⟩
          · rw [am_up_h (by decide), am_up_h (by decide)]
            show _ = oI (upf (tP s) (o i % 24) (some (o i / 24)) y)
            by_cases g : y = o i % 24
            · rw [g, am_up_s, upf_s]
              rfl
            · rw [am_up_k g, upf_n g, am_up_h (by decide), am_up_h (by decide)]
              exact hT.1 y hy
          · rw [am_up_h (by decide), am_up_h (by decide), am_up_h (by decide)]
            show _ = nI (upf (tB s) (o i) 0 k)
            by_cases g : k = o i
            · rw [g, am_up_s, upf_s]
            · rw [am_up_k g, upf_n g, am_up_h (by decide)]
              exact hT.2.1 k hk
          · rw [am_up_k (by decide), am_up_s]
            rfl
          · rw [am_up_s]
            rfl
        · rw [am_up_row (by decide), am_up_row (by decide), am_up_row (by decide), am_up_row (by decide)]
      · rw [if_neg c] at hstep
        refine bk_123_157 _ J (ih (i + 1) _ (by omega) (fun g a1 a2 a3 a4 a5 a6 => ?_) (fun k a1 a2 => ?_) (HAv_fr hG ?_ ?_) ?_ (hDone _ ?_) _ (fun s0 q => bk_123_161 _ _ J q))
        · rw [am_up_row a5, am_up_row a6]
          exact f1 g a1 a2 a3 a4 a5 a6
        · rw [am_up_h (by decide), am_up_h (by decide)]
          exact f2 k a1 a2
        · rw [am_up_row (by decide), am_up_row (by decide)]
        · rw [am_up_row (by decide), am_up_row (by decide)]
        · rw [hstep]
          refine ⟨fun y hy => ?_, fun k hk => ?_, ?_, ?_⟩
          · rw [am_up_h (by decide), am_up_h (by decide)]
            exact hT.1 y hy
          · show _ = nI (upf (tB s) (o i) (tb (nt sn S) s (o i)) k)
            by_cases g : k = o i
            · rw [g, am_up_s, upf_s]
            · rw [am_up_k g, upf_n g, am_up_h (by decide)]
              exact hT.2.1 k hk
          · rw [am_up_h (by decide), am_up_h (by decide)]
            exact hT.2.2.1
          · rw [am_up_h (by decide), am_up_h (by decide)]
            exact hT.2.2.2
        · rw [am_up_row (by decide)]
  refine bk_123_0 I J (weighs_m hv hw hE (fun I1 f1 hG1 => bk_123_4 I1 J ?_))
  -- whys and done
  have l2 : ∀ (m i : Nat) (I2 : am_I), i + m = 576 → (∀ g, g ≠ 95 → g ≠ 115 → g ≠ 116 → g ≠ 117 → I2 g = I1 g) → (∀ k, k ≠ 26 → k ≠ 27 → I2 95 k = I1 95 k) → I2 95 26 = 0 → I2 95 27 = 0 → (∀ y, y < 24 → I2 115 y = -1) → (∀ c, c < i → I2 116 c = 1 ∧ (I2 117 c = 0 ↔ ¬ WT sn S c = 0)) → am_To (am_XX L xs) (d + 2) 123 37 [some (.ref 95), some (.int (nI i)), none, none] [] I2 J P := by
    intro m
    induction m with
    | zero =>
      intro i I2 hi g1 g2 g3 g4 g5 g6
      have e : i = 576 := by omega
      subst e
      refine bk_123_37 _ I2 J (i_t (by decide) (nxt n 0 I2 (by omega) (fun g a1 a2 a3 a4 a5 a6 => (g1 g a1 a4 a5 a6).trans (f1 g a2 a3)) (fun k a1 a2 => (g2 k a1 a2).trans (by rw [f1 95 (by decide) (by decide)])) (HAv_fr hG1 (g1 113 (by decide) (by decide) (by decide) (by decide)) (g1 114 (by decide) (by decide) (by decide) (by decide))) ⟨g5, fun c hc => (g6 c hc).1, g3, g4⟩ (fun c hc => ?_) _ (fun s0 q => bk_123_81 _ I2 J q)))
      rw [(g6 c hc).2]
      constructor
      · rintro q (z | ⟨k, hk, -⟩)
        · exact q z
        · exact absurd hk (Nat.not_lt_zero k)
      · intro q z
        exact q (Or.inl z)
    | succ m ih =>
      intro i I2 hi g1 g2 g3 g4 g5 g6
      have hWi := hW31 i
      have e113 : am_up I2 116 i 1 113 i = nI (WT sn S i) := by
        rw [am_up_h (by decide), g1 113 (by decide) (by decide) (by decide) (by decide)]
        exact hG1.1 i (by omega)
      have go : ∀ v : Int32, (v = 0 ↔ ¬ WT sn S i = 0) → am_To (am_XX L xs) (d + 2) 123 37 [some (.ref 95), some (.int (nI i + 1)), none, none] [] (am_up (am_up I2 116 i 1) 117 i v) J P := fun v hv2 => by
        rw [nI_1]
        refine ih (i + 1) _ (by omega) (fun g a1 a2 a3 a4 => ?_) (fun k a1 a2 => ?_) ?_ ?_ (fun y hy => ?_) (fun c hc => ?_)
        · rw [am_up_row a4, am_up_row a3]
          exact g1 g a1 a2 a3 a4
        · rw [am_up_h (by decide), am_up_h (by decide)]
          exact g2 k a1 a2
        · rw [am_up_h (by decide), am_up_h (by decide)]
          exact g3
        · rw [am_up_h (by decide), am_up_h (by decide)]
          exact g4
        · rw [am_up_h (by decide), am_up_h (by decide)]
          exact g5 y hy
        · rw [am_up_h (show (116 : Nat) ≠ 117 by decide)]
          by_cases e : c = i
          · rw [e, am_up_s, am_up_s]
            exact ⟨rfl, hv2⟩
          · rw [am_up_k e, am_up_k e, am_up_h (show (117 : Nat) ≠ 116 by decide)]
            exact g6 c (by omega)
      refine bk_123_37 _ I2 J (i_le 576 i rfl rfl (fun c => by omega) (fun _ => x_i i rfl (x_i i rfl (i_eq (WT sn S i) 0 e113 rfl (fun c => x_i i rfl ?_) (fun c => x_i i rfl ?_)))))
      · rw [vn1]
        exact go 1 ⟨fun q => absurd q (by decide), fun q => absurd c q⟩
      · rw [vn0]
        exact go 0 ⟨fun _ => c, fun _ => rfl⟩
  have l1 : ∀ (m i : Nat) (I2 : am_I), i + m = 24 → (∀ g, g ≠ 95 → g ≠ 115 → I2 g = I1 g) → (∀ k, k ≠ 26 → k ≠ 27 → I2 95 k = I1 95 k) → I2 95 26 = 0 → I2 95 27 = 0 → (∀ y, y < i → I2 115 y = -1) → am_To (am_XX L xs) (d + 2) 123 16 [some (.ref 95), some (.int (nI i)), none, none] [] I2 J P := by
    intro m
    induction m with
    | zero =>
      intro i I2 hi g1 g2 g3 g4 g5
      have e : i = 24 := by omega
      subst e
      exact bk_123_16 _ I2 J (i_t (by decide) (l2 576 0 I2 (by omega) (fun g a1 a2 _ _ => g1 g a1 a2) g2 g3 g4 g5 (fun c hc => absurd hc (Nat.not_lt_zero c))))
    | succ m ih =>
      intro i I2 hi g1 g2 g3 g4 g5
      refine bk_123_16 _ I2 J (i_le 24 i rfl rfl (fun c => by omega) (fun _ => x_i i rfl ?_))
      rw [nI_1]
      refine ih (i + 1) _ (by omega) (fun g a1 a2 => ?_) (fun k a1 a2 => ?_) ?_ ?_ (fun y hy => ?_)
      · rw [am_up_row a2]
        exact g1 g a1 a2
      · rw [am_up_h (by decide)]
        exact g2 k a1 a2
      · rw [am_up_h (by decide)]
        exact g3
      · rw [am_up_h (by decide)]
        exact g4
      · by_cases e : y = i
        · rw [e, am_up_s]
        · rw [am_up_k e]
          exact g5 y (by omega)
  exact l1 24 0 _ (by omega) (fun g a1 _ => by rw [am_up_row a1, am_up_row a1]) (fun k a1 a2 => by rw [am_up_k a2, am_up_k a1]) (by rw [am_up_k (by decide), am_up_s]) am_up_s (fun y hy => absurd hy (Nat.not_lt_zero y))
end
