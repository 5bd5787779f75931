/-! QUERIES OF THE REFERENCE -/
section
variable {L : Nat} {xs : Nat → Int32} {d : Nat} {P : Option Value → am_I → am_J → Prop} {n w m : Nat} {b v : Nat → Nat} {th : Nat → Bool} {sn : Nat → Nat} {S : Nat → Nat → Nat → Nat} {kp : KP} {I : am_I} {J : am_J} {x1 x2 : Int32} {x y i j : Nat} {par : Nat → Option Nat} {ab o : Nat → Nat}
theorem parent_M (hA : AVv n b w v th sn S kp) (hM : MO n b w v th sn S kp I J) (hS : Srt (WT sn S) 576 m o) (hj : j < w) (h : ∀ I', FM I J I' J → MO n b w v th sn S kp I' J → P (some (.int (oI (tP (trr (WT sn S) (nt sn S) o m) j)))) I' J) : am_To (am_XX L xs) (d + 3) 122 0 [some (.ref 95), some (.int (nI j))] [] I J P := by
  have hw := hA.2.1.1
  refine bk_122_0 _ I J (isword_m hM.2.1.1 hw (fun z => absurd rfl (z j hj)) (fun _ _ _ => ?_))
  refine bk_122_5 _ 1 I J (i_f (by decide) (grows_M hA hM hS (fun I1 f1 hM1 hG hT => bk_122_14 _ I1 J (x_i j rfl ?_))))
  rw [hT.1 j (by omega)]
  exact h I1 f1 hM1
theorem why_M (hA : AVv n b w v th sn S kp) (hM : MO n b w v th sn S kp I J) (hS : Srt (WT sn S) 576 m o) (hi : i < w) (hj : j < w) (hij : i ≠ j) (h : ∀ I', FM I J I' J → MO n b w v th sn S kp I' J → P (some (.int (nI (tB (trr (WT sn S) (nt sn S) o m) (24 * i + j))))) I' J) : am_To (am_XX L xs) (d + 3) 129 0 [some (.ref 95), some (.int (nI i)), some (.int (nI j))] [] I J P := by
  have hw := hA.2.1.1
  refine bk_129_0 _ _ I J (arewords_m hM.2.1.1 hw (fun z => absurd rfl (z i j hi hj rfl)) (fun _ _ _ _ _ _ => ?_))
  refine bk_129_6 _ _ 1 I J (i_f (by decide) (i_eq i j rfl rfl (fun c => absurd c hij) (fun _ => grows_M hA hM hS (fun I1 f1 hM1 hG hT => bk_129_20 _ _ I1 J (x_i (24 * i + j) ix24 ?_)))))
  rw [hT.2.1 _ (by omega)]
  exact h I1 f1 hM1
theorem above_M (hA : AVv n b w v th sn S kp) (hM : MO n b w v th sn S kp I J) (hS : Srt (WT sn S) 576 m o) (hi : i < w) (hj : j < w) (h : ∀ I', FM I J I' J → MO n b w v th sn S kp I' J → P (some (.int (bI ((tA (trr (WT sn S) (nt sn S) o m) j).testBit i)))) I' J) : am_To (am_XX L xs) (d + 3) 130 0 [some (.ref 95), some (.int (nI i)), some (.int (nI j))] [] I J P := by
  have hw := hA.2.1.1
  have hv := trr_v (NT := nt sn S) (WT_v hA.2.2.1 hw) hS m (Nat.le_refl m)
  refine bk_130_0 _ _ I J (arewords_m hM.2.1.1 hw (fun z => absurd rfl (z i j hi hj rfl)) (fun _ _ _ _ _ _ => ?_))
  refine bk_130_6 _ _ 1 I J (i_f (by decide) (grows_M hA hM hS (fun I1 f1 hM1 hG hT => ?_)))
  have hq := h I1 f1 hM1
  refine bk_130_15 _ _ I1 J (i_eq i j rfl rfl (fun c => ?_) (fun c => ?_))
  · subst c
    rw [hv.1.2.2.1 i] at hq
    exact one_m (bk_130_37 _ I1 J hq)
  · refine isover_m hv.1 hT.1 (by omega) (by omega) (fun z => ?_) (fun z => ?_)
    · rcases z with z | z
      · exact absurd z c
      · rw [z] at hq
        exact bk_130_26 1 I1 J (i_f (by decide) (one_m (bk_130_37 _ I1 J hq)))
    · have z2 : (tA (trr (WT sn S) (nt sn S) o m) j).testBit i = false := by
        rw [← Bool.not_eq_true]
        exact fun q => z (Or.inr q)
      rw [z2] at hq
      exact bk_130_26 0 I1 J (i_t rfl (one_m (bk_130_37 _ I1 J hq)))
/-- the tree's links are among words -/
theorem tr_w (hA : AVv n b w v th sn S kp) (hS : Srt (WT sn S) 576 m o) {y x : Nat} (hp : tP (trr (WT sn S) (nt sn S) o m) y = some x) : y < w ∧ x < w := by
  have hw := hA.2.1.1
  have hv := trr_v (NT := nt sn S) (WT_v hA.2.2.1 hw) hS m (Nat.le_refl m)
  obtain ⟨q1, q2, -⟩ := hv.1.1 y x hp
  have h1 := hv.2.1 y x hp
  have e : cl 0 x y = 24 * x + y := by
    unfold cl
    rw [if_neg (by omega)]
    omega
  rw [← e] at h1
  have := WT_pos hA.2.2.1 hw (by omega) q2 q1 h1
  exact ⟨this.2.2, this.2.1⟩
theorem tr_wa (hA : AVv n b w v th sn S kp) (hS : Srt (WT sn S) 576 m o) {y x : Nat} (hp : (tA (trr (WT sn S) (nt sn S) o m) y).testBit x = true) : y < w := by
  have hw := hA.2.1.1
  have hv := trr_v (NT := nt sn S) (WT_v hA.2.2.1 hw) hS m (Nat.le_refl m)
  cases hq : tP (trr (WT sn S) (nt sn S) o m) y with
  | none =>
    rw [hv.1.2.1 y hq, Nat.zero_testBit] at hp
    cases hp
  | some p => exact (tr_w hA hS hq).1
theorem ct_w {p : Nat → Bool} (hw : w ≤ 24) (h : ∀ z, p z = true → z < w) : fb_ct p 24 = fb_ct p w := by
  have e := fb_ct_split p w (24 - w)
  rw [show w + (24 - w) = 24 by omega] at e
  have z : fb_ct (fun k => p (w + k)) (24 - w) = 0 := fb_ct_zero.mpr (fun k hk => by
    rw [← Bool.not_eq_true]
    intro q
    have := h _ q
    omega)
  rw [e, z, Nat.add_zero]
theorem below_M (hA : AVv n b w v th sn S kp) (hM : MO n b w v th sn S kp I J) (hS : Srt (WT sn S) 576 m o) (hj : j < w) (h : ∀ I', FM I J I' J → MO n b w v th sn S kp I' J → P (some (.int (blA (fun z => (tA (trr (WT sn S) (nt sn S) o m) z).testBit j) x2))) I' J) : am_To (am_XX L xs) (d + 3) 132 0 [some (.ref 95), some (.int (nI j)), some (.int x2), none, none] [] I J P := by
  have hw := hA.2.1.1
  have hv := trr_v (NT := nt sn S) (WT_v hA.2.2.1 hw) hS m (Nat.le_refl m)
  refine bk_132_0 _ _ I J (isword_m hM.2.1.1 hw (fun z => absurd rfl (z j hj)) (fun _ _ _ => ?_))
  refine bk_132_5 _ _ 1 I J (i_f (by decide) (grows_M hA hM hS (fun I1 f1 hM1 hG hT => bk_132_14 _ _ I1 J ?_)))
  have hq := h I1 f1 hM1
  have hpw : ∀ z, (tA (trr (WT sn S) (nt sn S) o m) z).testBit j = true → z < w := fun z hz => tr_wa hA hS hz
  generalize hs : trr (WT sn S) (nt sn S) o m = s at *
  have lp : ∀ (k i : Nat), i + k = w → (∀ z, z < i → (tA s z).testBit j = true → x2 ≠ nI (fb_ct (fun z => (tA s z).testBit j) z)) → am_To (am_XX L xs) (d + 3) 132 19 [some (.ref 95), some (.int (nI j)), some (.int x2), some (.int (nI (fb_ct (fun z => (tA s z).testBit j) i))), some (.int (nI i))] [] I1 J P := by
    intro k
    induction k with
    | zero =>
      intro i hi hno
      have e : i = w := by omega
      subst e
      refine bk_132_19 _ _ _ _ I1 J (i_t (by rw [hM1.2.1.1]; exact nI_le (Nat.le_refl _) (by omega)) ⟨fun c => ?_, fun c => ?_⟩)
      · unfold blA at hq
        rw [if_pos c, ct_w hw hpw] at hq
        exact hq
      · rw [blA_n c (fun z hz hp => hno z (hpw z hp) hp)] at hq
        exact hq
    | succ k ih =>
      intro i hi hno
      have hcs := fb_ct_succ (fun z => (tA s z).testBit j) i
      have hno' : ((tA s i).testBit j = true → x2 ≠ nI (fb_ct (fun z => (tA s z).testBit j) i)) → ∀ z, z < i + 1 → (tA s z).testBit j = true → x2 ≠ nI (fb_ct (fun z => (tA s z).testBit j) z) := fun q z hz hp => by
        by_cases e : z = i
        · rw [e] at hp ⊢
          exact q hp
        · exact hno z (by omega) hp
      have gf : (tA s i).testBit j = false → am_To (am_XX L xs) (d + 3) 132 19 [some (.ref 95), some (.int (nI j)), some (.int x2), some (.int (nI (fb_ct (fun z => (tA s z).testBit j) i))), some (.int (nI i + 1))] [] I1 J P := fun z => by
        rw [nI_1]
        have e := ih (i + 1) (by omega) (hno' (fun q => by rw [z] at q; cases q))
        rw [hcs, z] at e
        exact e
      refine bk_132_19 _ _ _ _ I1 J (i_le w i hM1.2.1.1 rfl (fun c => by omega) (fun _ => i_eq i j rfl rfl (fun c => gf (by rw [c]; exact hv.1.2.2.1 j)) (fun c => isover_m hv.1 hT.1 (by omega) (by omega) (fun z => ?_) (fun z => ?_))))
      · have z2 : (tA s i).testBit j = true := by
          rcases z with z | z
          · exact absurd z.symm c
          · exact z
        refine bk_132_41 _ _ _ _ 1 I1 J (i_f (by decide) ⟨fun c2 => ?_, fun c2 => ?_⟩)
        · rw [blA_z (p := fun z => (tA s z).testBit j) (z := i) (by omega) z2 c2.symm] at hq
          exact hq
        · rw [nI_1, nI_1]
          have e := ih (i + 1) (by omega) (hno' (fun _ q => c2 q.symm))
          rw [hcs, if_pos z2] at e
          exact e
      · refine bk_132_41 _ _ _ _ 0 I1 J (i_t rfl (gf ?_))
        rw [← Bool.not_eq_true]
        exact fun q => z (Or.inr q)
  exact lp w 0 (by omega) (fun z hz => absurd hz (Nat.not_lt_zero z))
theorem meet_m (hF : FV par ab) (hp : ∀ i, i < 24 → I 115 i = oI (par i)) (hx : x < 24) (hy : y < 24) (h : P (some (.int (oI (mtA ab x y)))) I J) : am_To (am_XX L xs) (d + 1) 134 0 [some (.ref 95), some (.int (nI x)), some (.int (nI y)), none] [] I J P := by
  have lp : ∀ k, k < 24 → (k = x ∨ (ab x).testBit k = true) → (∀ m, (m = x ∨ (ab x).testBit m = true) → (m = y ∨ (ab y).testBit m = true) → (m = k ∨ (ab k).testBit m = true)) → am_To (am_XX L xs) (d + 1) 134 2 [some (.ref 95), none, some (.int (nI y)), some (.int (nI k))] [] I J P := by
    refine fv_ind hF (fun k ih hk h1 h2 => ?_)
    refine bk_134_2 _ _ I J (i_f (nI_m1 (by omega)) (isover_m hF hp hk hy (fun z => ?_) (fun z => ?_)))
    · rw [mtA_is hF ⟨h1, z, h2⟩] at h
      exact bk_134_13 _ _ 1 I J (i_f (by decide) h)
    · refine bk_134_13 _ _ 0 I J (i_t rfl (x_i k rfl ?_))
      have hno : ∀ m, (m = x ∨ (ab x).testBit m = true) → (m = y ∨ (ab y).testBit m = true) → (ab k).testBit m = true := fun m q1 q2 => by
        rcases h2 m q1 q2 with e | e
        · subst e
          exact absurd q2 z
        · exact e
      rw [hp k hk]
      cases hq : par k with
      | none =>
        rw [mtA_no (fun m q1 q2 => by
          have := hno m q1 q2
          rw [hF.2.1 k hq, Nat.zero_testBit] at this
          cases this)] at h
        exact bk_134_2 _ _ I J (i_t rfl h)
      | some k' =>
        obtain ⟨r1, r2, r3⟩ := hF.1 k k' hq
        refine ih k' hq r2 (Or.inr ?_) (fun m q1 q2 => (r3 m).mp (hno m q1 q2))
        have hkk : (ab k).testBit k' = true := (r3 k').mpr (Or.inl rfl)
        rcases h1 with e | e
        · rw [← e]
          exact hkk
        · exact fv_trans hF hkk x e
  exact bk_134_0 _ _ I J (lp x hx (Or.inl rfl) (fun m q _ => q))
theorem meets_M (hA : AVv n b w v th sn S kp) (hM : MO n b w v th sn S kp I J) (hS : Srt (WT sn S) 576 m o) (hi : i < w) (hj : j < w) (h : ∀ I', FM I J I' J → MO n b w v th sn S kp I' J → P (some (.int (oI (mtA (tA (trr (WT sn S) (nt sn S) o m)) i j)))) I' J) : am_To (am_XX L xs) (d + 3) 133 0 [some (.ref 95), some (.int (nI i)), some (.int (nI j))] [] I J P := by
  have hw := hA.2.1.1
  have hv := trr_v (NT := nt sn S) (WT_v hA.2.2.1 hw) hS m (Nat.le_refl m)
  refine bk_133_0 _ _ I J (arewords_m hM.2.1.1 hw (fun z => absurd rfl (z i j hi hj rfl)) (fun _ _ _ _ _ _ => ?_))
  refine bk_133_6 _ _ 1 I J (i_f (by decide) (grows_M hA hM hS (fun I1 f1 hM1 hG hT => bk_133_15 _ _ I1 J ?_)))
  exact meet_m hv.1 hT.1 (by omega) (by omega) (bk_133_21 _ I1 J (h I1 f1 hM1))
theorem way_M (hA : AVv n b w v th sn S kp) (hM : MO n b w v th sn S kp I J) (hS : Srt (WT sn S) 576 m o) (hi : i < w) (hj : j < w) (h : ∀ I', FM I J I' J → MO n b w v th sn S kp I' J → P (some (.int (wyA (tA (trr (WT sn S) (nt sn S) o m)) i j))) I' J) : am_To (am_XX L xs) (d + 3) 135 0 [some (.ref 95), some (.int (nI i)), some (.int (nI j)), none, none, none] [] I J P := by
  have hw := hA.2.1.1
  have hv := trr_v (NT := nt sn S) (WT_v hA.2.2.1 hw) hS m (Nat.le_refl m)
  refine bk_135_0 _ _ I J (arewords_m hM.2.1.1 hw (fun z => absurd rfl (z i j hi hj rfl)) (fun _ _ _ _ _ _ => ?_))
  refine bk_135_6 _ _ 1 I J (i_f (by decide) (grows_M hA hM hS (fun I1 f1 hM1 hG hT => bk_135_15 _ _ I1 J ?_)))
  have hq := h I1 f1 hM1
  unfold wyA at hq
  generalize hs : trr (WT sn S) (nt sn S) o m = s at *
  refine meet_m hv.1 hT.1 (by omega) (by omega) ?_
  cases hm : mtA (tA s) i j with
  | none =>
    rw [hm] at hq
    exact bk_135_21 _ _ _ I1 J (i_t rfl hq)
  | some t =>
    rw [hm] at hq
    dsimp only at hq
    have hk : IsMeet (tA s) i j t := by
      unfold mtA at hm
      split at hm
      · rename_i hex
        cases hm
        exact Classical.choose_spec hex
      · cases hm
    have ht24 : t < 24 := by
      rcases hk.1 with e | e
      · omega
      · exact bit_24 (hv.1.2.2.2 i) e
    have d1 := dep_le hv.1 i hk.1
    have d2 := dep_le hv.1 j hk.2.1
    have hdi := dep_lt hv.1 (show i < 24 by omega)
    have hdj := dep_lt hv.1 (show j < 24 by omega)
    have l2 : ∀ k, ∀ c, k < 24 → (t = k ∨ (tA s k).testBit t = true) → c + dep (tA s) k = dep (tA s) i - dep (tA s) t + dep (tA s) j → am_To (am_XX L xs) (d + 3) 135 59 [some (.ref 95), none, none, some (.int (nI t)), some (.int (nI c)), some (.int (nI k))] [] I1 J P := by
      refine fv_ind hv.1 (fun k ih c hk2 hkt hc => ?_)
      refine bk_135_59 _ _ _ I1 J (i_eq k t rfl rfl (fun e => ?_) (fun e => x_i k rfl ?_))
      · subst e
        rw [show dep (tA s) i + dep (tA s) j - 2 * dep (tA s) k = c by omega] at hq
        exact hq
      · have hb : (tA s k).testBit t = true := by
          rcases hkt with q | q
          · exact absurd q.symm e
          · exact q
        rw [hT.1 k hk2, nI_1]
        cases hp : tP s k with
        | none =>
          rw [hv.1.2.1 k hp, Nat.zero_testBit] at hb
          cases hb
        | some k' =>
          obtain ⟨r1, r2, r3⟩ := hv.1.1 k k' hp
          have := dep_up hv.1 hp
          exact ih k' hp (c + 1) r2 ((r3 t).mp hb) (by omega)
    have l1 : ∀ k, ∀ c, k < 24 → (t = k ∨ (tA s k).testBit t = true) → c + dep (tA s) k = dep (tA s) i → am_To (am_XX L xs) (d + 3) 135 35 [some (.ref 95), none, some (.int (nI j)), some (.int (nI t)), some (.int (nI c)), some (.int (nI k))] [] I1 J P := by
      refine fv_ind hv.1 (fun k ih c hk2 hkt hc => ?_)
      refine bk_135_35 _ _ _ _ I1 J (i_eq k t rfl rfl (fun e => ?_) (fun e => x_i k rfl ?_))
      · subst e
        exact l2 j c (by omega) hk.2.1 (by omega)
      · have hb : (tA s k).testBit t = true := by
          rcases hkt with q | q
          · exact absurd q.symm e
          · exact q
        rw [hT.1 k hk2, nI_1]
        cases hp : tP s k with
        | none =>
          rw [hv.1.2.1 k hp, Nat.zero_testBit] at hb
          cases hb
        | some k' =>
          obtain ⟨r1, r2, r3⟩ := hv.1.1 k k' hp
          have := dep_up hv.1 hp
          exact ih k' hp (c + 1) r2 ((r3 t).mp hb) (by omega)
    exact bk_135_21 _ _ _ I1 J (i_f (nI_m1 (by omega)) (l1 i 0 (by omega) hk.1 (by omega)))
theorem oI_eq {q : Option Nat} {a : Nat} (h : ∀ z, q = some z → z < 2 ^ 31) (ha : a < 2 ^ 31) : oI q = nI a ↔ q = some a := by
  cases q with
  | none => exact ⟨fun e => absurd e.symm (nI_m1 ha), fun e => by cases e⟩
  | some z =>
    constructor
    · intro e
      rw [(nI_eq (h z rfl) ha).mp e]
    · intro e
      cases e
      rfl
theorem isnb_m (hF : FV par ab) (hp : ∀ i, i < 24 → I 115 i = oI (par i)) (hG : HAv (WT sn S) I) (hB : ∀ c, WT sn S c < 2 ^ 31) (hx : x < 24) (hy : y < 24) (h1 : nbr par (ALf sn S) x y → P (some (.int 1)) I J) (h0 : ¬ nbr par (ALf sn S) x y → P (some (.int 0)) I J) : am_To (am_XX L xs) d 137 0 [some (.ref 95), some (.int (nI x)), some (.int (nI y))] [] I J P := by
  have p31 : ∀ k z, par k = some z → z < 2 ^ 31 := fun k z q => by have := (hF.1 k z q).2.1; omega
  have hBc := hB (cl 2 x y)
  refine bk_137_0 _ _ I J (i_eq x y rfl rfl (fun c => h0 (fun q => q.1 c)) (fun c => x_i x rfl ?_))
  rw [hp x hx]
  refine i_c (oI_eq (p31 x) (by omega)) (fun q => h1 ⟨c, hx, hy, Or.inl q⟩) (fun q1 => x_i y rfl ?_)
  rw [hp y hy]
  refine i_c (oI_eq (p31 y) (by omega)) (fun q => h1 ⟨c, hx, hy, Or.inr (Or.inl q)⟩) (fun q2 => x_i (24 * x + y) ix24 ?_)
  have eA : ALf sn S x y = WT sn S (cl 2 x y) := if_pos ⟨c, hx, hy⟩
  refine i_le (WT sn S (cl 2 x y)) 0 (hG.2 x y hx hy c) rfl (fun q => h0 (fun z => ?_)) (fun q => h1 ⟨c, hx, hy, Or.inr (Or.inr (by rw [eA]; exact q))⟩)
  rcases z.2.2.2 with z | z | z
  · exact q1 z
  · exact q2 z
  · rw [eA] at z
    omega
/-- neighbours are words -/
theorem nb_w (hA : AVv n b w v th sn S kp) (hS : Srt (WT sn S) 576 m o) (h : nbr (tP (trr (WT sn S) (nt sn S) o m)) (ALf sn S) x y) : x < w ∧ y < w := by
  obtain ⟨h1, h2, h3, h4 | h4 | h4⟩ := h
  · have := tr_w hA hS h4
    exact this
  · have := tr_w hA hS h4
    exact ⟨this.2, this.1⟩
  · unfold ALf at h4
    rw [if_pos ⟨h1, h2, h3⟩] at h4
    have := WT_pos hA.2.2.1 hA.2.1.1 (by omega) h2 h3 h4
    exact this.2
theorem shared_M (hA : AVv n b w v th sn S kp) (hM : MO n b w v th sn S kp I J) (hS : Srt (WT sn S) 576 m o) (hi : i < w) (hj : j < w) (h : ∀ I', FM I J I' J → MO n b w v th sn S kp I' J → P (some (.int (nI (fb_ct (pB (fun z => nbr (tP (trr (WT sn S) (nt sn S) o m)) (ALf sn S) i z ∧ nbr (tP (trr (WT sn S) (nt sn S) o m)) (ALf sn S) j z)) 24)))) I' J) : am_To (am_XX L xs) (d + 3) 136 0 [some (.ref 95), some (.int (nI i)), some (.int (nI j)), none, none] [] I J P := by
  have hw := hA.2.1.1
  have hW := WT_v hA.2.2.1 hw
  have hW31 : ∀ c, WT sn S c < 2 ^ 31 := fun c => by have := hW.1 c; omega
  have hv := trr_v (NT := nt sn S) hW hS m (Nat.le_refl m)
  refine bk_136_0 _ _ I J (arewords_m hM.2.1.1 hw (fun z => absurd rfl (z i j hi hj rfl)) (fun _ _ _ _ _ _ => ?_))
  refine bk_136_6 _ _ 1 I J (i_f (by decide) (grows_M hA hM hS (fun I1 f1 hM1 hG hT => bk_136_15 _ _ I1 J ?_)))
  have hq := h I1 f1 hM1
  have hpw : ∀ z, pB (fun z => nbr (tP (trr (WT sn S) (nt sn S) o m)) (ALf sn S) i z ∧ nbr (tP (trr (WT sn S) (nt sn S) o m)) (ALf sn S) j z) z = true → z < w := fun z hz => (nb_w hA hS (pB_t.mp hz).1).2
  rw [ct_w hw hpw] at hq
  clear hpw
  generalize hs : trr (WT sn S) (nt sn S) o m = s at *
  generalize hR : (fun z => nbr (tP s) (ALf sn S) i z ∧ nbr (tP s) (ALf sn S) j z) = R at *
  have hRz : ∀ z, R z ↔ nbr (tP s) (ALf sn S) i z ∧ nbr (tP s) (ALf sn S) j z := fun z => by rw [← hR]
  have lp : ∀ (k z : Nat), z + k = w → am_To (am_XX L xs) (d + 3) 136 20 [some (.ref 95), some (.int (nI i)), some (.int (nI j)), some (.int (nI (fb_ct (pB R) z))), some (.int (nI z))] [] I1 J P := by
    intro k
    induction k with
    | zero =>
      intro z hz
      have e : z = w := by omega
      subst e
      exact bk_136_20 _ _ _ _ I1 J (i_t (by rw [hM1.2.1.1]; exact nI_le (Nat.le_refl _) (by omega)) hq)
    | succ k ih =>
      intro z hz
      have e := ih (z + 1) (by omega)
      rw [fb_ct_succ] at e
      have g0 : ¬ R z → am_To (am_XX L xs) (d + 3) 136 54 [some (.ref 95), some (.int (nI i)), some (.int (nI j)), none, some (.int (nI z))] [.int (nI (fb_ct (pB R) z))] I1 J P := fun q => by
        rw [pB_f.mpr q] at e
        refine bk_136_54 _ _ _ _ I1 J (bk_136_55 _ _ _ _ _ I1 J (one_m (bk_136_58 _ _ _ _ _ I1 J ?_)))
        rw [nI_1, if_pos rfl, Int32.add_zero]
        exact e
      refine bk_136_20 _ _ _ _ I1 J (i_le w z hM1.2.1.1 rfl (fun c => by omega) (fun _ => isnb_m hv.1 hT.1 hG hW31 (by omega) (by omega) (fun q1 => ?_) (fun q1 => ?_)))
      · refine bk_136_37 _ _ _ _ 1 I1 J (i_f (by decide) (isnb_m hv.1 hT.1 hG hW31 (by omega) (by omega) (fun q2 => ?_) (fun q2 => ?_)))
        · have q3 : pB R z = true := pB_t.mpr ((hRz z).mpr ⟨q1, q2⟩)
          rw [if_pos q3] at e
          refine bk_136_47 _ _ _ _ 1 I1 J (i_f (by decide) (bk_136_55 _ _ _ _ _ I1 J (one_m (bk_136_58 _ _ _ _ _ I1 J ?_))))
          rw [if_neg (by decide), nI_1, nI_1]
          exact e
        · exact bk_136_47 _ _ _ _ 0 I1 J (i_t rfl (g0 (fun q => q2 ((hRz z).mp q).2)))
      · exact bk_136_37 _ _ _ _ 0 I1 J (i_t rfl (g0 (fun q => q1 ((hRz z).mp q).1)))
  exact lp w 0 (by omega)
theorem sum_M (hA : AVv n b w v th sn S kp) (hM : MO n b w v th sn S kp I J) (hS : Srt (WT sn S) 576 m o) (h : ∀ I', FM I J I' J → MO n b w v th sn S kp I' J → P (some (.int (nI (tQ (trr (WT sn S) (nt sn S) o m))))) I' J) : am_To (am_XX L xs) (d + 3) 140 0 [some (.ref 95)] [] I J P := by
  refine bk_140_0 I J (grows_M hA hM hS (fun I1 f1 hM1 hG hT => bk_140_4 I1 J ?_))
  rw [hT.2.2.2]
  exact h I1 f1 hM1
theorem keep_M (hA : AVv n b w v th sn S kp) (hM : MO n b w v th sn S kp I J) (hS : Srt (WT sn S) 576 m o) (h : ∀ I', FM I J I' J → MO n b w v th sn S (some (tP (trr (WT sn S) (nt sn S) o m))) I' J → P (some (.int (nI (tK (trr (WT sn S) (nt sn S) o m))))) I' J) : am_To (am_XX L xs) (d + 3) 144 0 [some (.ref 95), none] [] I J P := by
  have hw := hA.2.1.1
  have hv := trr_v (NT := nt sn S) (WT_v hA.2.2.1 hw) hS m (Nat.le_refl m)
  refine bk_144_0 I J (grows_M hA hM hS (fun I1 f1 hM1 hG hT => bk_144_4 I1 J ?_))
  rw [am_up_k (by decide), hT.2.2.1]
  generalize hs : trr (WT sn S) (nt sn S) o m = s at *
  obtain ⟨c1, c2, c3, c4⟩ := hM1
  have lp : ∀ (k i : Nat) (I2 : am_I), i + k = 24 → (∀ g, g ≠ 95 → g ≠ 121 → I2 g = I1 g) → (∀ k, k ≠ 32 → k ≠ 33 → I2 95 k = I1 95 k) → I2 95 33 = 1 → I2 95 32 = nI (tK s) → (∀ y, y < i → I2 121 y = oI (tP s y)) → am_To (am_XX L xs) (d + 3) 144 19 [some (.ref 95), some (.int (nI i))] [] I2 J P := by
    intro k
    induction k with
    | zero =>
      intro i I2 hi g1 g2 g3 g4 g5
      have e : i = 24 := by omega
      subst e
      refine bk_144_19 _ I2 J (i_t (by decide) ?_)
      rw [g2 26 (by decide) (by decide), hT.2.2.1]
      refine h I2 (fun g hg => ⟨(g1 g (by omega) (by omega)).trans (f1 g hg).1, rfl⟩) ⟨?_, ?_, EVm_fr c3 (g2 3 (by decide) (by decide)) (fun g a1 a2 => g1 g (by omega) (by omega)), g3, ?_, g5⟩
      · unfold TPm at *
        rw [g2 1 (by decide) (by decide), g1 96 (by decide) (by decide)]
        exact c1
      · unfold WCm at *
        rw [g2 2 (by decide) (by decide)]
        exact c2
      · rw [g4, hv.2.2.1]
    | succ k ih =>
      intro i I2 hi g1 g2 g3 g4 g5
      refine bk_144_19 _ I2 J (i_le 24 i rfl rfl (fun c => by omega) (fun _ => x_i i rfl (x_i i rfl ?_)))
      rw [nI_1]
      refine ih (i + 1) _ (by omega) (fun g a1 a2 => by rw [am_up_row a2]; exact g1 g a1 a2) (fun k a1 a2 => by rw [am_up_h (by decide)]; exact g2 k a1 a2) (by rw [am_up_h (by decide)]; exact g3) (by rw [am_up_h (by decide)]; exact g4) (fun y hy => ?_)
      by_cases e : y = i
      · rw [e, am_up_s, g1 115 (by decide) (by decide)]
        exact hT.1 i (by omega)
      · rw [am_up_k e]
        exact g5 y (by omega)
  exact lp 24 0 _ (by omega) (fun g a1 _ => by rw [am_up_row a1, am_up_row a1]) (fun k a1 a2 => by rw [am_up_k a1, am_up_k a2]) (by rw [am_up_k (by decide), am_up_s]) am_up_s (fun y hy => absurd hy (Nat.not_lt_zero y))
end
