/-! QUERIES OF THE CLASS -/
section
variable {L : Nat} {xs : Nat → Int32} {d : Nat} {P : Option Value → am_I → am_J → Prop} {n w : Nat} {b v : Nat → Nat} {th : Nat → Bool} {sn : Nat → Nat} {S : Nat → Nat → Nat → Nat} {kp : KP} {I : am_I} {J : am_J} {x1 x2 : Int32} {x y u : Nat} {par : Nat → Option Nat} {ab : Nat → Nat}
theorem parent_C (hA : AVv n b w v th sn S kp) (hC : CL n b w v th sn S kp I J) (h0 : (∀ j, j < w → x1 ≠ nI j) → P (some (.int (-1))) I J) (h1 : ∀ j I' m o, j < w → x1 = nI j → Srt (WT sn S) 576 m o → FC I J I' J → CL n b w v th sn S kp I' J → P (some (.int (oI (tP (trr (WT sn S) (nt sn S) o m) j)))) I' J) : am_To (am_XX L xs) (d + 6) 53 0 [some (.ref 0), some (.int x1)] [] I J P := by
  have hw := hA.2.1.1
  refine bk_53_0 _ I J (has_c hC.2.1.1 hw (fun z => ?_) (fun j hj ej => ?_))
  · exact bk_53_8 _ 0 I J (i_t rfl (h0 z))
  · subst ej
    refine bk_53_8 _ 1 I J (i_f (by decide) (cur_C hA hC (fun I1 m o hS hv hT h5 hR hf hC1 _ => bk_53_15 _ I1 J (x_i j rfl ?_))))
    rw [hT.1 j (by omega)]
    exact h1 j I1 m o hj rfl hS hf hC1
theorem why_C (hA : AVv n b w v th sn S kp) (hC : CL n b w v th sn S kp I J) (h0 : (∀ i j, i < w → j < w → i ≠ j → x1 = nI i → x2 ≠ nI j) → P (some (.int (-1))) I J) (h1 : ∀ i j I' m o, i < w → j < w → i ≠ j → x1 = nI i → x2 = nI j → Srt (WT sn S) 576 m o → FC I J I' J → CL n b w v th sn S kp I' J → P (some (.int (nI (tB (trr (WT sn S) (nt sn S) o m) (24 * i + j))))) I' J) : am_To (am_XX L xs) (d + 6) 67 0 [some (.ref 0), some (.int x1), some (.int x2)] [] I J P := by
  have hw := hA.2.1.1
  refine bk_67_0 _ _ I J (areunlike_c hC.2.1.1 hw (fun z => ?_) (fun i j hi hj hij ei ej => ?_))
  · exact bk_67_9 _ _ 0 I J (i_t rfl (h0 z))
  · subst ei
    subst ej
    refine bk_67_9 _ _ 1 I J (i_f (by decide) (cur_C hA hC (fun I1 m o hS hv hT h5 hR hf hC1 _ => bk_67_16 _ _ I1 J (cellof_c (k := 0) rfl rfl rfl (by omega) (by omega) (by omega) (bk_67_25 _ I1 J (x_i (24 * i + j) ?_ ?_))))))
    · congr 1
      unfold cl
      rw [if_neg (by omega)]
      omega
    · rw [hT.2.2.1 _ (by omega)]
      exact h1 i j I1 m o hi hj hij rfl rfl hS hf hC1
theorem above_C (hA : AVv n b w v th sn S kp) (hC : CL n b w v th sn S kp I J) (h0 : (∀ i j, i < w → j < w → x1 = nI i → x2 ≠ nI j) → P (some (.int (-1))) I J) (h1 : ∀ i j I' m o, i < w → j < w → x1 = nI i → x2 = nI j → Srt (WT sn S) 576 m o → FC I J I' J → CL n b w v th sn S kp I' J → P (some (.int (bI ((tA (trr (WT sn S) (nt sn S) o m) j).testBit i)))) I' J) : am_To (am_XX L xs) (d + 6) 68 0 [some (.ref 0), some (.int x1), some (.int x2)] [] I J P := by
  have hw := hA.2.1.1
  refine bk_68_0 _ _ I J (has_c hC.2.1.1 hw (fun z => ?_) (fun i hi ei => ?_))
  · exact bk_68_8 _ _ 0 I J (i_t rfl (h0 (fun i j hi _ e => absurd e (z i hi))))
  · subst ei
    refine bk_68_8 _ _ 1 I J (i_f (by decide) (has_c hC.2.1.1 hw (fun z => ?_) (fun j hj ej => ?_)))
    · exact bk_68_19 _ _ 0 I J (i_t rfl (h0 (fun i j _ hj _ => z j hj)))
    · subst ej
      refine bk_68_19 _ _ 1 I J (i_f (by decide) (cur_C hA hC (fun I1 m o hS hv hT h5 hR hf hC1 _ => ?_)))
      have hq := h1 i j I1 m o hi hj rfl rfl hS hf hC1
      have h24 := hv.1.2.2.2 j
      refine bk_68_28 _ _ I1 J (x_i j rfl (hasbit_c (hT.2.1 j (by omega)) rfl (by omega) (by omega) (fun z => ?_) (fun z => ?_)))
      · rw [z] at hq
        exact bk_68_40 0 I1 J (i_t rfl hq)
      · rw [z] at hq
        exact bk_68_40 1 I1 J (i_f (by decide) hq)
theorem bitnumber_c {p : Nat → Bool} (hu : u < 2 ^ 24) (hp : ∀ z, z < 24 → u.testBit z = p z) (ha : x2 ≠ -1) (h : P (some (.int (blA p x2))) I J) : am_To (am_XX L xs) (d + 1) 72 0 [some (.int (nI u)), some (.int x2), none, none] [] I J P := by
  have lp : ∀ (m i : Nat) (a : Int32), i + m = 24 → a + nI (fb_ct p i) = x2 → (∀ z, z < i → p z = true → x2 ≠ nI (fb_ct p z)) → am_To (am_XX L xs) (d + 1) 72 4 [some (.int (nI u)), none, some (.int a), some (.int (nI i))] [] I J P := by
    intro m
    induction m with
    | zero =>
      intro i a hi he hno
      have e : i = 24 := by omega
      subst e
      rw [blA_n ha hno] at h
      exact bk_72_4 _ _ _ I J (i_t (by decide) h)
    | succ m ih =>
      intro i a hi he hno
      have hcs := fb_ct_succ p i
      refine bk_72_4 _ _ _ I J (i_le 24 i rfl rfl (fun c => by omega) (fun _ => hasbit_c rfl rfl (by omega) (by omega) (fun z => ?_) (fun z => ?_)))
      · rw [hp i (by omega)] at z
        rw [z] at hcs
        refine bk_72_15 _ _ _ 0 I J (i_t rfl ?_)
        rw [nI_1]
        refine ih (i + 1) a (by omega) (by rw [hcs]; exact he) (fun k hk hpk => ?_)
        by_cases e : k = i
        · rw [e, z] at hpk
          cases hpk
        · exact hno k (by omega) hpk
      · rw [hp i (by omega)] at z
        rw [z, if_pos rfl] at hcs
        refine bk_72_15 _ _ _ 1 I J (i_f (by decide) ⟨fun c => ?_, fun c => ?_⟩)
        · rw [c, Int32.zero_add] at he
          rw [blA_z (by omega) z he.symm] at h
          exact h
        · rw [nI_1]
          have hc := fb_ct_le p i
          refine ih (i + 1) (a + (-1)) (by omega) ?_ (fun k hk hpk => ?_)
          · rw [hcs, Int32.add_assoc, Int32.add_comm (-1), pk_m1]
            exact he
          · by_cases e : k = i
            · rw [e]
              intro q
              refine c ?_
              rw [q] at he
              have := congrArg (fun t => t - nI (fb_ct p i)) he
              simp only [Int32.add_sub_cancel, Int32.sub_self] at this
              exact this
            · exact hno k (by omega) hpk
  refine bk_72_0 _ _ I J (lp 24 0 x2 (by omega) ?_ (fun z hz => absurd hz (Nat.not_lt_zero z)))
  show x2 + nI 0 = x2
  rw [nI_0, Int32.add_zero]
theorem below_C (hA : AVv n b w v th sn S kp) (hC : CL n b w v th sn S kp I J) (h0 : (∀ j, j < w → x1 ≠ nI j) → P (some (.int (-1))) I J) (h1 : ∀ j I' m o, j < w → x1 = nI j → Srt (WT sn S) 576 m o → FC I J I' J → CL n b w v th sn S kp I' J → P (some (.int (blA (fun z => (tA (trr (WT sn S) (nt sn S) o m) z).testBit j) x2))) I' J) : am_To (am_XX L xs) (d + 6) 69 0 [some (.ref 0), some (.int x1), some (.int x2), none] [] I J P := by
  have hw := hA.2.1.1
  refine bk_69_0 _ _ I J (has_c hC.2.1.1 hw (fun z => ?_) (fun j hj ej => ?_))
  · exact bk_69_8 _ _ 0 I J (i_t rfl (h0 z))
  · subst ej
    refine bk_69_8 _ _ 1 I J (i_f (by decide) (cur_C hA hC (fun I1 m o hS hv hT h5 hR hf hC1 _ => ?_)))
    have hq := h1 j I1 m o hj rfl hS hf hC1
    refine bk_69_17 _ _ I1 J (lower_c (t := 7) (by decide) hT.2.1 hv.1.2.2.2 (by omega) (fun u hu hz => ?_))
    have hp : ∀ z, z < 24 → u.testBit z = (tA (trr (WT sn S) (nt sn S) o m) z).testBit j := fun z hz24 => by
      rw [Bool.eq_iff_iff, hz z]
      exact ⟨fun q => q.2, fun q => ⟨hz24, q⟩⟩
    refine bk_69_24 _ _ I1 J ⟨fun c => bitcount_c hu (bk_69_34 _ I1 J ?_), fun c => bitnumber_c hu hp c (bk_69_42 _ I1 J hq)⟩
    unfold blA at hq
    rw [if_pos c] at hq
    rw [fb_ct_cong hp]
    exact hq
theorem meeting_c (hF : FV par ab) (hp : ∀ i, i < 24 → I 69 i = oI (par i)) (ha : ∀ i, i < 24 → I 68 i = nI (ab i)) (hx : x < 24) (hy : y < 24) (h : P (some (.int (oI (mtA ab x y)))) I J) : am_To (am_XX L xs) (d + 1) 74 0 [some (.ref 66), some (.int (nI x)), some (.int (nI y)), none, none] [] I J P := by
  have hay := hF.2.2.2 y
  have lp : ∀ k, ∀ i, k < 24 → i + dep ab k = dep ab x → (k = x ∨ (ab x).testBit k = true) → (∀ m, (m = x ∨ (ab x).testBit m = true) → (m = y ∨ (ab y).testBit m = true) → (m = k ∨ (ab k).testBit m = true)) → am_To (am_XX L xs) (d + 1) 74 5 [some (.ref 66), none, some (.int (nI y)), some (.int (nI k)), some (.int (nI i))] [] I J P := by
    refine fv_ind hF (fun k ih i hk hi h1 h2 => ?_)
    have hdx := dep_lt hF hx
    have yes : (k = y ∨ (ab y).testBit k = true) → P (some (.int (nI k))) I J := fun q => by
      rw [mtA_is hF ⟨h1, q, h2⟩] at h
      exact h
    refine bk_74_5 _ _ _ I J (i_le 24 i rfl rfl (fun c => by omega) (fun _ => i_f (nI_m1 (by omega)) (i_eq k y rfl rfl (fun c => yes (Or.inl c)) (fun c => x_i y rfl (hasbit_c (ha y hy) rfl (by omega) (by omega) (fun z => ?_) (fun z => bk_74_35 _ _ _ 1 I J (i_f (by decide) (yes (Or.inr z)))))))))
    refine bk_74_35 _ _ _ 0 I J (i_t rfl (x_i k rfl ?_))
    have hno : ∀ m, (m = x ∨ (ab x).testBit m = true) → (m = y ∨ (ab y).testBit m = true) → (ab k).testBit m = true := fun m q1 q2 => by
      rcases h2 m q1 q2 with e | e
      · subst e
        rcases q2 with q2 | q2
        · exact absurd q2 c
        · rw [z] at q2
          cases q2
      · exact e
    rw [hp k hk, nI_1]
    cases hq : par k with
    | none =>
      rw [mtA_no (fun m q1 q2 => by
        have := hno m q1 q2
        rw [hF.2.1 k hq, Nat.zero_testBit] at this
        cases this)] at h
      exact bk_74_5 _ _ _ I J ⟨fun _ => h, fun _ => i_t rfl h⟩
    | some k' =>
      obtain ⟨r1, r2, r3⟩ := hF.1 k k' hq
      have hd := dep_up hF hq
      refine ih k' hq (i + 1) r2 (by omega) (Or.inr ?_) (fun m q1 q2 => (r3 m).mp (hno m q1 q2))
      have hkk : (ab k).testBit k' = true := (r3 k').mpr (Or.inl rfl)
      rcases h1 with e | e
      · rw [← e]
        exact hkk
      · exact fv_trans hF hkk x e
  exact bk_74_0 _ _ I J (lp x 0 hx (by omega) (Or.inl rfl) (fun m q _ => q))
theorem meets_C (hA : AVv n b w v th sn S kp) (hC : CL n b w v th sn S kp I J) (h0 : (∀ i j, i < w → j < w → x1 = nI i → x2 ≠ nI j) → P (some (.int (-1))) I J) (h1 : ∀ i j I' m o, i < w → j < w → x1 = nI i → x2 = nI j → Srt (WT sn S) 576 m o → FC I J I' J → CL n b w v th sn S kp I' J → P (some (.int (oI (mtA (tA (trr (WT sn S) (nt sn S) o m)) i j)))) I' J) : am_To (am_XX L xs) (d + 6) 73 0 [some (.ref 0), some (.int x1), some (.int x2)] [] I J P := by
  have hw := hA.2.1.1
  refine bk_73_0 _ _ I J (has_c hC.2.1.1 hw (fun z => ?_) (fun i hi ei => ?_))
  · exact bk_73_8 _ _ 0 I J (i_t rfl (h0 (fun i j hi _ e => absurd e (z i hi))))
  · subst ei
    refine bk_73_8 _ _ 1 I J (i_f (by decide) (has_c hC.2.1.1 hw (fun z => ?_) (fun j hj ej => ?_)))
    · exact bk_73_19 _ _ 0 I J (i_t rfl (h0 (fun i j _ hj _ => z j hj)))
    · subst ej
      refine bk_73_19 _ _ 1 I J (i_f (by decide) (cur_C hA hC (fun I1 m o hS hv hT h5 hR hf hC1 _ => ?_)))
      exact bk_73_26 _ _ I1 J (meeting_c hv.1 hT.1 hT.2.1 (by omega) (by omega) (bk_73_31 _ I1 J (h1 i j I1 m o hi hj rfl rfl hS hf hC1)))
theorem depthof_c (hF : FV par ab) (ha : ∀ i, i < 24 → I 68 i = nI (ab i)) (hx : x < 24) (h : P (some (.int (nI (dep ab x)))) I J) : am_To (am_XX L xs) (d + 1) 77 0 [some (.ref 66), some (.int (nI x))] [] I J P := by
  refine bk_77_0 _ I J (x_i x rfl ?_)
  rw [ha x hx]
  exact bitcount_c (hF.2.2.2 x) (bk_77_12 _ I J h)
theorem way_C (hA : AVv n b w v th sn S kp) (hC : CL n b w v th sn S kp I J) (h0 : (∀ i j, i < w → j < w → x1 = nI i → x2 ≠ nI j) → P (some (.int (-1))) I J) (h1 : ∀ i j I' m o, i < w → j < w → x1 = nI i → x2 = nI j → Srt (WT sn S) 576 m o → FC I J I' J → CL n b w v th sn S kp I' J → P (some (.int (wyA (tA (trr (WT sn S) (nt sn S) o m)) i j))) I' J) : am_To (am_XX L xs) (d + 6) 75 0 [some (.ref 0), some (.int x1), some (.int x2)] [] I J P := by
  have hw := hA.2.1.1
  refine bk_75_0 _ _ I J (has_c hC.2.1.1 hw (fun z => ?_) (fun i hi ei => ?_))
  · exact bk_75_8 _ _ 0 I J (i_t rfl (h0 (fun i j hi _ e => absurd e (z i hi))))
  · subst ei
    refine bk_75_8 _ _ 1 I J (i_f (by decide) (has_c hC.2.1.1 hw (fun z => ?_) (fun j hj ej => ?_)))
    · exact bk_75_19 _ _ 0 I J (i_t rfl (h0 (fun i j _ hj _ => z j hj)))
    · subst ej
      refine bk_75_19 _ _ 1 I J (i_f (by decide) (cur_C hA hC (fun I1 m o hS hv hT h5 hR hf hC1 _ => ?_)))
      have hq := h1 i j I1 m o hi hj rfl rfl hS hf hC1
      unfold wyA at hq
      refine bk_75_26 _ _ I1 J (bk_76_0 _ _ I1 J (meeting_c hv.1 hT.1 hT.2.1 (by omega) (by omega) ?_))
      cases hm : mtA (tA (trr (WT sn S) (nt sn S) o m)) i j with
      | none =>
        rw [hm] at hq
        exact bk_76_6 _ _ _ I1 J (i_t rfl (bk_75_31 _ I1 J hq))
      | some k =>
        rw [hm] at hq
        dsimp only at hq
        have hk : IsMeet (tA (trr (WT sn S) (nt sn S) o m)) i j k := by
          unfold mtA at hm
          split at hm
          · rename_i hex
            cases hm
            exact Classical.choose_spec hex
          · cases hm
        have hk24 : k < 24 := by
          rcases hk.1 with e | e
          · omega
          · exact bit_24 (hv.1.2.2.2 i) e
        have d1 := dep_le hv.1 i hk.1
        have d2 := dep_le hv.1 j hk.2.1
        refine bk_76_6 _ _ _ I1 J (i_f (nI_m1 (by omega)) (depthof_c hv.1 hT.2.1 (by omega) (bk_76_21 _ _ _ I1 J (depthof_c hv.1 hT.2.1 (by omega) (bk_76_26 _ _ _ I1 J (depthof_c hv.1 hT.2.1 hk24 (bk_76_33 _ _ _ I1 J (bk_75_31 _ I1 J ?_))))))))
        rw [nI_add, show (2 : Int32) * nI (dep (tA (trr (WT sn S) (nt sn S) o m)) k) = nI (2 * dep (tA (trr (WT sn S) (nt sn S) o m)) k) from pk_mul 2 _, pk_sub (by omega)]
        exact hq
theorem shared_C (hA : AVv n b w v th sn S kp) (hC : CL n b w v th sn S kp I J) (h0 : (∀ i j, i < w → j < w → x1 = nI i → x2 ≠ nI j) → P (some (.int (-1))) I J) (h1 : ∀ i j I' m o, i < w → j < w → x1 = nI i → x2 = nI j → Srt (WT sn S) 576 m o → FC I J I' J → CL n b w v th sn S kp I' J → P (some (.int (nI (fb_ct (pB (fun z => nbr (tP (trr (WT sn S) (nt sn S) o m)) (ALf sn S) i z ∧ nbr (tP (trr (WT sn S) (nt sn S) o m)) (ALf sn S) j z)) 24)))) I' J) : am_To (am_XX L xs) (d + 6) 78 0 [some (.ref 0), some (.int x1), some (.int x2), none] [] I J P := by
  have hw := hA.2.1.1
  refine bk_78_0 _ _ I J (has_c hC.2.1.1 hw (fun z => ?_) (fun i hi ei => ?_))
  · exact bk_78_8 _ _ 0 I J (i_t rfl (h0 (fun i j hi _ e => absurd e (z i hi))))
  · subst ei
    refine bk_78_8 _ _ 1 I J (i_f (by decide) (has_c hC.2.1.1 hw (fun z => ?_) (fun j hj ej => ?_)))
    · exact bk_78_19 _ _ 0 I J (i_t rfl (h0 (fun i j _ hj _ => z j hj)))
    · subst ej
      refine bk_78_19 _ _ 1 I J (i_f (by decide) (cur_C hA hC (fun I1 m o hS hv hT h5 hR hf hC1 _ => ?_)))
      have hq := h1 i j I1 m o hi hj rfl rfl hS hf hC1
      obtain ⟨p, p1, p2, p3⟩ := hR i (by omega)
      obtain ⟨q, q1, q2, q3⟩ := hR j (by omega)
      refine bk_78_28 _ _ I1 J (x_i i rfl (x_i j rfl ?_))
      rw [p2, q2, fa_and]
      refine bitcount_c (Nat.lt_of_le_of_lt Nat.and_le_left p1) (bk_78_42 _ I1 J ?_)
      rw [fb_ct_cong (q := pB (fun z => nbr (tP (trr (WT sn S) (nt sn S) o m)) (ALf sn S) i z ∧ nbr (tP (trr (WT sn S) (nt sn S) o m)) (ALf sn S) j z)) (fun k _ => by
        rw [Bool.eq_iff_iff, pB_t, Nat.testBit_and, Bool.and_eq_true, p3 k, q3 k])]
      exact hq
theorem sum_C (hA : AVv n b w v th sn S kp) (hC : CL n b w v th sn S kp I J) (h1 : ∀ I' m o, Srt (WT sn S) 576 m o → FC I J I' J → CL n b w v th sn S kp I' J → P (some (.int (nI (tQ (trr (WT sn S) (nt sn S) o m))))) I' J) : am_To (am_XX L xs) (d + 6) 82 0 [some (.ref 0)] [] I J P := by
  refine bk_82_0 I J (cur_C hA hC (fun I1 m o hS hv hT h5 hR hf hC1 _ => bk_82_4 I1 J ?_))
  rw [hT.2.2.2.2]
  exact h1 I1 m o hS hf hC1
theorem keep_C (hA : AVv n b w v th sn S kp) (hC : CL n b w v th sn S kp I J) (h1 : ∀ I' m o, Srt (WT sn S) 576 m o → FC I J I' J → CL n b w v th sn S (some (tP (trr (WT sn S) (nt sn S) o m))) I' J → P (some (.int (nI (tK (trr (WT sn S) (nt sn S) o m))))) I' J) : am_To (am_XX L xs) (d + 6) 91 0 [some (.ref 0)] [] I J P := by
  refine bk_91_0 I J (cur_C hA hC (fun I1 m o hS hv hT h5 hR hf hC1 h07 => bk_91_8 I1 J (bk_92_0 I1 J ?_)))
  have lp : ∀ (k i : Nat) (I2 : am_I), i + k = 24 → (∀ g, g ≠ 74 → I2 g = I1 g) → (∀ y, y < i → I2 74 y = oI (tP (trr (WT sn S) (nt sn S) o m) y)) → am_To (am_XX L xs) (d + 5) 92 2 [some (.ref 73), some (.ref 66), some (.int (nI i))] [] I2 J (fun r I2 J2 => am_To (am_XX L xs) (d + 6) 91 11 [some (.ref 0)] (r.toList ++ []) I2 J2 P) := by
    intro k
    induction k with
    | zero =>
      intro i I2 hi f2 hp
      have e : i = 24 := by omega
      subst e
      refine bk_92_2 _ I2 J (i_t (by decide) (bk_91_11 _ J (bk_54_0 _ J (i_t ?_ (bk_91_15 _ J ?_)))))
      · rw [am_up_h (by decide), f2 0 (by decide)]
        exact h07
      · rw [am_up_h (by decide), f2 66 (by decide), hT.2.2.2.1]
        obtain ⟨c1, c2, c3, c4, c5, c6, c7⟩ := hC1
        have f3 : ∀ g, g ≠ 73 → g ≠ 74 → am_up I2 73 1 1 g = I1 g := fun g e1 e2 => by
          rw [am_up_row e1]
          exact f2 g e2
        refine h1 _ m o hS (fun g hg => ⟨(f3 g (by omega) (by omega)).trans (hf g hg).1, rfl⟩) ⟨?_, ?_, EVc_fr c3 (fun g a1 a2 => f3 g (by omega) (by omega)), ?_, BNc_fr c5 (f3 65 (by decide) (by decide)), ?_, am_up_s, fun y hy => ?_⟩
        · unfold TPc at *
          rw [f3 1 (by decide) (by decide), f3 2 (by decide) (by decide)]
          exact c1
        · unfold WCc at *
          rw [f3 3 (by decide) (by decide)]
          exact c2
        · rw [f3 64 (by decide) (by decide)]
          exact c4
        · rw [f3 0 (by decide) (by decide)]
          exact fun q => TFc_fr (c6 q) (fun g a1 a2 => f3 g (by omega) (by omega))
        · rw [am_up_h (by decide)]
          exact hp y hy
    | succ k ih =>
      intro i I2 hi f2 hp
      refine bk_92_2 _ I2 J (i_le 24 i rfl rfl (fun c => by omega) (fun _ => x_i i rfl (x_i i rfl ?_)))
      rw [nI_1]
      refine ih (i + 1) _ (by omega) (fun g hg => by rw [am_up_row hg]; exact f2 g hg) (fun y hy => ?_)
      by_cases e : y = i
      · rw [e, am_up_s, f2 69 (by decide)]
        exact hT.1 i (by omega)
      · rw [am_up_k e]
        exact hp y (by omega)
  exact lp 24 0 I1 (by omega) (fun _ _ => rfl) (fun y hy => absurd hy (Nat.not_lt_zero y))
end
