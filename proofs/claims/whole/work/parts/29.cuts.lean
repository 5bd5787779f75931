/-! TOKENS of the reference: cuts -/
theorem vn1 : vp_nar .boolean (1 : Int32) = 1 := vnb true
theorem vn0 : vp_nar .boolean (0 : Int32) = 0 := vnb false
def CR (s : SC) (I : am_I) (J : am_J) : Prop := ∀ t, t < sT s → J 111 t = lN (sP s t) ∧ I 110 t = nI (sL s t) ∧ I 112 t = bI (if t + 1 < sT s then sF s (t + 1) else !sR s)
def CutM (s : SC) (I : am_I) (J : am_J) : Prop := I 95 20 = nI (sT s) ∧ ∀ t, t < sT s → J 111 t = lN (sP s t) ∧ I 110 t = nI (sL s t) ∧ I 112 t = bI (if t + 1 < sT s then sF s (t + 1) else false)
def FrC (I0 : am_I) (J0 : am_J) (I : am_I) (J : am_J) : Prop := (∀ g, g ≠ 95 → g ≠ 110 → g ≠ 112 → I g = I0 g) ∧ (∀ i, i ≠ 20 → I 95 i = I0 95 i) ∧ (∀ g, g ≠ 111 → J g = J0 g)
section
variable {L : Nat} {xs : Nat → Int32} {d : Nat} {P : Option Value → am_I → am_J → Prop} {n k j : Nat} {b : Nat → Nat}
theorem cuts_lp (hv : TPv n b) (hj : j ≤ n) (I0 : am_I) (J0 : am_J) (hT : ∀ i, i < n → I0 96 i = sx (b i)) (h : ∀ I' J', FrC I0 J0 I' J' → CutM (sc b j) I' J' → P none I' J') : ∀ (m : Nat), (∀ (k : Nat) (I : am_I) (J : am_J), k + m = j → FrC I0 J0 I J → I 95 20 = nI (sT (sc b k)) → CR (sc b k) I J → (sI (sc b k) = false ∨ ¬ (k < j ∧ lt1 (b k))) → am_To (am_XX L xs) (d + 1) 103 7 [some (.ref 95), some (.int (nI j)), some (.int (nI k))] [] I J P) ∧ (∀ (k : Nat) (I : am_I) (J : am_J), k + m = j → FrC I0 J0 I J → I 95 20 = nI (sT (sc b k) - 1) → CR (sc b k) I J → sI (sc b k) = true → am_To (am_XX L xs) (d + 1) 103 98 [some (.ref 95), some (.int (nI j)), some (.int (nI k))] [] I J P) := by
  have hn := hv.1
  -- the end of a token: as many more as are told
  have fin : ∀ (k : Nat) (I : am_I) (J : am_J), FrC I0 J0 I J → I 95 20 = nI (sT (sc b k) - 1) → CR (sc b k) I J → sI (sc b k) = true → k ≤ j → ¬ (k < j ∧ lt1 (b k)) → (∀ I' J', FrC I0 J0 I' J' → I' 95 20 = nI (sT (sc b k)) → CR (sc b k) I' J' → am_To (am_XX L xs) (d + 1) 103 7 [some (.ref 95), some (.int (nI j)), some (.int (nI k))] [] I' J' P) → am_To (am_XX L xs) (d + 1) 103 98 [some (.ref 95), some (.int (nI j)), some (.int (nI k))] [] I J P := by
    intro k I J f hN hC hI hkj hl g
    obtain ⟨v1, v2, v3, v4⟩ := sc_v b k
    obtain ⟨g1, g2, g3, g4⟩ := v3 hI
    have hT' : ∀ i, i < n → I 96 i = sx (b i) := fun i hi => by
      rw [f.1 96 (by decide) (by decide) (by decide)]
      exact hT i hi
    have g188 : ∀ J', FrC I0 J0 I J' → CR (sc b k) I J' → am_To (am_XX L xs) (d + 1) 103 188 [some (.ref 95), some (.int (nI j)), some (.int (nI k))] [] I J' P := fun J' f' hC' => by
      refine bk_103_188 _ _ I J' ?_
      rw [hN, nI_1, show sT (sc b k) - 1 + 1 = sT (sc b k) by omega]
      refine g _ _ ⟨fun g e1 e2 e3 => ?_, fun i hi => ?_, f'.2.2⟩ am_up_s (fun t ht => ?_)
      · rw [am_up_row e1]
        exact f.1 g e1 e2 e3
      · rw [am_up_k hi]
        exact f.2.1 i hi
      · rw [am_up_h (by decide), am_up_h (by decide)]
        exact hC' t ht
    refine bk_103_98 _ _ I J (isletter_m hv hT' hj (fun _ => ?_) (fun c1 c2 => absurd ⟨c1, c2⟩ hl) (by omega))
    obtain ⟨c1, c2, c3⟩ := hC (sT (sc b k) - 1) (by omega)
    have hx : nI k - I 110 (sT (sc b k) - 1) = nI (k - sL (sc b k) (sT (sc b k) - 1)) := by
      rw [c2]
      exact pk_sub (by omega)
    refine bk_103_104 _ _ 0 I J (i_t rfl (x_i (sT (sc b k) - 1) hN (i_le (k - sL (sc b k) (sT (sc b k) - 1)) 8 hx rfl (fun z => g188 J f hC) (fun z => x_i (sT (sc b k) - 1) hN (g188 _ ⟨f.1, f.2.1, fun g hg => ?_⟩ (fun t ht => ⟨?_, (hC t ht).2⟩))))))
    · rw [am_up_row hg]
      exact f.2.2 g hg
    · by_cases e : t = sT (sc b k) - 1
      · subst e
        rw [am_up_s, (v1 _ ht).2.2 (by omega)]
        rfl
      · rw [am_up_k e]
        exact (hC t ht).1
  intro m
  induction m with
  | zero =>
    have hA : ∀ (k : Nat) (I : am_I) (J : am_J), k + 0 = j → FrC I0 J0 I J → I 95 20 = nI (sT (sc b k)) → CR (sc b k) I J → am_To (am_XX L xs) (d + 1) 103 7 [some (.ref 95), some (.int (nI j)), some (.int (nI k))] [] I J P := by
      intro k I J hk f hN hC
      have e : k = j := by omega
      subst e
      obtain ⟨v1, v2, v3, v4⟩ := sc_v b k
      have hT100 : 2 * sT (sc b k) ≤ k + 1 := by
        cases hI : sI (sc b k) with
        | true => exact (v3 hI).2.2.2
        | false =>
          have := (v4 hI).2
          omega
      refine bk_103_7 _ _ I J (i_t (nI_le (Nat.le_refl k) (by omega)) (i_le (sT (sc b k)) 0 hN rfl (fun z => h I J f ⟨hN, fun t ht => by omega⟩) (fun z => ?_)))
      have e1 : I 95 20 - 1 = nI (sT (sc b k) - 1) := by
        rw [hN]
        exact pk_sub (b := 1) (by omega)
      refine x_i (sT (sc b k) - 1) e1 ?_
      rw [vn0]
      refine h _ _ ⟨fun g e1 e2 e3 => ?_, fun i hi => ?_, f.2.2⟩ ⟨?_, fun t ht => ?_⟩
      · rw [am_up_row e3]
        exact f.1 g e1 e2 e3
      · rw [am_up_h (by decide)]
        exact f.2.1 i hi
      · rw [am_up_h (by decide)]
        exact hN
      · rw [am_up_h (show (110 : Nat) ≠ 112 by decide)]
        refine ⟨(hC t ht).1, (hC t ht).2.1, ?_⟩
        by_cases e : t = sT (sc b k) - 1
        · subst e
          rw [am_up_s, if_neg (by omega)]
          rfl
        · rw [am_up_k e, (hC t ht).2.2, if_pos (by omega), if_pos (by omega)]
    exact ⟨fun k I J hk f hN hC _ => hA k I J hk f hN hC, fun k I J hk f hN hC hI => fin k I J f hN hC hI (by omega) (by omega) (fun I' J' f' hN' hC' => hA k I' J' hk f' hN' hC')⟩
  | succ m ih =>
    obtain ⟨ihA, ihB⟩ := ih
    have hA : ∀ (k : Nat) (I : am_I) (J : am_J), k + (m + 1) = j → FrC I0 J0 I J → I 95 20 = nI (sT (sc b k)) → CR (sc b k) I J → (sI (sc b k) = false ∨ ¬ (k < j ∧ lt1 (b k))) → am_To (am_XX L xs) (d + 1) 103 7 [some (.ref 95), some (.int (nI j)), some (.int (nI k))] [] I J P := by
      intro k I J hk f hN hC hor
      obtain ⟨v1, v2, v3, v4⟩ := sc_v b k
      have hT100 : 2 * sT (sc b k) ≤ k + 1 := by
        cases hI : sI (sc b k) with
        | true => exact (v3 hI).2.2.2
        | false =>
          have := (v4 hI).2
          omega
      have hT' : ∀ i, i < n → I 96 i = sx (b i) := fun i hi => by
        rw [f.1 96 (by decide) (by decide) (by decide)]
        exact hT i hi
      have hb := hv.2 k (by omega)
      refine bk_103_7 _ _ I J (i_le j k rfl rfl (fun z => by omega) (fun _ => isletter_m hv hT' hj (fun hl => ?_) (fun _ hl => ?_) (by omega)))
      · have hl2 : ¬ lt1 (b k) := fun z => hl ⟨by omega, z⟩
        have ihA' := fun I' J' => ihA (k + 1) I' J' (by omega)
        rw [sc_e3 hl2] at ihA'
        have q32 : I 96 k = 32 ↔ b k = 32 := by
          rw [hT' k (by omega)]
          exact sx_32 _ hb
        have q10 : I 96 k = 10 ↔ b k = 10 := by
          rw [hT' k (by omega)]
          exact sx_10 _ hb
        -- a blank, or no token yet
        have g0 : (sT (sc b k) = 0 ∨ b k = 32 ∨ b k = 10) → am_To (am_XX L xs) (d + 1) 103 7 [some (.ref 95), some (.int (nI j)), some (.int (nI k + 1))] [] I J P := fun z => by
          rw [nI_1]
          refine ihA' I J f hN (fun t ht => ?_) (Or.inl rfl)
          have ht' : t < sT (sc b k) := ht
          obtain ⟨c1, c2, c3⟩ := hC t ht'
          refine ⟨c1, c2, ?_⟩
          show I 112 t = bI (if t + 1 < sT (sc b k) then sF (sc b k) (t + 1) else !(sR (sc b k) || !(decide (b k = 32 ∨ b k = 10))))
          rw [decide_eq_true (by omega), Bool.not_true, Bool.or_false]
          exact c3
        refine bk_103_18 _ _ 0 I J (i_t rfl (i_le (sT (sc b k)) 0 hN rfl (fun z => g0 (by omega)) (fun z => ?_)))
        refine x_i k rfl (i_c q32 (fun y => g0 (by omega)) (fun y32 => x_i k rfl (i_c q10 (fun y => g0 (by omega)) (fun y10 => ?_))))
        have e1 : I 95 20 - 1 = nI (sT (sc b k) - 1) := by
          rw [hN]
          exact pk_sub (b := 1) (by omega)
        refine x_i (sT (sc b k) - 1) e1 ?_
        rw [vn0, nI_1]
        refine ihA' _ _ ⟨fun g e1 e2 e3 => ?_, fun i hi => ?_, f.2.2⟩ ?_ (fun t ht => ?_) (Or.inl rfl)
        · rw [am_up_row e3]
          exact f.1 g e1 e2 e3
        · rw [am_up_h (by decide)]
          exact f.2.1 i hi
        · rw [am_up_h (by decide)]
          exact hN
        · have ht' : t < sT (sc b k) := ht
          obtain ⟨c1, c2, c3⟩ := hC t ht'
          rw [am_up_h (show (110 : Nat) ≠ 112 by decide)]
          refine ⟨c1, c2, ?_⟩
          show am_up I 112 _ _ 112 t = bI (if t + 1 < sT (sc b k) then sF (sc b k) (t + 1) else !(sR (sc b k) || !(decide (b k = 32 ∨ b k = 10))))
          rw [decide_eq_false (by omega), Bool.not_false, Bool.or_true]
          by_cases e : t = sT (sc b k) - 1
          · subst e
            rw [am_up_s, if_neg (by omega)]
            rfl
          · rw [am_up_k e, c3, if_pos (by omega), if_pos (by omega)]
      · have hI : sI (sc b k) = false := by
          rcases hor with z | z
          · exact z
          · exact absurd ⟨by omega, hl⟩ z
        have v5 := v4 hI
        have ihB' := fun I' J' => ihB (k + 1) I' J' (by omega)
        rw [sc_e2 hl hI] at ihB'
        refine bk_103_18 _ _ 1 I J (i_f (by decide) (x_i (sT (sc b k)) hN (x_i (sT (sc b k)) (by rw [am_up_h (by decide)]; exact hN) (x_i (sT (sc b k)) (by rw [am_up_h (by decide), am_up_h (by decide)]; exact hN) ?_))))
        rw [vn1]
        have hN2 : am_up (am_up I 110 (sT (sc b k)) (nI k)) 112 (sT (sc b k)) 1 95 20 = nI (sT (sc b k)) := by
          rw [am_up_h (by decide), am_up_h (by decide)]
          exact hN
        have hT2 : ∀ i, i < n → am_up (am_up I 110 (sT (sc b k)) (nI k)) 112 (sT (sc b k)) 1 96 i = sx (b i) := fun i hi => by
          rw [am_up_h (by decide), am_up_h (by decide)]
          exact hT' i hi
        have hx : nI k - am_up (am_up I 110 (sT (sc b k)) (nI k)) 112 (sT (sc b k)) 1 110 (sT (sc b k)) = nI 0 := by
          rw [am_up_h (by decide), am_up_s, pk_sub (Nat.le_refl k), Nat.sub_self]
        refine bk_103_98 _ _ _ _ (isletter_m hv hT2 hj (fun z => absurd ⟨by omega, hl⟩ z) (fun _ _ => ?_) (by omega))
        refine bk_103_104 _ _ 1 _ _ (i_f (by decide) (x_i (sT (sc b k)) hN2 (i_le 8 0 rfl hx (fun z => by omega) (fun _ => x_i (sT (sc b k)) hN2 (x_i k rfl (x_i (sT (sc b k)) hN2 ?_))))))
        rw [hT2 k (by omega), sx_l hl, am_up_s, show (0 : Int64) = lN 0 from rfl, l_cat hb (by decide), nI_1, Nat.zero_mul, Nat.zero_add]
        refine ihB' _ _ ⟨fun g e1 e2 e3 => ?_, fun i hi => ?_, fun g hg => ?_⟩ ?_ (fun t ht => ?_) rfl
        · rw [am_up_row e3, am_up_row e2]
          exact f.1 g e1 e2 e3
        · rw [am_up_h (by decide), am_up_h (by decide)]
          exact f.2.1 i hi
        · rw [am_up_row hg, am_up_row hg]
          exact f.2.2 g hg
        · rw [hN2]
          rfl
        · have ht' : t < sT (sc b k) + 1 := ht
          rw [am_up_h (show (110 : Nat) ≠ 112 by decide)]
          show am_up (am_up J 111 _ _) 111 _ _ 111 t = lN (upf (sP (sc b k)) (sT (sc b k)) (b k) t) ∧ am_up I 110 _ _ 110 t = nI (upf (sL (sc b k)) (sT (sc b k)) k t) ∧ am_up (am_up I 110 _ _) 112 _ _ 112 t = bI (if t + 1 < sT (sc b k) + 1 then upf (sF (sc b k)) (sT (sc b k)) (!sR (sc b k)) (t + 1) else !false)
          by_cases e : t = sT (sc b k)
          · subst e
            rw [am_up_s, upf_s, am_up_s, upf_s, am_up_s, if_neg (by omega)]
            exact ⟨rfl, rfl, rfl⟩
          · obtain ⟨c1, c2, c3⟩ := hC t (by omega)
            rw [am_up_k e, am_up_k e, upf_n e, am_up_k e, upf_n e, am_up_k e, am_up_h (show (112 : Nat) ≠ 110 by decide), if_pos (by omega)]
            refine ⟨c1, c2, ?_⟩
            rw [c3]
            by_cases e2 : t + 1 = sT (sc b k)
            · rw [e2, upf_s, if_neg (by omega)]
            · rw [upf_n e2, if_pos (by omega)]
    refine ⟨hA, fun k I J hk f hN hC hI => ?_⟩
    by_cases hl : lt1 (b k)
    · obtain ⟨v1, v2, v3, v4⟩ := sc_v b k
      obtain ⟨g1, g2, g3, g4⟩ := v3 hI
      have hT' : ∀ i, i < n → I 96 i = sx (b i) := fun i hi => by
        rw [f.1 96 (by decide) (by decide) (by decide)]
        exact hT i hi
      have hb := hv.2 k (by omega)
      have ihB' := fun I' J' => ihB (k + 1) I' J' (by omega)
      rw [sc_e1 hl hI] at ihB'
      obtain ⟨c1, c2, c3⟩ := hC (sT (sc b k) - 1) (by omega)
      have vv := v1 (sT (sc b k) - 1) (by omega)
      have hx : nI k - I 110 (sT (sc b k) - 1) = nI (sN (sc b k) (sT (sc b k) - 1)) := by
        rw [c2, pk_sub (by omega)]
        congr 1
        omega
      have g : ∀ q, q = lN (grw (sP (sc b k) (sT (sc b k) - 1)) (sN (sc b k) (sT (sc b k) - 1)) (b k)) → am_To (am_XX L xs) (d + 1) 103 98 [some (.ref 95), some (.int (nI j)), some (.int (nI k + 1))] [] I (am_up J 111 (sT (sc b k) - 1) q) P := fun q hq => by
        rw [nI_1]
        refine ihB' _ _ ⟨f.1, f.2.1, fun g hg => ?_⟩ hN (fun t ht => ?_) rfl
        · rw [am_up_row hg]
          exact f.2.2 g hg
        · have ht' : t < sT (sc b k) := ht
          obtain ⟨d1, d2, d3⟩ := hC t ht'
          refine ⟨?_, d2, ?_⟩
          · show am_up J 111 _ _ 111 t = lN (upf (sP (sc b k)) (sT (sc b k) - 1) _ t)
            by_cases e : t = sT (sc b k) - 1
            · subst e
              rw [am_up_s, upf_s, hq]
            · rw [am_up_k e, upf_n e]
              exact d1
          · rw [d3, g3]
            rfl
      refine bk_103_98 _ _ I J (isletter_m hv hT' hj (fun z => absurd ⟨by omega, hl⟩ z) (fun _ _ => ?_) (by omega))
      refine bk_103_104 _ _ 1 I J (i_f (by decide) (x_i (sT (sc b k) - 1) hN (i_le 8 (sN (sc b k) (sT (sc b k) - 1)) rfl hx (fun z => x_i (sT (sc b k) - 1) hN (g 0 ?_)) (fun z => x_i (sT (sc b k) - 1) hN (x_i k rfl (x_i (sT (sc b k) - 1) hN (g _ ?_)))))))
      · unfold grw
        rw [if_neg (by omega)]
        rfl
      · rw [c1, hT' k (by omega), sx_l hl, l_cat hb (by have := pkv_55 vv (by omega); omega)]
        unfold grw
        rw [if_pos (by omega)]
    · exact fin k I J f hN hC hI (by omega) (fun z => hl z.2) (fun I' J' f' hN' hC' => hA k I' J' hk f' hN' hC' (Or.inr (fun z => hl z.2)))
theorem cuts_m {I : am_I} {J : am_J} (hv : TPv n b) (hj : j ≤ n) (hT : TPm n b I) (h : ∀ I' J', FrC I J I' J' → CutM (sc b j) I' J' → P none I' J') : am_To (am_XX L xs) (d + 1) 103 0 [some (.ref 95), some (.int (nI j)), none] [] I J P := by
  refine bk_103_0 _ I J ?_
  exact (cuts_lp hv hj I J hT.2 h j).1 0 _ _ (by omega) ⟨fun g e _ _ => am_up_row e, fun i e => am_up_k e, fun _ _ => rfl⟩ am_up_s (fun t ht => absurd ht (Nat.not_lt_zero t)) (Or.inl rfl)
end
