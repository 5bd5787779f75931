/-! TEXT of the reference: the loop, the whole -/
/-- the rows that text of the reference leaves -/
def FrY (T : Nat) (I : am_I) (J : am_J) (I' : am_I) (J' : am_J) : Prop := (∀ g, g ≠ 95 → g ≠ 98 → (g < 99 ∨ 104 < g) → g ≠ 110 → g ≠ 112 → I' g = I g) ∧ (∀ i, i ≠ 1 → i ≠ 2 → i ≠ 20 → I' 95 i = I 95 i) ∧ (∀ i, i ≠ T → I' 99 i = I 99 i) ∧ (∀ g i, 100 ≤ g → g ≤ 104 → (i < 100 * T ∨ 100 * T + 100 ≤ i) → I' g i = I g i) ∧ (∀ g, g ≠ 97 → g ≠ 111 → J' g = J g)
section
variable {L : Nat} {xs : Nat → Int32} {d : Nat} {P : Option Value → am_I → am_J → Prop} {I : am_I} {J : am_J} {t f n T w j : Nat} {s : SC} {S : Nat → Nat → Nat} {z : ZZ} {th : Nat → Bool} {b v : Nat → Nat} {a : Int32}
theorem findm_lp (hs : TKv s) (hT : T < 12) (hz : SGv z) (hz0 : zN z = 0) (I0 : am_I) (J0 : am_J) (hC0 : CutM s I0 J0) (h : ∀ I' J', FrT T I0 J0 I' J' → WCm (zW (sgT s (sT s) z)) (zV (sgT s (sT s) z)) I' J' → Gm T (zN (sgT s (sT s) z)) (zS (sgT s (sT s) z)) I' → P (some (.int (nI T))) I' J') : ∀ (m t : Nat) (I : am_I) (J : am_J), t + m = sT s → FrT T I0 J0 I J → WCm (zW (sgT s t z)) (zV (sgT s t z)) I J → Gm T (zN (sgT s t z)) (zS (sgT s t z)) I → am_To (am_XX L xs) (d + 2) 101 69 [some (.ref 95), none, some (.int (nI T)), some (.int (nI t)), none, none, none, none, none, none] [] I J P := by
  have h100 := hs.1
  intro m
  induction m with
  | zero =>
    intro t I J ht hfr hW hG
    have e : t = sT s := by omega
    subst e
    have hC := cutm_fr hC0 hfr
    exact bk_101_69 _ _ I J (i_t (by rw [hC.1]; exact nI_le (Nat.le_refl _) (by omega)) (h I J hfr hW hG))
  | succ m ih =>
    intro t I J ht hfr hW hG
    have hC := cutm_fr hC0 hfr
    have hts : t < sT s := by omega
    refine bk_101_69 _ _ I J (i_le (sT s) t hC.1 rfl (fun c => by omega) (fun _ => ?_))
    by_cases hm : mb (sP s t)
    · have inner : ∀ (m2 f : Nat) (I : am_I) (J : am_J), f + m2 = 5 → FrT T I0 J0 I J → WCm (zW (sgF s t f (sgT s t z))) (zV (sgF s t f (sgT s t z))) I J → Gm T (zN (sgF s t f (sgT s t z))) (zS (sgF s t f (sgT s t z))) I → am_To (am_XX L xs) (d + 2) 101 80 [some (.ref 95), none, some (.int (nI T)), some (.int (nI t)), some (.int (nI f)), none, none, none, none, none] [] I J P := by
        intro m2
        induction m2 with
        | zero =>
          intro f I J hf hfr hW hG
          have e : f = 5 := by omega
          subst e
          refine bk_101_80 _ _ _ I J (i_t (by decide) ?_)
          rw [nI_1]
          refine ih (t + 1) I J (by omega) hfr ?_ ?_
          · rw [sgT_p hm]
            exact hW
          · rw [sgT_p hm]
            exact hG
        | succ m2 ih2 =>
          intro f I J hf hfr hW hG
          have hC := cutm_fr hC0 hfr
          refine bk_101_80 _ _ _ I J (i_le 5 f rfl rfl (fun c => by omega) (fun _ => x_i t rfl ?_))
          rw [(hC.2 t hts).1]
          refine maym_all (pkv_63 (hs.2.1 t hts)) (fun c => absurd hm c) (fun _ => ?_)
          refine bk_101_95 _ _ _ 1 I J (i_f (by decide) (end_m hs hC (by omega) hts (fun hok => ?_) (fun hok => ?_)))
          · obtain ⟨k1, k2, k3, k4⟩ := sgT_v hs hz hz0 t (by omega)
            obtain ⟨j1, j2, j3⟩ := sgF_v hs hm hts k1 f (by omega)
            refine sign_m hs hT hC hm hts (by omega) hok j1 (sg_room hs hz hz0 hts (by omega) hm hok) hW hG (fun I' J' f' hW' hG' => ?_)
            refine ih2 (f + 1) I' J' (by omega) (FrT_tr hfr f') ?_ ?_
            · show WCm (zW (sg1 s t f _)) (zV (sg1 s t f _)) I' J'
              rw [sg1_p hok]
              exact hW'
            · show Gm T (zN (sg1 s t f _)) (zS (sg1 s t f _)) I'
              rw [sg1_p hok]
              exact hG'
          · refine bk_101_105 _ _ _ _ I J (i_t rfl ?_)
            rw [nI_1]
            refine ih2 (f + 1) I J (by omega) hfr ?_ ?_
            · show WCm (zW (sg1 s t f _)) (zV (sg1 s t f _)) I J
              rw [sg1_n hok]
              exact hW
            · show Gm T (zN (sg1 s t f _)) (zS (sg1 s t f _)) I
              rw [sg1_n hok]
              exact hG
      exact inner 5 0 I J (by omega) hfr hW hG
    · refine bk_101_80 _ _ _ I J (i_f (by decide) (x_i t rfl ?_))
      rw [(hC.2 t hts).1]
      refine maym_all (pkv_63 (hs.2.1 t hts)) (fun _ => ?_) (fun c => absurd c hm)
      refine bk_101_95 _ _ _ 0 I J (i_t rfl ?_)
      rw [nI_1]
      refine ih (t + 1) I J (by omega) hfr ?_ ?_
      · rw [sgT_n hm]
        exact hW
      · rw [sgT_n hm]
        exact hG
theorem text_M (hv : TPv n b) (hTp : TPm n b I) (hV : WV w v) (hW : WCm w v I J) (hth : ∀ i, i < 12 → I 98 i = bI (th i)) (h0 : ((∀ j, j ≤ n → a ≠ nI j) ∨ ∀ i, i < 12 → th i = true) → P (some (.int (-1))) I J) (h1 : ∀ j T, j ≤ n → a = nI j → isFree th T → ∀ I' J', FrY T I J I' J' → I' 95 1 = 0 → WCm (zW (sgT (sc b j) (sT (sc b j)) (w, v, 0, S))) (zV (sgT (sc b j) (sT (sc b j)) (w, v, 0, S))) I' J' → Gm T (zN (sgT (sc b j) (sT (sc b j)) (w, v, 0, S))) (zS (sgT (sc b j) (sT (sc b j)) (w, v, 0, S))) I' → (∀ i, i < 12 → I' 98 i = bI (upf th T true i)) → P (some (.int (nI T))) I' J') : am_To (am_XX L xs) (d + 2) 101 0 [some (.ref 95), some (.int a), none, none, none, none, none, none, none, none] [] I J P := by
  have hn := hv.1
  have g12 : (∀ i, i < 12 → th i = true) → am_To (am_XX L xs) (d + 2) 101 23 [some (.ref 95), some (.int a), some (.int (nI 12)), none, none, none, none, none, none, none] [] I J P := fun hF => by
    refine bk_101_23 _ _ I J (isin_n (by omega) hTp.1 (fun c => ?_) (fun j hj ej => ?_))
    · exact bk_101_32 _ _ 0 I J (i_t rfl (h0 (Or.inr hF)))
    · exact bk_101_32 _ _ 1 I J (i_f (by decide) (i_t rfl (h0 (Or.inr hF))))
  have gT : ∀ T, isFree th T → am_To (am_XX L xs) (d + 2) 101 23 [some (.ref 95), some (.int a), some (.int (nI T)), none, none, none, none, none, none, none] [] I J P := fun T hF => by
    obtain ⟨hT, hTf, hT0⟩ := hF
    refine bk_101_23 _ _ I J (isin_n (by omega) hTp.1 (fun c => ?_) (fun j hj ej => ?_))
    · exact bk_101_32 _ _ 0 I J (i_t rfl (h0 (Or.inl c)))
    · subst ej
      refine bk_101_32 _ _ 1 I J (i_f (by decide) (i_eq T 12 rfl rfl (fun c => by omega) (fun _ => cuts_m hv hj hTp (fun I1 J1 f1 hC => ?_))))
      refine bk_101_48 _ I1 J1 (x_i T rfl (x_i T rfl ?_))
      rw [vn1]
      have hs : TKv (sc b j) := tk_v (by omega)
      have hz : SGv ((w, v, 0, S) : ZZ) := ⟨hV, fun k hk => absurd hk (Nat.not_lt_zero k)⟩
      have hC1 : CutM (sc b j) (am_up (am_up (am_up I1 95 1 0) 98 T 1) 99 T 0) J1 := by
        unfold CutM at *
        rw [am_up_h (show (95 : Nat) ≠ 99 by decide), am_up_h (show (95 : Nat) ≠ 98 by decide), am_up_k (show (20 : Nat) ≠ 1 by decide), am_up_row (show (110 : Nat) ≠ 99 by decide), am_up_row (show (110 : Nat) ≠ 98 by decide), am_up_row (show (110 : Nat) ≠ 95 by decide), am_up_row (show (112 : Nat) ≠ 99 by decide), am_up_row (show (112 : Nat) ≠ 98 by decide), am_up_row (show (112 : Nat) ≠ 95 by decide)]
        exact hC
      have hW1 : WCm w v (am_up (am_up (am_up I1 95 1 0) 98 T 1) 99 T 0) J1 := ⟨by rw [am_up_h (by decide), am_up_h (by decide), am_up_k (by decide), f1.2.1 2 (by decide)]; exact hW.1, fun i hi => by rw [f1.2.2 97 (by decide)]; exact hW.2 i hi⟩
      have hG1 : Gm T 0 S (am_up (am_up (am_up I1 95 1 0) 98 T 1) 99 T 0) := ⟨am_up_s, fun k hk => absurd hk (Nat.not_lt_zero k)⟩
      refine findm_lp hs hT hz rfl _ J1 hC1 (fun I2 J2 g1 hW2 hG2 => ?_) (sT (sc b j)) 0 _ _ (by omega) FrT_rf hW1 hG1
      refine h1 j T hj rfl ⟨hT, hTf, hT0⟩ I2 J2 ⟨fun g k1 k2 k3 k4 k5 => ?_, fun i k1 k2 k3 => ?_, fun i k1 => ?_, fun g i k1 k2 k3 => ?_, fun g k1 k2 => ?_⟩ ?_ hW2 hG2 (fun i hi => ?_)
      · rw [g1.1 g k1 k3, am_up_row (by omega), am_up_row k2, am_up_row k1, f1.1 g k1 k4 k5]
      · rw [g1.2.1 i k2, am_up_h (by decide), am_up_h (by decide), am_up_k k1, f1.2.1 i k3]
      · rw [g1.2.2.1 i k1, am_up_k k1, am_up_h (by decide), am_up_h (by decide), f1.1 99 (by decide) (by decide) (by decide)]
      · rw [g1.2.2.2.1 g i k1 k2 k3, am_up_h (by omega), am_up_h (by omega), am_up_h (by omega), f1.1 g (by omega) (by omega) (by omega)]
      · rw [g1.2.2.2.2 g k1, f1.2.2 g k2]
      · rw [g1.2.1 1 (by decide), am_up_h (by decide), am_up_h (by decide), am_up_s]
      · rw [g1.1 98 (by decide) (by decide), am_up_h (by decide)]
        by_cases e : i = T
        · rw [e, am_up_s, upf_s]
          rfl
        · rw [am_up_k e, upf_n e, am_up_h (by decide), f1.1 98 (by decide) (by decide) (by decide)]
          exact hth i hi
  have lp : ∀ (m i : Nat), i + m = 12 → (∀ k, k < i → th k = true) → am_To (am_XX L xs) (d + 2) 101 2 [some (.ref 95), some (.int a), some (.int (nI i)), none, none, none, none, none, none, none] [] I J P := by
    intro m
    induction m with
    | zero =>
      intro i hi hk
      have e : i = 12 := by omega
      subst e
      exact bk_101_2 _ _ I J (i_t (by decide) (g12 hk))
    | succ m ih =>
      intro i hi hk
      refine bk_101_2 _ _ I J (i_le 12 i rfl rfl (fun c => by omega) (fun _ => x_i i rfl ?_))
      rw [hth i (by omega)]
      refine i_c bI_0 (fun c => gT i ⟨by omega, c, hk⟩) (fun c => ?_)
      rw [nI_1]
      refine ih (i + 1) (by omega) (fun k hk2 => ?_)
      by_cases e : k = i
      · rw [e]
        simpa using c
      · exact hk k (by omega)
  exact bk_101_0 _ I J (lp 12 0 (by omega) (fun k hk => absurd hk (by omega)))
end
