/-! TEXT of both: findSigns, weigh, putText, freeText, the reference's loop -/
theorem FrS_tr {T : Nat} {I0 I I' : am_I} {J0 J J' : am_J} (h1 : FrS T I0 J0 I J) (h2 : FrS T I J I' J') : FrS T I0 J0 I' J' := ⟨fun g a b => (h2.1 g a b).trans (h1.1 g a b), fun g a => (h2.2 g a).trans (h1.2 g a)⟩
/-- a text that is free: the first -/
def isFree (th : Nat → Bool) (T : Nat) : Prop := T < 12 ∧ th T = false ∧ ∀ i, i < T → th i = true
def gsum (S : Nat → Nat → Nat) (c n : Nat) : Nat := fb_sm (fun k => if cl (S k 0) (S k 1) (S k 2) = c then S k 3 else 0) n
theorem cl_lt {w : Nat} {r : Nat → Nat} (h : sgV w r) (hw : w ≤ 24) : cl (r 0) (r 1) (r 2) < 1728 := by
  obtain ⟨h1, h2, h3, h4, h5⟩ := h
  unfold cl
  split <;> omega
theorem gN_e {T : Nat} (h : T < 12) : gN T = 40 := by
  unfold gN
  rw [show Nat.beq T 12 = false from (by
    cases hb : Nat.beq T 12 with
    | false => rfl
    | true => exact absurd (Nat.eq_of_beq_eq_true hb) (by omega))]
  rfl
section
variable {L : Nat} {xs : Nat → Int32} {d : Nat} {P : Option Value → am_I → am_J → Prop} {I : am_I} {J : am_J} {t f n T w j : Nat} {s : SC} {S : Nat → Nat → Nat} {z : ZZ} {th : Nat → Bool} {b v : Nat → Nat} {a : Int32}
theorem find_lp (hs : TKv s) (hT : T < 12) (hz : SGv z) (hz0 : zN z = 0) (I0 : am_I) (J0 : am_J) (hC0 : CutC s I0 J0) (h : ∀ I' J', FrS T I0 J0 I' J' → WCc (zW (sgT s (sT s) z)) (zV (sgT s (sT s) z)) I' J' → Gr T (zN (sgT s (sT s) z)) (zS (sgT s (sT s) z)) I' → P none I' J') : ∀ (m t : Nat) (I : am_I) (J : am_J), t + m = sT s → FrS T I0 J0 I J → WCc (zW (sgT s t z)) (zV (sgT s t z)) I J → Gr T (zN (sgT s t z)) (zS (sgT s t z)) I → am_To (am_XX L xs) (d + 3) 21 2 [some (.ref 5), some (.ref 3), some (.ref (gH T)), some (.int (nI t)), none, none] [] I J P := by
  have h100 := hs.1
  intro m
  induction m with
  | zero =>
    intro t I J ht hfr hW hG
    have e : t = sT s := by omega
    subst e
    have hC := cutc_fr hT hC0 hfr
    exact bk_21_2 _ I J T hT (i_t (by rw [hC.1]; exact nI_le (Nat.le_refl _) (by omega)) (h I J hfr hW hG))
  | succ m ih =>
    intro t I J ht hfr hW hG
    have hC := cutc_fr hT hC0 hfr
    have hts : t < sT s := by omega
    refine bk_21_2 _ I J T hT (i_le (sT s) t hC.1 rfl (fun c => by omega) (fun _ => ?_))
    by_cases hm : mb (sP s t)
    · have inner : ∀ (m2 f : Nat) (I : am_I) (J : am_J), f + m2 = 5 → FrS T I0 J0 I J → WCc (zW (sgF s t f (sgT s t z))) (zV (sgF s t f (sgT s t z))) I J → Gr T (zN (sgF s t f (sgT s t z))) (zS (sgF s t f (sgT s t z))) I → am_To (am_XX L xs) (d + 3) 21 13 [some (.ref 5), some (.ref 3), some (.ref (gH T)), some (.int (nI t)), some (.int (nI f)), none] [] I J P := by
        intro m2
        induction m2 with
        | zero =>
          intro f I J hf hfr hW hG
          have e : f = 5 := by omega
          subst e
          refine bk_21_13 _ _ I J T hT (i_t (by decide) ?_)
          rw [nI_1]
          refine ih (t + 1) I J (by omega) hfr ?_ ?_
          · rw [sgT_p hm]
            exact hW
          · rw [sgT_p hm]
            exact hG
        | succ m2 ih2 =>
          intro f I J hf hfr hW hG
          have hC := cutc_fr hT hC0 hfr
          refine bk_21_13 _ _ I J T hT (i_le 5 f rfl rfl (fun c => by omega) (fun _ => x_i t rfl ?_))
          rw [(hC.2 t hts).1]
          refine mayc_all (pkv_63 (hs.2.1 t hts)) (cpk_or _) (fun c => absurd hm c) (fun _ => ?_)
          refine bk_21_28 _ _ 1 I J T hT (i_f (by decide) (endof_c hs hC (by omega) hts (fun hok => ?_) (fun hok => ?_)))
          · refine bk_21_38 _ _ _ I J T hT (i_f (nI_m1 (by have := hok.1; omega)) ?_)
            obtain ⟨k1, k2, k3, k4⟩ := sgT_v hs hz hz0 t (by omega)
            obtain ⟨j1, j2, j3⟩ := sgF_v hs hm hts k1 f (by omega)
            refine takesign_c hs hT hC hm hts (by omega) hok j1 (sg_room hs hz hz0 hts (by omega) hm hok) hW hG (fun I' J' f' hW' hG' => ?_)
            refine bk_21_57 _ _ I' J' T hT ?_
            rw [nI_1]
            refine ih2 (f + 1) I' J' (by omega) (FrS_tr hfr f') ?_ ?_
            · show WCc (zW (sg1 s t f _)) (zV (sg1 s t f _)) I' J'
              rw [sg1_p hok]
              exact hW'
            · show Gr T (zN (sg1 s t f _)) (zS (sg1 s t f _)) I'
              rw [sg1_p hok]
              exact hG'
          · refine bk_21_38 _ _ _ I J T hT (i_t rfl ?_)
            rw [nI_1]
            refine ih2 (f + 1) I J (by omega) hfr ?_ ?_
            · show WCc (zW (sg1 s t f _)) (zV (sg1 s t f _)) I J
              rw [sg1_n hok]
              exact hW
            · show Gr T (zN (sg1 s t f _)) (zS (sg1 s t f _)) I
              rw [sg1_n hok]
              exact hG
      exact inner 5 0 I J (by omega) hfr hW hG
    · refine bk_21_13 _ _ I J T hT (i_f (by decide) (x_i t rfl ?_))
      rw [(hC.2 t hts).1]
      refine mayc_all (pkv_63 (hs.2.1 t hts)) (cpk_or _) (fun _ => ?_) (fun c => absurd c hm)
      refine bk_21_28 _ _ 0 I J T hT (i_t rfl ?_)
      rw [nI_1]
      refine ih (t + 1) I J (by omega) hfr ?_ ?_
      · rw [sgT_n hm]
        exact hW
      · rw [sgT_n hm]
        exact hG
theorem weigh_c {x2 : Int32} (hT : T < 12) (hn : n ≤ 40) (hG : Gr T n S I) (hcl : ∀ k, k < n → cl (S k 0) (S k 1) (S k 2) < 1728) (h : ∀ I', (∀ g, g ≠ 64 → I' g = I g) → (∀ c, I' 64 c = I 64 c + x2 * nI (gsum S c n)) → P none I' J) : am_To (am_XX L xs) d 30 0 [some (.ref 9), some (.ref (gH T)), some (.int x2), none] [] I J P := by
  have hgT := gH_e T hT
  have hgN := gN_e hT
  have lp : ∀ (m i : Nat) (I1 : am_I), i + m = n → (∀ g, g ≠ 64 → I1 g = I g) → (∀ c, I1 64 c = I 64 c + x2 * nI (gsum S c i)) → am_To (am_XX L xs) d 30 2 [some (.ref 9), some (.ref (gH T)), some (.int x2), some (.int (nI i))] [] I1 J P := by
    intro m
    induction m with
    | zero =>
      intro i I1 hi f1 f2
      have e : i = n := by omega
      subst e
      exact bk_30_2 _ _ I1 J T hT (i_t (by rw [f1 _ (by omega), hG.1]; exact nI_le (Nat.le_refl _) (by omega)) (h I1 f1 f2))
    | succ m ih =>
      intro i I1 hi f1 f2
      obtain ⟨g1, g2, g3⟩ := hG.2 i (by omega)
      have hc := hcl i (by omega)
      have e1 : I1 (gA0 T) i = nI (cl (S i 0) (S i 1) (S i 2)) := by
        rw [f1 _ (by unfold gA0; omega)]
        exact g1
      have e2 : I1 (gA1 T) i = nI (S i 3) := by
        rw [f1 _ (by unfold gA1; omega)]
        exact g2
      refine bk_30_2 _ _ I1 J T hT (i_le n i (by rw [f1 _ (by omega)]; exact hG.1) rfl (fun c => by omega) (fun _ => x_i i rfl (x_i _ e1 (x_i i rfl (x_i _ e1 ?_)))))
      rw [e2, nI_1]
      refine ih (i + 1) _ (by omega) (fun g hg => by rw [am_up_row hg]; exact f1 g hg) (fun c => ?_)
      show _ = I 64 c + x2 * nI (fb_sm _ (i + 1))
      rw [fb_sm_succ]
      by_cases e : c = cl (S i 0) (S i 1) (S i 2)
      · subst e
        rw [am_up_s, f2, if_pos rfl, ← nI_add, Int32.mul_add, Int32.add_assoc]
        rfl
      · rw [am_up_k e, if_neg (fun z => e z.symm), f2]
        rfl
  refine bk_30_0 _ I J T hT (lp n 0 I (by omega) (fun _ _ => rfl) (fun c => ?_))
  show _ = I 64 c + x2 * 0
  rw [Int32.mul_zero, Int32.add_zero]
theorem freetext_c (hth : ∀ i, i < 12 → I 59 i = bI (th i)) (h1 : ∀ T, isFree th T → P (some (.int (nI T))) I J) (h0 : (∀ i, i < 12 → th i = true) → P (some (.int (-1))) I J) : am_To (am_XX L xs) d 13 0 [some (.ref 9), none] [] I J P := by
  have lp : ∀ (m i : Nat), i + m = 12 → (∀ k, k < i → th k = true) → am_To (am_XX L xs) d 13 2 [some (.ref 9), some (.int (nI i))] [] I J P := by
    intro m
    induction m with
    | zero =>
      intro i hi hk
      have e : i = 12 := by omega
      subst e
      exact bk_13_2 _ I J (i_t (by decide) (h0 hk))
    | succ m ih =>
      intro i hi hk
      refine bk_13_2 _ I J (i_le 12 i rfl rfl (fun c => by omega) (fun _ => x_i i rfl ?_))
      rw [hth i (by omega)]
      refine i_c bI_0 (fun c => h1 i ⟨by omega, c, hk⟩) (fun c => ?_)
      rw [nI_1]
      refine ih (i + 1) (by omega) (fun k hk2 => ?_)
      by_cases e : k = i
      · rw [e]
        simpa using c
      · exact hk k (by omega)
  exact bk_13_0 I J (lp 12 0 (by omega) (fun k hk => absurd hk (by omega)))
/-- the rows that text of the class leaves -/
def FrX (T : Nat) (I : am_I) (J : am_J) (I' : am_I) (J' : am_J) : Prop := (∀ g, g ≠ 0 → g ≠ 1 → g ≠ 3 → g ≠ 5 → g ≠ 7 → g ≠ 8 → g ≠ 59 → g ≠ 64 → (g < gH T ∨ gH T + 3 < g) → I' g = I g) ∧ (∀ g, g ≠ 4 → g ≠ 6 → J' g = J g)
theorem text_C (hv : TPv n b) (hTp : TPc n b I) (hV : WV w v) (hW : WCc w v I J) (hth : ∀ i, i < 12 → I 59 i = bI (th i)) (hG : ∀ T, T < 12 → th T = false → I (gH T) 3 = 0) (h0 : ((∀ j, j ≤ n → a ≠ nI j) ∨ ∀ i, i < 12 → th i = true) → P (some (.int (-1))) I J) (h1 : ∀ j T, j ≤ n → a = nI j → isFree th T → ∀ I' J', FrX T I J I' J' → I' 0 7 = 1 → I' 1 1 = 0 → WCc (zW (sgT (sc b j) (sT (sc b j)) (w, v, 0, S))) (zV (sgT (sc b j) (sT (sc b j)) (w, v, 0, S))) I' J' → Gr T (zN (sgT (sc b j) (sT (sc b j)) (w, v, 0, S))) (zS (sgT (sc b j) (sT (sc b j)) (w, v, 0, S))) I' → (∀ i, i < 12 → I' 59 i = bI (upf th T true i)) → (∀ c, I' 64 c = I 64 c + nI (gsum (zS (sgT (sc b j) (sT (sc b j)) (w, v, 0, S))) c (zN (sgT (sc b j) (sT (sc b j)) (w, v, 0, S))))) → P (some (.int (nI T))) I' J') : am_To (am_XX L xs) (d + 4) 12 0 [some (.ref 0), some (.int a), none] [] I J P := by
  have hn := hv.1
  refine bk_12_0 _ I J (freetext_c hth (fun T hF => ?_) (fun hF => ?_))
  · refine bk_12_7 _ _ I J (holds_c hTp.1 hv.1 (fun c => ?_) (fun j hj ej => ?_))
    · exact bk_12_16 _ _ 0 I J (i_t rfl (h0 (Or.inl c)))
    · subst ej
      obtain ⟨hT, hTf, hT0⟩ := hF
      have hgT := gH_e T hT
      have hgN := gN_e hT
      refine bk_12_16 _ _ 1 I J (i_f (by decide) (i_f (nI_m1 (by omega)) (cut_c hv hj hTp (fun I1 J1 f1 f2 hC => ?_))))
      refine bk_12_38 _ I1 J1 (x_i T rfl ?_)
      rw [tL_e T hT]
      refine bk_12_63 _ _ J1 T hT ?_
      have hs : TKv (sc b j) := tk_v (by omega)
      have hz : SGv ((w, v, 0, S) : ZZ) := ⟨hV, fun k hk => absurd hk (Nat.not_lt_zero k)⟩
      have hC1 : CutC (sc b j) (am_up I1 1 1 0) J1 := by
        unfold CutC at *
        rw [am_up_row (show (5 : Nat) ≠ 1 by decide), am_up_row (show (7 : Nat) ≠ 1 by decide), am_up_row (show (8 : Nat) ≠ 1 by decide)]
        exact hC
      have hW1 : WCc w v (am_up I1 1 1 0) J1 := ⟨by rw [am_up_h (by decide), f1 3 (by decide) (by decide) (by decide)]; exact hW.1, fun i hi => by rw [f2 4 (by decide)]; exact hW.2 i hi⟩
      have hG1 : Gr T 0 S (am_up I1 1 1 0) := ⟨by rw [am_up_h (by omega), f1 _ (by omega) (by omega) (by omega)]; exact hG T hT hTf, fun k hk => absurd hk (Nat.not_lt_zero k)⟩
      obtain ⟨v1, v2, v3, v4⟩ := sgT_v hs hz rfl (sT (sc b j)) (Nat.le_refl _)
      refine bk_21_0 _ J1 T hT (find_lp hs hT hz rfl (am_up I1 1 1 0) J1 hC1 (fun I2 J2 g1 hW2 hG2 => ?_) (sT (sc b j)) 0 _ _ (by omega) ⟨fun _ _ _ => rfl, fun _ _ => rfl⟩ hW1 hG1)
      refine bk_12_66 _ I2 J2 (bk_29_0 _ I2 J2 (x_i T rfl (x_i T rfl ?_)))
      rw [tL_e T hT, vn1]
      have hG3 : Gr T (zN (sgT (sc b j) (sT (sc b j)) (w, v, 0, S))) (zS (sgT (sc b j) (sT (sc b j)) (w, v, 0, S))) (am_up I2 59 T 1) := Gr_fr hG2 (fun g e1 e2 => am_up_row (by omega))
      refine bk_29_14 _ J2 T hT (weigh_c hT v4 hG3 (fun k hk => cl_lt (v1.2 k hk) v1.1.1) (fun I3 e1 e2 => bk_29_18 I3 J2 (bk_12_74 _ I3 J2 ?_)))
      refine h1 j T hj rfl ⟨hT, hTf, hT0⟩ _ J2 ⟨fun g k0 k1 k3 k5 k7 k8 k59 k64 kT => ?_, fun g k4 k6 => ?_⟩ am_up_s ?_ ⟨?_, hW2.2⟩ (Gr_fr hG3 (fun g q1 q2 => ?_)) (fun i hi => ?_) (fun c => ?_)
      · rw [am_up_row k0, e1 g k64, am_up_row k59, g1.1 g k3 kT, am_up_row k1, f1 g k5 k7 k8]
      · rw [g1.2 g k4, f2 g k6]
      · rw [am_up_h (by decide), e1 1 (by decide), am_up_h (by decide), g1.1 1 (by decide) (by omega), am_up_s]
      · rw [am_up_h (by decide), e1 3 (by decide), am_up_h (by decide)]
        exact hW2.1
      · rw [am_up_row (by omega), e1 g (by omega)]
      · rw [am_up_h (by decide), e1 59 (by decide)]
        by_cases e : i = T
        · rw [e, am_up_s, upf_s]
          rfl
        · rw [am_up_k e, upf_n e, g1.1 59 (by decide) (by omega), am_up_h (by decide), f1 59 (by decide) (by decide) (by decide)]
          exact hth i hi
      · rw [am_up_h (by decide), e2, Int32.one_mul, am_up_h (by decide), g1.1 64 (by decide) (by omega), am_up_h (by decide), f1 64 (by decide) (by decide) (by decide)]
  · refine bk_12_7 _ _ I J (holds_c hTp.1 hv.1 (fun c => ?_) (fun j hj ej => ?_))
    · exact bk_12_16 _ _ 0 I J (i_t rfl (h0 (Or.inr hF)))
    · exact bk_12_16 _ _ 1 I J (i_f (by decide) (i_t rfl (h0 (Or.inr hF))))
end
