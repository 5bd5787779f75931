/-! THE LAW'S STEPS, the calls that change something -/
def LawG (L : Nat) (xs : Nat → Int32) (i : Nat) (P : Option Value → am_I → am_J → Prop) : Prop := ∀ (n : Nat) (b : Nat → Nat) (w : Nat) (v : Nat → Nat) (th : Nat → Bool) (sn : Nat → Nat) (S : Nat → Nat → Nat → Nat) (kp : KP) (I : am_I) (J : am_J), AVv n b w v th sn S kp → CL n b w v th sn S kp I J → MO n b w v th sn S kp I J → am_To (am_XX L xs) 40 147 18 [some (.ref 1000), some (.ref 0), some (.ref 95), some (.int (nI (i + 6)))] [] I J P
theorem e_i (i k : Nat) : nI i + nI k = nI (i + k) := nI_add i k
section
variable {n w : Nat} {b v : Nat → Nat} {th : Nat → Bool} {sn : Nat → Nat} {S : Nat → Nat → Nat → Nat} {kp : KP} {I I' : am_I} {J J' : am_J}
theorem WT_upd {T n' : Nat} {Y : Nat → Nat → Nat} {c : Nat} (hT : T < 13) : WT (upf sn T n') (upf S T Y) c + gsum (S T) c (sn T) = WT sn S c + gsum Y c n' := by
  have e := fb_sm_upd (fun T => gsum (S T) c (sn T)) (gsum Y c n') hT
  have e2 : WT (upf sn T n') (upf S T Y) c = fb_sm (fun k => if k = T then gsum Y c n' else gsum (S k) c (sn k)) 13 := fb_sm_cong (fun k _ => by
    by_cases q : k = T
    · rw [q, if_pos rfl, upf_s, upf_s]
    · rw [if_neg q, upf_n q, upf_n q])
  rw [e2]
  exact e
theorem upf_id {α : Type} {f : Nat → α} {k : Nat} : upf f k (f k) = f := funext fun j => by
  by_cases e : j = k
  · rw [e, upf_s]
  · rw [upf_n e]
theorem nt_upd {T n' : Nat} {Y : Nat → Nat → Nat} (hT : T ≠ 12) : nt (upf sn T n') (upf S T Y) = nt sn S := by
  unfold nt
  rw [upf_n (fun q => hT q.symm), upf_n (fun q => hT q.symm)]
theorem EVv_w {w' : Nat} (h : EVv w th sn S) (hw : w ≤ w') : EVv w' th sn S := ⟨fun T hT => ⟨(h.1 T hT).1, (h.1 T hT).2.1, fun k hk => sgV_w ((h.1 T hT).2.2 k hk) hw⟩, h.2.1, fun k hk => by
  obtain ⟨a1, a2, a3, a4⟩ := h.2.2 k hk
  exact ⟨a1, by omega, by omega, a4⟩⟩
theorem KPv_w {w' : Nat} (h : KPv w kp) (hw : w ≤ w') : KPv w' kp := fun p hp y x q => by
  have := h p hp y x q
  exact ⟨by omega, by omega, this.2.2⟩
end
section
variable {L : Nat} {xs : Nat → Int32} {P : Option Value → am_I → am_J → Prop} {n w i : Nat} {b v : Nat → Nat} {th : Nat → Bool} {sn : Nat → Nat} {S : Nat → Nat → Nat → Nat} {kp : KP} {I : am_I} {J : am_J}
theorem st_feed (hi : i + 6 ≤ L) (hL : L ≤ 3072) (G : LawG L xs i P) (hA : AVv n b w v th sn S kp) (hC : CL n b w v th sn S kp I J) (hM : MO n b w v th sn S kp I J) : am_To (am_XX L xs) 40 147 136 [some (.ref 1000), some (.ref 0), some (.ref 95), some (.int (nI i))] [] I J P := by
  refine bk_147_136 _ I J (x_i (i + 1) (nI_1 i) (x_i (i + 2) (e_i i 2) (x_i (i + 3) (e_i i 3) (x_i (i + 4) (e_i i 4) (x_i (i + 5) (e_i i 5) ?_)))))
  refine feed_C hA.1 hC.1 (fun I1 f1 t1 => ?_)
  have hM1 := MO_fc (J' := J) hM (fun g hg => ⟨f1 g (by omega) (by omega), rfl⟩)
  refine bk_147_165 _ _ I1 J (x_i (i + 1) (nI_1 i) (x_i (i + 2) (e_i i 2) (x_i (i + 3) (e_i i 3) (x_i (i + 4) (e_i i 4) (x_i (i + 5) (e_i i 5) ?_)))))
  refine feed_M hA.1 hM1.1 (fun I2 f2 f3 t2 => bk_147_194 _ _ _ I2 J (i_t rfl ?_))
  rw [show nI i + (6 : Int32) = nI (i + 6) from e_i i 6]
  obtain ⟨c1, c2, c3, c4, c5, c6, c7⟩ := hC
  obtain ⟨m1, m2, m3, m4⟩ := hM1
  have f12 : ∀ g, g ≠ 1 → g ≠ 2 → g < 95 → I2 g = I g := fun g a1 a2 a3 => by
    rw [f2 g (by omega) (by omega)]
    exact f1 g a1 a2
  refine G _ _ _ _ _ _ _ _ I2 J ⟨fd_ok hA.1 by_n20_lt, hA.2⟩ ⟨?_, ?_, EVc_fr c3 (fun g a1 a2 => f12 g (by omega) (by omega) (by omega)), ?_, BNc_fr c5 (f12 65 (by decide) (by decide) (by decide)), ?_, PIc_fr c7 (f12 73 (by decide) (by decide) (by decide)) (f12 74 (by decide) (by decide) (by decide))⟩ ⟨t2, ?_, EVm_fr m3 (f3 3 (by decide)) (fun g a1 a2 => f2 g (by omega) (by omega)), ?_⟩
  · unfold TPc at *
    rw [f2 1 (by decide) (by decide), f2 2 (by decide) (by decide)]
    exact t1
  · unfold WCc at *
    rw [f12 3 (by decide) (by decide) (by decide)]
    exact c2
  · rw [f12 64 (by decide) (by decide) (by decide)]
    exact c4
  · rw [f12 0 (by decide) (by decide) (by decide)]
    exact fun q => TFc_fr (c6 q) (fun g a1 a2 => f12 g (by omega) (by omega) (by omega))
  · unfold WCm at *
    rw [f3 2 (by decide)]
    exact m2
  · unfold PIm at *
    rw [f3 33 (by decide), f3 32 (by decide), f2 121 (by decide) (by decide)]
    exact m4
theorem st_text (hi : i + 6 ≤ L) (hL : L ≤ 3072) (G : LawG L xs i P) (hA : AVv n b w v th sn S kp) (hC : CL n b w v th sn S kp I J) (hM : MO n b w v th sn S kp I J) : am_To (am_XX L xs) 40 147 199 [some (.ref 1000), some (.ref 0), some (.ref 95), some (.int (nI i))] [] I J P := by
  obtain ⟨a1, a2, a3, a4⟩ := hA
  have hn200 := a1.1
  refine bk_147_199 _ I J (x_i (i + 1) (nI_1 i) ?_)
  refine text_C (S := fun _ _ => 0) (th := th) a1 hC.1 a2 hC.2.1 (fun T hT => (hC.2.2.1.1 T hT).2) (fun T hT ht => ?_) (fun z => ?_) (fun j T hj ej hF I1 J1 f1 s1 s2 hW1 hG1 h59 h64 => ?_)
  · rw [(hC.2.2.1.1 T hT).1.1, (a3.1 T hT).2.1 ht]
    rfl
  · refine bk_147_208 _ _ I J (x_i (i + 1) (nI_1 i) (text_M (S := fun _ _ => 0) (th := th) a1 hM.1 a2 hM.2.1 (fun T hT => (hM.2.2.1.1 T hT).1) (fun _ => bk_147_217 _ _ _ I J (i_t rfl ?_)) (fun j T hj ej hF => ?_)))
    · rw [show nI i + (6 : Int32) = nI (i + 6) from e_i i 6]
      exact G _ _ _ _ _ _ _ _ I J ⟨a1, a2, a3, a4⟩ hC hM
    · rcases z with z | z
      · exact absurd ej (z j hj)
      · have := z T hF.1
        rw [hF.2.1] at this
        cases this
  · have hT := hF.1
    have hgT := gH_e T hT
    have hM1 : MO n b w v th sn S kp I1 J1 := MO_fc hM (fun g hg => ⟨f1.1 g (by omega) (by omega) (by omega) (by omega) (by omega) (by omega) (by omega) (by omega) (by omega), f1.2 g (by omega) (by omega)⟩)
    refine bk_147_208 _ _ I1 J1 (x_i (i + 1) (nI_1 i) (text_M (S := fun _ _ => 0) (th := th) a1 hM1.1 a2 hM1.2.1 (fun T hT => (hM1.2.2.1.1 T hT).1) (fun z => ?_) (fun j' T' hj' ej' hF' I2 J2 f2 s3 hW2 hG2 h98 => ?_)))
    · rcases z with z | z
      · exact absurd ej (z j hj)
      · have := z T hT
        rw [hF.2.1] at this
        cases this
    · have ejj : j' = j := (nI_eq (by omega) (by omega)).mp (ej'.symm.trans ej)
      have eTT : T' = T := by
        rcases Nat.lt_or_ge T' T with q | q
        · have := hF.2.2 T' q
          rw [hF'.2.1] at this
          cases this
        · rcases Nat.lt_or_ge T T' with q2 | q2
          · have := hF'.2.2 T q2
            rw [hF.2.1] at this
            cases this
          · omega
      subst ejj
      subst eTT
      refine bk_147_217 _ _ _ I2 J2 (i_t rfl ?_)
      rw [show nI i + (6 : Int32) = nI (i + 6) from e_i i 6]
      have hs : TKv (sc b j') := tk_v (by omega)
      have hz : SGv ((w, v, 0, fun _ _ => 0) : ZZ) := ⟨a2, fun k hk => absurd hk (Nat.not_lt_zero k)⟩
      obtain ⟨v1, v2, v3, v4⟩ := sgT_v hs hz rfl (sT (sc b j')) (Nat.le_refl _)
      generalize hzz : sgT (sc b j') (sT (sc b j')) (w, v, 0, fun _ _ => 0) = z at *
      have v2' : w ≤ zW z := v2
      have hw' := v1.1.1
      obtain ⟨c1, c2, c3, c4, c5, c6, c7⟩ := hC
      obtain ⟨m1, m2, m3, m4⟩ := hM1
      have hT12 : T' ≠ 12 := by omega
      -- rows of the class through both
      have fc : ∀ g, g < 95 → I2 g = I1 g := fun g hg => f2.1 g (by omega) (by omega) (by omega) (by omega) (by omega)
      have fcI : ∀ g, g < 95 → g ≠ 0 → g ≠ 1 → g ≠ 3 → g ≠ 5 → g ≠ 7 → g ≠ 8 → g ≠ 59 → g ≠ 64 → (g < gH T' ∨ gH T' + 3 < g) → I2 g = I g := fun g hg b0 b1 b3 b5 b7 b8 b59 b64 br => by
        rw [fc g hg]
        exact f1.1 g b0 b1 b3 b5 b7 b8 b59 b64 br
      refine G 0 b (zW z) (zV z) (upf th T' true) (upf sn T' (zN z)) (upf S T' (zS z)) kp I2 J2 ⟨⟨Nat.zero_le _, fun k hk => absurd hk (Nat.not_lt_zero k)⟩, v1.1, ⟨fun T hT => ?_, ?_, fun k hk => ?_⟩, KPv_w a4 v2'⟩ ⟨⟨?_, fun k hk => absurd hk (Nat.not_lt_zero k)⟩, ?_, ⟨fun T hT => ?_, ?_⟩, fun c hc => ?_, ?_, ?_, ?_⟩ ⟨⟨?_, fun k hk => absurd hk (Nat.not_lt_zero k)⟩, hW2, ⟨fun T hT => ?_, ?_⟩, ?_⟩
      · by_cases e : T = T'
        · rw [e, upf_s, upf_s, upf_s]
          exact ⟨v4, fun q => (by cases q), v1.2⟩
        · rw [upf_n e, upf_n e, upf_n e]
          exact (EVv_w a3 v2').1 T hT
      · rw [upf_n (by omega)]
        exact a3.2.1
      · rw [upf_n (by omega)] at hk
        rw [upf_n (by omega)]
        exact (EVv_w a3 v2').2.2 k hk
      · rw [fc 1 (by decide)]
        exact s2
      · unfold WCc at *
        rw [fc 3 (by decide), f2.2.2.2.2 4 (by decide) (by decide)]
        exact hW1
      · refine ⟨?_, ?_⟩
        · by_cases e : T = T'
          · subst e
            rw [upf_s, upf_s]
            exact Gr_fr hG1 (fun g q1 q2 => fc g (by omega))
          · rw [upf_n e, upf_n e]
            have hgT2 := gH_e T hT
            exact Gr_fr (c3.1 T hT).1 (fun g q1 q2 => fcI g (by omega) (by omega) (by omega) (by omega) (by omega) (by omega) (by omega) (by omega) (by omega) (by omega))
        · rw [fc 59 (by decide)]
          exact h59 T hT
      · rw [upf_n (by omega), upf_n (by omega)]
        refine Gr_fr c3.2 (fun g q1 q2 => ?_)
        rw [gH12] at q1 q2
        exact fcI g (by omega) (by omega) (by omega) (by omega) (by omega) (by omega) (by omega) (by omega) (by omega) (by omega)
      · rw [fc 64 (by decide), h64, c4 c hc, nI_add]
        have e := WT_upd (sn := sn) (S := S) (T := T') (n' := zN z) (Y := zS z) (c := c) (by omega)
        rw [(a3.1 T' hT).2.1 hF.2.1, show gsum (S T') c 0 = 0 from rfl, Nat.add_zero] at e
        rw [e]
      · rw [nt_upd hT12]
        exact BNc_fr c5 (fcI 65 (by decide) (by decide) (by decide) (by decide) (by decide) (by decide) (by decide) (by decide) (by decide) (by omega))
      · rw [fc 0 (by decide), s1]
        exact fun q => absurd q (by decide)
      · exact PIc_fr c7 (fcI 73 (by decide) (by decide) (by decide) (by decide) (by decide) (by decide) (by decide) (by decide) (by decide) (by omega)) (fcI 74 (by decide) (by decide) (by decide) (by decide) (by decide) (by decide) (by decide) (by decide) (by decide) (by omega))
      · exact s3
      · refine ⟨h98 T hT, fun ht => ?_⟩
        by_cases e : T = T'
        · subst e
          rw [upf_s, upf_s]
          exact hG2
        · rw [upf_n e] at ht
          rw [upf_n e, upf_n e]
          obtain ⟨g1, g2⟩ := (m3.1 T hT).2 ht
          have h40 := (a3.1 T hT).1
          refine ⟨by rw [f2.2.2.1 T e]; exact g1, fun k hk => ?_⟩
          have hout : 100 * T + k < 100 * T' ∨ 100 * T' + 100 ≤ 100 * T + k := by omega
          rw [f2.2.2.2.1 100 _ (by decide) (by decide) hout, f2.2.2.2.1 101 _ (by decide) (by decide) hout, f2.2.2.2.1 102 _ (by decide) (by decide) hout, f2.2.2.2.1 103 _ (by decide) (by decide) hout, f2.2.2.2.1 104 _ (by decide) (by decide) hout]
          exact g2 k hk
      · rw [upf_n (by omega), upf_n (by omega)]
        exact Sm_fr m3.2 (f2.2.1 3 (by decide) (by decide) (by decide)) (fun g q1 q2 => f2.1 g (by omega) (by omega) (by omega) (by omega) (by omega))
      · unfold PIm at *
        rw [f2.2.1 33 (by decide) (by decide) (by decide), f2.2.1 32 (by decide) (by decide) (by decide), f2.1 121 (by decide) (by decide) (by decide) (by decide) (by decide)]
        exact m4
theorem st_back (hi : i + 6 ≤ L) (hL : L ≤ 3072) (G : LawG L xs i P) (hA : AVv n b w v th sn S kp) (hC : CL n b w v th sn S kp I J) (hM : MO n b w v th sn S kp I J) : am_To (am_XX L xs) 40 147 222 [some (.ref 1000), some (.ref 0), some (.ref 95), some (.int (nI i))] [] I J P := by
  have hA' := hA
  obtain ⟨a1, a2, a3, a4⟩ := hA
  refine bk_147_222 _ I J (x_i (i + 1) (nI_1 i) ?_)
  refine back_C a3 a2.1 hC.2.2.1 (fun z => ?_) (fun T hT ht eT I1 f1 s1 s2 s3 s4 => ?_)
  · refine bk_147_231 _ _ I J (x_i (i + 1) (nI_1 i) (back_M hM.2.2.1 (fun _ => bk_147_240 _ _ _ I J (i_t rfl ?_)) (fun T hT ht e => absurd e (z T hT ht))))
    rw [show nI i + (6 : Int32) = nI (i + 6) from e_i i 6]
    exact G _ _ _ _ _ _ _ _ I J hA' hC hM
  · have hgT := gH_e T hT
    have hM1 : MO n b w v th sn S kp I1 J := MO_fc hM (fun g hg => ⟨f1 g (by omega) (by omega) (by omega) (by omega), rfl⟩)
    refine bk_147_231 _ _ I1 J (x_i (i + 1) (nI_1 i) (back_M hM1.2.2.1 (fun z => absurd eT (z T hT ht)) (fun T' hT' ht' eT' => bk_147_240 _ _ _ _ J (i_t rfl ?_))))
    have eTT : T' = T := (nI_eq (by omega) (by omega)).mp (eT'.symm.trans eT)
    subst eTT
    rw [show nI i + (6 : Int32) = nI (i + 6) from e_i i 6]
    obtain ⟨c1, c2, c3, c4, c5, c6, c7⟩ := hC
    obtain ⟨m1, m2, m3, m4⟩ := hM1
    have fc : ∀ g, g < 95 → am_up I1 98 T' 0 g = I1 g := fun g hg => am_up_row (by omega)
    have fcI : ∀ g, g < 95 → g ≠ 0 → g ≠ 59 → g ≠ 64 → g ≠ gH T' → am_up I1 98 T' 0 g = I g := fun g hg b0 b59 b64 bT => by
      rw [fc g hg]
      exact f1 g b0 b59 b64 bT
    have esn : upf S T' (S T') = S := upf_id
    have hsn12 : upf sn T' 0 12 = sn 12 := upf_n (by omega)
    refine G n b w v (upf th T' false) (upf sn T' 0) S kp _ J ⟨a1, a2, ⟨fun T hT => ?_, ?_, fun k hk => ?_⟩, a4⟩ ⟨?_, ?_, ⟨fun T hT => ?_, ?_⟩, fun c hc => ?_, ?_, ?_, ?_⟩ ⟨?_, ?_, ⟨fun T hT => ?_, ?_⟩, ?_⟩
    · by_cases e : T = T'
      · rw [e, upf_s, upf_s]
        exact ⟨by omega, fun _ => rfl, fun k hk => absurd hk (Nat.not_lt_zero k)⟩
      · rw [upf_n e, upf_n e]
        exact a3.1 T hT
    · rw [hsn12]
      exact a3.2.1
    · rw [hsn12] at hk
      exact a3.2.2 k hk
    · unfold TPc at *
      rw [fcI 1 (by decide) (by decide) (by decide) (by decide) (by omega), fcI 2 (by decide) (by decide) (by decide) (by decide) (by omega)]
      exact c1
    · unfold WCc at *
      rw [fcI 3 (by decide) (by decide) (by decide) (by decide) (by omega)]
      exact c2
    · refine ⟨?_, ?_⟩
      · by_cases e : T = T'
        · subst e
          rw [upf_s]
          exact ⟨by rw [fc _ (by omega)]; exact s3, fun k hk => absurd hk (Nat.not_lt_zero k)⟩
        · rw [upf_n e]
          have hgT2 := gH_e T hT
          exact Gr_fr (c3.1 T hT).1 (fun g q1 q2 => fcI g (by omega) (by omega) (by omega) (by omega) (by omega))
      · rw [fc 59 (by decide), s2]
        by_cases e : T = T'
        · rw [e, if_pos rfl, upf_s]
          rfl
        · rw [if_neg e, upf_n e]
          exact (c3.1 T hT).2
    · rw [hsn12]
      refine Gr_fr c3.2 (fun g q1 q2 => ?_)
      rw [gH12] at q1 q2
      exact fcI g (by omega) (by omega) (by omega) (by omega) (by omega)
    · rw [fc 64 (by decide), s4, c4 c hc]
      have e := WT_upd (sn := sn) (S := S) (T := T') (n' := 0) (Y := S T') (c := c) (by omega)
      rw [esn, show gsum (S T') c 0 = 0 from rfl, Nat.add_zero] at e
      rw [show nI (WT sn S c) + (-1 : Int32) * nI (gsum (S T') c (sn T')) = nI (WT sn S c) - nI (gsum (S T') c (sn T')) by
        rw [Int32.neg_mul, Int32.one_mul, Int32.sub_eq_add_neg], pk_sub (by omega)]
      congr 1
      omega
    · have e : nt (upf sn T' 0) S = nt sn S := by
        unfold nt
        rw [hsn12]
      rw [e]
      exact BNc_fr c5 (fcI 65 (by decide) (by decide) (by decide) (by decide) (by omega))
    · rw [fc 0 (by decide), s1]
      exact fun q => absurd q (by decide)
    · exact PIc_fr c7 (fcI 73 (by decide) (by decide) (by decide) (by decide) (by omega)) (fcI 74 (by decide) (by decide) (by decide) (by decide) (by omega))
    · unfold TPm at *
      rw [am_up_row (by decide), am_up_row (by decide)]
      exact m1
    · unfold WCm at *
      rw [am_up_row (by decide)]
      exact m2
    · by_cases e : T = T'
      · rw [e, am_up_s, upf_s]
        exact ⟨rfl, fun q => by cases q⟩
      · rw [am_up_k e, upf_n e, upf_n e]
        exact ⟨(m3.1 T hT).1, fun ht => Gm_fr ((m3.1 T hT).2 ht) (fun g q1 q2 => am_up_row (by omega))⟩
    · rw [hsn12]
      exact Sm_fr m3.2 (am_up_h (by decide)) (fun g q1 q2 => am_up_row (by omega))
    · unfold PIm at *
      rw [am_up_row (by decide), am_up_row (by decide)]
      exact m4
theorem st_word (hi : i + 6 ≤ L) (hL : L ≤ 3072) (G : LawG L xs i P) (hA : AVv n b w v th sn S kp) (hC : CL n b w v th sn S kp I J) (hM : MO n b w v th sn S kp I J) : am_To (am_XX L xs) 40 147 268 [some (.ref 1000), some (.ref 0), some (.ref 95), some (.int (nI i))] [] I J P := by
  have hA' := hA
  obtain ⟨a1, a2, a3, a4⟩ := hA
  have hn200 := a1.1
  refine bk_147_268 _ I J (x_i (i + 1) (nI_1 i) ?_)
  -- the tape emptied, the words as they are then
  have fin : ∀ (w' : Nat) (v' : Nat → Nat) (I1 I2 : am_I) (J1 J2 : am_J), WV w' v' → w ≤ w' → (∀ g, g ≠ 1 → g ≠ 3 → I1 g = I g) → I1 1 1 = 0 → (∀ g, g ≠ 4 → J1 g = J g) → WCc w' v' I1 J1 → (∀ g, g ≠ 95 → I2 g = I1 g) → I2 95 1 = 0 → (∀ k, k ≠ 1 → k ≠ 2 → I2 95 k = I1 95 k) → (∀ g, g ≠ 97 → J2 g = J1 g) → WCm w' v' I2 J2 → am_To (am_XX L xs) 40 147 18 [some (.ref 1000), some (.ref 0), some (.ref 95), some (.int (nI (i + 6)))] [] I2 J2 P := fun w' v' I1 I2 J1 J2 hV hle f1 s1 j1 hW1 f2 s2 f3 j2 hW2 => by
    obtain ⟨c1, c2, c3, c4, c5, c6, c7⟩ := hC
    obtain ⟨m1, m2, m3, m4⟩ := hM
    have f12 : ∀ g, g ≠ 1 → g ≠ 3 → g ≠ 95 → I2 g = I g := fun g b1 b3 b95 => by
      rw [f2 g b95]
      exact f1 g b1 b3
    have f95 : ∀ k, k ≠ 1 → k ≠ 2 → I2 95 k = I 95 k := fun k b1 b2 => by
      rw [f3 k b1 b2, f1 95 (by decide) (by decide)]
    refine G 0 b w' v' th sn S kp I2 J2 ⟨⟨Nat.zero_le _, fun k hk => absurd hk (Nat.not_lt_zero k)⟩, hV, EVv_w a3 hle, KPv_w a4 hle⟩ ⟨⟨?_, fun k hk => absurd hk (Nat.not_lt_zero k)⟩, ?_, EVc_fr c3 (fun g q1 q2 => f12 g (by omega) (by omega) (by omega)), ?_, BNc_fr c5 (f12 65 (by decide) (by decide) (by decide)), ?_, PIc_fr c7 (f12 73 (by decide) (by decide) (by decide)) (f12 74 (by decide) (by decide) (by decide))⟩ ⟨⟨s2, fun k hk => absurd hk (Nat.not_lt_zero k)⟩, hW2, EVm_fr m3 (f95 3 (by decide) (by decide)) (fun g q1 q2 => f12 g (by omega) (by omega) (by omega)), ?_⟩
    · rw [f2 1 (by decide)]
      exact s1
    · unfold WCc at *
      rw [f2 3 (by decide), j2 4 (by decide)]
      exact hW1
    · rw [f12 64 (by decide) (by decide) (by decide)]
      exact c4
    · rw [f12 0 (by decide) (by decide) (by decide)]
      exact fun q => TFc_fr (c6 q) (fun g q1 q2 => f12 g (by omega) (by omega) (by omega))
    · unfold PIm at *
      rw [f95 33 (by decide) (by decide), f95 32 (by decide) (by decide), f12 121 (by decide) (by decide) (by decide)]
      exact m4
  refine word_C a1 hC.1 a2 hC.2.1 (fun z => ?_) (fun j hj ej hw I1 J1 f1 s1 j1 hW1 => ?_) (fun j hj ej hw => ?_)
  · refine bk_147_277 _ _ I J (x_i (i + 1) (nI_1 i) (word_M a1 hM.1 a2 hM.2.1 (fun _ => bk_147_286 _ _ _ I J (i_t rfl ?_)) (fun j hj ej => absurd ej (z j hj)) (fun j hj ej => absurd ej (z j hj))))
    rw [show nI i + (6 : Int32) = nI (i + 6) from e_i i 6]
    exact G _ _ _ _ _ _ _ _ I J hA' hC hM
  · have hM1 : MO n b w v th sn S kp I1 J1 := MO_fc hM (fun g hg => ⟨f1 g (by omega) (by omega), j1 g (by omega)⟩)
    have hb := br_ok a2 (Nat.pos_of_ne_zero hw.2.2.2.1) (wp_63 hw.2.1 hw.2.2.1)
    refine bk_147_277 _ _ I1 J1 (x_i (i + 1) (nI_1 i) (word_M a1 hM1.1 a2 hM1.2.1 (fun z => absurd ej (z j hj)) (fun j' hj' ej' hw' I2 J2 f2 s2 f3 j2 hW2 => ?_) (fun j' hj' ej' hw' => ?_)))
    · have ejj : j' = j := (nI_eq (by omega) (by omega)).mp (ej'.symm.trans ej)
      subst ejj
      refine bk_147_286 _ _ _ I2 J2 (i_t rfl ?_)
      rw [show nI i + (6 : Int32) = nI (i + 6) from e_i i 6]
      exact fin _ _ I1 I2 J1 J2 hb.1 hb.2.1 f1 s1 j1 hW1 f2 s2 f3 j2 hW2
    · have ejj : j' = j := (nI_eq (by omega) (by omega)).mp (ej'.symm.trans ej)
      subst ejj
      exact absurd hw hw'
  · have hM1 : MO n b w v th sn S kp (am_up I 1 1 0) J := MO_fc hM (fun g hg => ⟨am_up_row (by omega), rfl⟩)
    refine bk_147_277 _ _ _ J (x_i (i + 1) (nI_1 i) (word_M a1 hM1.1 a2 hM1.2.1 (fun z => absurd ej (z j hj)) (fun j' hj' ej' hw' => ?_) (fun j' hj' ej' hw' => ?_)))
    · have ejj : j' = j := (nI_eq (by omega) (by omega)).mp (ej'.symm.trans ej)
      subst ejj
      exact absurd hw' hw
    · refine bk_147_286 _ _ _ _ J (i_t rfl ?_)
      rw [show nI i + (6 : Int32) = nI (i + 6) from e_i i 6]
      refine fin w v (am_up I 1 1 0) _ J J a2 (Nat.le_refl w) (fun g b1 _ => am_up_row b1) am_up_s (fun _ _ => rfl) ⟨by rw [am_up_h (by decide)]; exact hC.2.1.1, hC.2.1.2⟩ (fun g b => am_up_row b) am_up_s (fun k b1 _ => am_up_k b1) (fun _ _ => rfl) ⟨by rw [am_up_k (by decide)]; exact hM1.2.1.1, hM1.2.1.2⟩
theorem st_say (hi : i + 6 ≤ L) (hL : L ≤ 3072) (G : LawG L xs i P) (hA : AVv n b w v th sn S kp) (hC : CL n b w v th sn S kp I J) (hM : MO n b w v th sn S kp I J) : am_To (am_XX L xs) 40 147 324 [some (.ref 1000), some (.ref 0), some (.ref 95), some (.int (nI i))] [] I J P := by
  have hA' := hA
  obtain ⟨a1, a2, a3, a4⟩ := hA
  have hw24 := a2.1
  refine bk_147_324 _ I J (x_i (i + 1) (nI_1 i) (x_i (i + 2) (e_i i 2) (x_i (i + 3) (e_i i 3) (x_i (i + 4) (e_i i 4) (x_i (i + 5) (e_i i 5) ?_)))))
  refine say_C a2.1 hC.2.1.1 a3.2.1 hC.2.2.1.2 (fun z => ?_) (fun p k x y q A I1 f1 s1 hG1 h64 h65 => ?_)
  · refine bk_147_353 _ _ I J (x_i (i + 1) (nI_1 i) (x_i (i + 2) (e_i i 2) (x_i (i + 3) (e_i i 3) (x_i (i + 4) (e_i i 4) (x_i (i + 5) (e_i i 5) (say_M a2.1 hM.2.1.1 a3.2.1 hM.2.2.1.2 (fun _ => bk_147_382 _ _ _ I J (i_t rfl ?_)) (fun p k x y q A => absurd A (z p k x y q))))))))
    rw [show nI i + (6 : Int32) = nI (i + 6) from e_i i 6]
    exact G _ _ _ _ _ _ _ _ I J hA' hC hM
  · have hM1 : MO n b w v th sn S kp I1 J := MO_fc hM (fun g hg => ⟨f1 g (by omega) (by omega) (by omega) (by omega), rfl⟩)
    refine bk_147_353 _ _ I1 J (x_i (i + 1) (nI_1 i) (x_i (i + 2) (e_i i 2) (x_i (i + 3) (e_i i 3) (x_i (i + 4) (e_i i 4) (x_i (i + 5) (e_i i 5) (say_M a2.1 hM1.2.1.1 a3.2.1 hM1.2.2.1.2 (fun z => absurd A (z p k x y q)) (fun p' k' x' y' q' A' I2 f2 f3 hS2 => bk_147_382 _ _ _ I2 J (i_t rfl ?_))))))))
    obtain ⟨r1, r2, r3, r4, r5, r6, r7, r8, r9, r10, r11⟩ := A
    obtain ⟨t1, t2, t3, t4, t5, t6, t7, t8, t9, t10, t11⟩ := A'
    have e1 : p' = p := (nI_eq (by omega) (by omega)).mp (t6.symm.trans r6)
    have e2 : k' = k := (nI_eq (by omega) (by omega)).mp (t7.symm.trans r7)
    have e3 : x' = x := (nI_eq (by omega) (by omega)).mp (t8.symm.trans r8)
    have e4 : y' = y := (nI_eq (by omega) (by omega)).mp (t9.symm.trans r9)
    have e5 : q' = q := by
      rcases r10 with ⟨u1, u2⟩ | ⟨u1, u2, u3, u4⟩
      · rcases t10 with ⟨w1, w2⟩ | ⟨w1, w2, w3, w4⟩
        · omega
        · omega
      · rcases t10 with ⟨w1, w2⟩ | ⟨w1, w2, w3, w4⟩
        · omega
        · exact (nI_eq (by omega) (by omega)).mp (w4.symm.trans u4)
    subst e1
    subst e2
    subst e3
    subst e4
    subst e5
    rw [show nI i + (6 : Int32) = nI (i + 6) from e_i i 6]
    obtain ⟨c1, c2, c3, c4, c5, c6, c7⟩ := hC
    obtain ⟨m1, m2, m3, m4⟩ := hM1
    have fc : ∀ g, g < 95 → I2 g = I1 g := fun g hg => f2 g (by omega) (by omega)
    have fcI : ∀ g, g < 95 → g ≠ 0 → g ≠ 64 → g ≠ 65 → (g < 60 ∨ 63 < g) → I2 g = I g := fun g hg b0 b64 b65 br => by
      rw [fc g hg]
      exact f1 g b0 b64 b65 br
    have hq9 : q' ≤ 9 := by
      rcases r10 with u | u
      · omega
      · omega
    -- the rows of sayings
    have hgs : ∀ c, gsum (upf (S 12) (sn 12) (syR p' k' x' y' q')) c (sn 12 + 1) = gsum (S 12) c (sn 12) + (if cl k' x' y' = c then q' else 0) := fun c => by
      rw [gsum_s, upf_s]
      congr 1
      exact fb_sm_cong (fun j hj => by rw [upf_n (by omega)])
    have hWT : ∀ c, WT (upf sn 12 (sn 12 + 1)) (upf S 12 (upf (S 12) (sn 12) (syR p' k' x' y' q'))) c = WT sn S c + (if cl k' x' y' = c then q' else 0) := fun c => by
      have e := WT_upd (sn := sn) (S := S) (T := 12) (n' := sn 12 + 1) (Y := upf (S 12) (sn 12) (syR p' k' x' y' q')) (c := c) (by omega)
      rw [hgs] at e
      omega
    have hnt : ∀ a c, nt (upf sn 12 (sn 12 + 1)) (upf S 12 (upf (S 12) (sn 12) (syR p' k' x' y' q'))) a c ↔ nt sn S a c ∨ (k' = 3 ∧ x' = a ∧ y' = c) := fun a c => by
      unfold nt
      rw [upf_s, upf_s]
      constructor
      · rintro ⟨j, j1, j2, j3, j4⟩
        by_cases e : j = sn 12
        · rw [e, upf_s] at j2 j3 j4
          exact Or.inr ⟨j2, j3, j4⟩
        · rw [upf_n e] at j2 j3 j4
          exact Or.inl ⟨j, by omega, j2, j3, j4⟩
      · rintro (⟨j, j1, j2, j3, j4⟩ | ⟨j2, j3, j4⟩)
        · refine ⟨j, by omega, ?_, ?_, ?_⟩
          · rw [upf_n (by omega)]
            exact j2
          · rw [upf_n (by omega)]
            exact j3
          · rw [upf_n (by omega)]
            exact j4
        · refine ⟨sn 12, by omega, ?_, ?_, ?_⟩
          · rw [upf_s]
            exact j2
          · rw [upf_s]
            exact j3
          · rw [upf_s]
            exact j4
    refine G n b w v th (upf sn 12 (sn 12 + 1)) (upf S 12 (upf (S 12) (sn 12) (syR p' k' x' y' q'))) kp I2 J ⟨a1, a2, ⟨fun T hT => ?_, ?_, fun j hj => ?_⟩, a4⟩ ⟨?_, ?_, ⟨fun T hT => ?_, ?_⟩, fun c hc => ?_, fun j hj => ?_, ?_, ?_⟩ ⟨?_, ?_, ⟨fun T hT => ?_, ?_⟩, ?_⟩
    · rw [upf_n (by omega), upf_n (by omega)]
      exact a3.1 T hT
    · rw [upf_s]
      omega
    · rw [upf_s] at hj
      rw [upf_s]
      by_cases e : j = sn 12
      · rw [e, upf_s]
        exact ⟨r2, r3, r4, r5, hq9, r1⟩
      · rw [upf_n e]
        exact a3.2.2 j (by omega)
    · unfold TPc at *
      rw [fcI 1 (by decide) (by decide) (by decide) (by decide) (by omega), fcI 2 (by decide) (by decide) (by decide) (by decide) (by omega)]
      exact c1
    · unfold WCc at *
      rw [fcI 3 (by decide) (by decide) (by decide) (by decide) (by omega)]
      exact c2
    · rw [upf_n (by omega), upf_n (by omega)]
      have hgT2 := gH_e T hT
      refine ⟨Gr_fr (c3.1 T hT).1 (fun g q1 q2 => fcI g (by omega) (by omega) (by omega) (by omega) (by omega)), ?_⟩
      rw [fcI 59 (by decide) (by decide) (by decide) (by decide) (by omega)]
      exact (c3.1 T hT).2
    · rw [upf_s, upf_s]
      exact Gr_fr hG1 (fun g q1 q2 => fc g (by rw [gH12] at q2; omega))
    · rw [hWT c, fc 64 (by decide)]
      by_cases k3 : k' < 3
      · rw [(h64 k3).2 c]
        by_cases e : c = cl k' x' y'
        · rw [if_pos e, if_pos e.symm, c4 c hc, nI_add]
        · rw [if_neg e, if_neg (fun q => e q.symm), Nat.add_zero]
          exact c4 c hc
      · have q0 : q' = 0 := by
          rcases r10 with u | u
          · exact u.2
          · omega
        rw [(h65 (by omega)).1, q0, show (if cl k' x' y' = c then 0 else 0) = 0 by split <;> rfl, Nat.add_zero]
        exact c4 c hc
    · obtain ⟨u, u1, u2, u3⟩ := c5 j hj
      rw [fc 65 (by decide)]
      by_cases k3 : k' < 3
      · rw [(h64 k3).1]
        refine ⟨u, u1, u2, fun a => ?_⟩
        rw [u3 a, hnt a j]
        exact ⟨Or.inl, fun z => z.elim id (fun z => absurd z.1 (by omega))⟩
      · have k3' : k' = 3 := by omega
        rw [(h65 k3').2 j]
        by_cases e : j = y'
        · rw [if_pos e, u2, one_shl (by omega), fa_or]
          refine ⟨u ||| 2 ^ x', Nat.or_lt_two_pow u1 (Nat.pow_lt_pow_right (by decide) (by omega)), rfl, fun a => ?_⟩
          rw [fb_bit_set, Bool.or_eq_true, decide_eq_true_iff, u3 a, hnt a j]
          constructor
          · rintro (z | z)
            · exact Or.inl z
            · exact Or.inr ⟨k3', z.symm, e.symm⟩
          · rintro (z | ⟨-, z, -⟩)
            · exact Or.inl z
            · exact Or.inr z.symm
        · rw [if_neg e]
          refine ⟨u, u1, u2, fun a => ?_⟩
          rw [u3 a, hnt a j]
          exact ⟨Or.inl, fun z => z.elim id (fun z => absurd z.2.2.symm e)⟩
    · rw [fc 0 (by decide), s1]
      exact fun q => absurd q (by decide)
    · exact PIc_fr c7 (fcI 73 (by decide) (by decide) (by decide) (by decide) (by omega)) (fcI 74 (by decide) (by decide) (by decide) (by decide) (by omega))
    · unfold TPm at *
      rw [f3 1 (by decide), f2 96 (by decide) (by decide)]
      exact m1
    · unfold WCm at *
      rw [f3 2 (by decide)]
      exact m2
    · rw [upf_n (by omega), upf_n (by omega)]
      refine ⟨?_, fun ht => Gm_fr ((m3.1 T hT).2 ht) (fun g q1 q2 => f2 g (by omega) (by omega))⟩
      rw [f2 98 (by decide) (by decide)]
      exact (m3.1 T hT).1
    · rw [upf_s, upf_s]
      exact hS2
    · unfold PIm at *
      rw [f3 33 (by decide), f3 32 (by decide), f2 121 (by decide) (by decide)]
      exact m4
theorem st_keep (G : LawG L xs i P) (hA : AVv n b w v th sn S kp) (hC : CL n b w v th sn S kp I J) (hM : MO n b w v th sn S kp I J) : am_To (am_XX L xs) 40 147 773 [some (.ref 1000), some (.ref 0), some (.ref 95), some (.int (nI i))] [] I J P := by
  have hw := hA.2.1.1
  refine bk_147_773 _ I J (keep_C hA hC (fun I1 m o hS hf hC1 => bk_147_777 _ _ I1 J (keep_M hA (MO_fc hM hf) hS (fun I2 hf2 hM2 => bk_147_781 _ _ _ I2 J (i_t rfl ?_)))))
  rw [show nI i + (6 : Int32) = nI (i + 6) from e_i i 6]
  have hv := trr_v (NT := nt sn S) (WT_v hA.2.2.1 hw) hS m (Nat.le_refl m)
  refine G _ _ _ _ _ _ _ _ I2 J ⟨hA.1, hA.2.1, hA.2.2.1, fun p hp y x q => ?_⟩ (CL_fm hC1 hf2) hM2
  cases hp
  have h1 := tr_w hA hS q
  refine ⟨h1.1, h1.2, fun e => ?_⟩
  have := ((hv.1.1 y x q).2.2 y).mpr (Or.inl e.symm)
  rw [hv.1.2.2.1 y] at this
  cases this
end
