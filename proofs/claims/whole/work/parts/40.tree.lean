/-! THE TREE, link by link: place, bar -/
abbrev TS : Type := (Nat → Option Nat) × (Nat → Nat) × (Nat → Nat) × Nat × Nat
def tP (s : TS) : Nat → Option Nat := s.1
def tA (s : TS) : Nat → Nat := s.2.1
def tB (s : TS) : Nat → Nat := s.2.2.1
def tK (s : TS) : Nat := s.2.2.2.1
def tQ (s : TS) : Nat := s.2.2.2.2
/-- some NOT p, q is brought by x above y -/
def brr (NT : Nat → Nat → Prop) (ab : Nat → Nat) (x y : Nat) : Prop := ∃ p q, NT p q ∧ (p = x ∨ (ab x).testBit p = true) ∧ (q = y ∨ (ab q).testBit y = true)
noncomputable def tb (NT : Nat → Nat → Prop) (s : TS) (e : Nat) : Nat := match tP s (e % 24) with
  | some _ => 2
  | none => if (tA s (e / 24)).testBit (e % 24) = true then 3 else @ite Nat (brr NT (tA s) (e / 24) (e % 24)) (Classical.propDecidable _) 4 0
noncomputable def tstep (W : Nat → Nat) (NT : Nat → Nat → Prop) (s : TS) (e : Nat) : TS := if tb NT s e = 0 then (upf (tP s) (e % 24) (some (e / 24)), jn (tA s) (e / 24) (e % 24), upf (tB s) e 0, tK s + 1, tQ s + W e) else (tP s, tA s, upf (tB s) e (tb NT s e), tK s, tQ s)
noncomputable def trr (W : Nat → Nat) (NT : Nat → Nat → Prop) (o : Nat → Nat) : Nat → TS
  | 0 => (fun _ => none, fun _ => 0, fun _ => 1, 0, 0)
  | n + 1 => tstep W NT (trr W NT o n) (o n)
theorem tb_0 {NT : Nat → Nat → Prop} {s : TS} {e : Nat} (h : tb NT s e = 0) : tP s (e % 24) = none ∧ (tA s (e / 24)).testBit (e % 24) = false ∧ ¬ brr NT (tA s) (e / 24) (e % 24) := by
  unfold tb at h
  cases hp : tP s (e % 24) with
  | some x =>
    rw [hp] at h
    cases h
  | none =>
    rw [hp] at h
    dsimp only at h
    by_cases c : (tA s (e / 24)).testBit (e % 24) = true
    · rw [if_pos c] at h
      cases h
    · rw [if_neg c] at h
      refine ⟨rfl, by simpa using c, fun q => ?_⟩
      rw [if_pos q] at h
      cases h
theorem tb_lt {NT : Nat → Nat → Prop} {s : TS} {e : Nat} : tb NT s e < 5 := by
  unfold tb
  cases tP s (e % 24) with
  | some x => exact (by decide : 2 < 5)
  | none =>
    dsimp only
    split
    · decide
    · split <;> decide
/-- what is known of weights of kind 0 -/
def WV0 (W : Nat → Nat) : Prop := (∀ c, W c < 2 ^ 20) ∧ ∀ x, x < 24 → W (24 * x + x) = 0
def TSv (W : Nat → Nat) (s : TS) : Prop := FV (tP s) (tA s) ∧ (∀ y x, tP s y = some x → 0 < W (24 * x + y)) ∧ tK s = fb_ct (fun y => (tP s y).isSome) 24 ∧ ∀ c, tB s c < 5
theorem tstep_v {W : Nat → Nat} {NT : Nat → Nat → Prop} {s : TS} {e : Nat} (hW : WV0 W) (hs : TSv W s) (he : e < 576) (hp : 0 < W e) : TSv W (tstep W NT s e) := by
  have hxy : e / 24 ≠ e % 24 := fun q => by
    have := hW.2 (e / 24) (by omega)
    rw [show 24 * (e / 24) + e / 24 = e by omega] at this
    omega
  obtain ⟨h1, h2, h3, h4⟩ := hs
  unfold tstep
  by_cases c : tb NT s e = 0
  · rw [if_pos c]
    obtain ⟨c1, c2, c3⟩ := tb_0 c
    refine ⟨fv_join h1 (by omega) (by omega) hxy c1 c2, fun y x q => ?_, ?_, fun k => ?_⟩
    · have q' : upf (tP s) (e % 24) (some (e / 24)) y = some x := q
      by_cases g : y = e % 24
      · rw [g, upf_s] at q'
        cases q'
        rw [g, show 24 * (e / 24) + e % 24 = e by omega]
        exact hp
      · rw [upf_n g] at q'
        exact h2 y x q'
    · show tK s + 1 = fb_ct (fun y => (upf (tP s) (e % 24) (some (e / 24)) y).isSome) 24
      have e1 := fb_ct_upd (fun y => (tP s y).isSome) true (show e % 24 < 24 by omega)
      have e2 : fb_ct (fun y => (upf (tP s) (e % 24) (some (e / 24)) y).isSome) 24 = fb_ct (fun k => if k = e % 24 then true else (tP s k).isSome) 24 := fb_ct_cong (fun k _ => by
        by_cases g : k = e % 24
        · rw [if_pos g, g, upf_s]
          rfl
        · rw [if_neg g, upf_n g])
      rw [e2, h3]
      rw [c1] at e1
      simp only [Option.isSome_none, Bool.false_eq_true, if_false, if_true, Nat.add_zero] at e1
      exact e1.symm
    · show upf (tB s) e 0 k < 5
      by_cases g : k = e
      · rw [g, upf_s]
        decide
      · rw [upf_n g]
        exact h4 k
  · rw [if_neg c]
    refine ⟨h1, h2, h3, fun k => ?_⟩
    show upf (tB s) e (tb NT s e) k < 5
    by_cases g : k = e
    · rw [g, upf_s]
      exact tb_lt
    · rw [upf_n g]
      exact h4 k
theorem trr_v {W : Nat → Nat} {NT : Nat → Nat → Prop} {o : Nat → Nat} {n : Nat} (hW : WV0 W) (hS : Srt W 576 n o) : ∀ m, m ≤ n → TSv W (trr W NT o m) := by
  intro m
  induction m with
  | zero => exact fun _ => ⟨fv_0, fun y x h => (by cases h), (fb_ct_zero.mpr (fun _ _ => rfl)).symm, fun _ => (by decide : 1 < 5)⟩
  | succ m ih =>
    intro hm
    obtain ⟨h1, h2⟩ := hS.2.1 m (by omega)
    exact tstep_v hW (ih (by omega)) h1 h2
/-- the rows of the class's tree -/
def TRr (s : TS) (I : am_I) : Prop := (∀ y, y < 24 → I 69 y = oI (tP s y)) ∧ (∀ i, i < 24 → I 68 i = nI (tA s i)) ∧ (∀ c, c < 576 → I 70 c = nI (tB s c)) ∧ I 66 6 = nI (tK s) ∧ I 66 7 = nI (tQ s)
/-- the rows of the reference's tree -/
def TRm (s : TS) (I : am_I) : Prop := (∀ y, y < 24 → I 115 y = oI (tP s y)) ∧ (∀ c, c < 576 → I 116 c = nI (tB s c)) ∧ I 95 26 = nI (tK s) ∧ I 95 27 = nI (tQ s)
/-- what is barred, as the class holds it -/
def BNc (NT : Nat → Nat → Prop) (I : am_I) : Prop := ∀ i, i < 24 → ∃ u, u < 2 ^ 24 ∧ I 65 i = nI u ∧ ∀ p, u.testBit p = true ↔ NT p i
theorem bn_fun {NT : Nat → Nat → Prop} {I : am_I} (h : BNc NT I) : ∃ bn : Nat → Nat, (∀ i, bn i < 2 ^ 24) ∧ (∀ i, i < 24 → I 65 i = nI (bn i)) ∧ ∀ i p, i < 24 → ((bn i).testBit p = true ↔ NT p i) := by
  have h2 : ∀ i, ∃ u, u < 2 ^ 24 ∧ (i < 24 → I 65 i = nI u ∧ ∀ p, u.testBit p = true ↔ NT p i) := fun i => by
    by_cases c : i < 24
    · obtain ⟨u, q1, q2, q3⟩ := h i c
      exact ⟨u, q1, fun _ => ⟨q2, q3⟩⟩
    · exact ⟨0, by decide, fun q => absurd q c⟩
  obtain ⟨bn, hb⟩ := Classical.axiomOfChoice h2
  exact ⟨bn, fun i => (hb i).1, fun i hi => ((hb i).2 hi).1, fun i p hi => ((hb i).2 hi).2 p⟩
theorem brd_brr {NT : Nat → Nat → Prop} {ab bn : Nat → Nat} {x y : Nat} (hN : ∀ p q, NT p q → q < 24) (hb : ∀ i p, i < 24 → ((bn i).testBit p = true ↔ NT p i)) : brd 24 ab bn x y ↔ brr NT ab x y := by
  constructor
  · rintro ⟨i, hi, h1, p, h2, h3⟩
    exact ⟨p, i, (hb i p hi).mp h2, h3, h1⟩
  · rintro ⟨p, q, h1, h2, h3⟩
    exact ⟨q, hN p q h1, h3, p, (hb q p (hN p q h1)).mpr h1, h2⟩
theorem q_div {e : Nat} (he : e < 576) : nI e / (24 : Int32) = nI (e / 24) := pk_div (d := 24) (by omega) (by decide) (by decide)
theorem q_rem {e : Nat} (he : e < 576) : nI e - nI e / (24 : Int32) * (24 : Int32) = nI (e % 24) := pk_rem (d := 24) (by omega) (by decide) (by decide)
section
variable {L : Nat} {xs : Nat → Int32} {d : Nat} {P : Option Value → am_I → am_J → Prop} {I : am_I} {J : am_J} {W : Nat → Nat} {NT : Nat → Nat → Prop} {s : TS} {e : Nat} {sn : Nat → Nat} {S : Nat → Nat → Nat → Nat} {w : Nat}
theorem oI_m1 {o : Option Nat} (h : ∀ a, o = some a → a < 2 ^ 31) : oI o = -1 ↔ o = none := by
  cases o with
  | none => exact ⟨fun _ => rfl, fun _ => rfl⟩
  | some a => exact ⟨fun q => absurd q (nI_m1 (h a rfl)), fun q => by cases q⟩
theorem place_c (hs : TSv W s) (hW : WV0 W) (hN : ∀ p q, NT p q → q < 24) (hB : BNc NT I) (hT : TRr s I) (he : e < 576) (hp : 0 < W e) (h : ∀ I', (∀ g, g ≠ 66 → g ≠ 68 → g ≠ 69 → g ≠ 70 → I' g = I g) → (∀ k, k ≠ 6 → k ≠ 7 → I' 66 k = I 66 k) → TRr (tstep W NT s e) I' → P none I' J) : am_To (am_XX L xs) (d + 3) 60 0 [some (.ref 66), some (.int (nI e)), some (.int (nI (W e))), some (.ref 65), none, none] [] I J P := by
  obtain ⟨bn, b1, b2, b3⟩ := bn_fun hB
  obtain ⟨t1, t2, t3, t4, t5⟩ := hT
  have hx : e / 24 < 24 := by omega
  have hy : e % 24 < 24 := by omega
  have hF := hs.1
  have hxy : e / 24 ≠ e % 24 := fun q => by
    have := hW.2 (e / 24) hx
    rw [show 24 * (e / 24) + e / 24 = e by omega] at this
    omega
  unfold tstep at h
  -- not placed
  have gn : tb NT s e ≠ 0 → am_To (am_XX L xs) (d + 3) 60 44 [some (.ref 66), some (.int (nI e)), some (.int (nI (W e))), none, some (.int (nI (e / 24))), some (.int (nI (e % 24)))] [.int (nI (tb NT s e)), .int (nI e), .ref 70] I J P := fun c => by
    rw [if_neg c] at h
    have hlt := tb_lt (NT := NT) (s := s) (e := e)
    refine bk_60_44 _ _ _ _ _ _ I J (x_i e rfl (x_i e rfl (i_f ?_ (h _ (fun g q1 q2 q3 q4 => am_up_row q4) (fun k q1 q2 => am_up_h (by decide)) ⟨fun y hy => ?_, fun i hi => ?_, fun k hk => ?_, ?_, ?_⟩))))
    · rw [am_up_s]
      exact nI_ne0 (by omega) (by omega)
    · rw [am_up_h (by decide)]
      exact t1 y hy
    · rw [am_up_h (by decide)]
      exact t2 i hi
    · show _ = nI (upf (tB s) e (tb NT s e) k)
      by_cases g : k = e
      · rw [g, am_up_s, upf_s]
      · rw [am_up_k g, upf_n g]
        exact t3 k hk
    · rw [am_up_h (by decide)]
      exact t4
    · rw [am_up_h (by decide)]
      exact t5
  have gy : tb NT s e = 0 → am_To (am_XX L xs) (d + 3) 60 44 [some (.ref 66), some (.int (nI e)), some (.int (nI (W e))), none, some (.int (nI (e / 24))), some (.int (nI (e % 24)))] [.int 0, .int (nI e), .ref 70] I J P := fun c => by
    rw [if_pos c] at h
    refine bk_60_44 _ _ _ _ _ _ I J (x_i e rfl (x_i e rfl (i_t am_up_s (x_i (e % 24) rfl ?_))))
    refine join_c (t := 7) (ab := tA s) (by decide) (fun i hi => ?_) hF.2.2.2 hx hy (fun I1 f1 f2 => bk_60_74 _ I1 J ?_)
    · show am_up (am_up I 70 _ _) 69 _ _ 68 i = _
      rw [am_up_h (by decide), am_up_h (by decide)]
      exact t2 i hi
    · have f1' : ∀ g, g ≠ 68 → I1 g = am_up (am_up I 70 e 0) 69 (e % 24) (nI (e / 24)) g := f1
      have e66 : ∀ k, I1 66 k = I 66 k := fun k => by
        rw [f1' 66 (by decide), am_up_h (by decide), am_up_h (by decide)]
      rw [e66, t4, nI_1, am_up_k (by decide), e66, t5, nI_add]
      refine h _ (fun g q1 q2 q3 q4 => ?_) (fun k q1 q2 => ?_) ⟨fun y hy => ?_, fun i hi => ?_, fun k hk => ?_, ?_, am_up_s⟩
      · rw [am_up_row q1, am_up_row q1, f1' g q2, am_up_row q3, am_up_row q4]
      · rw [am_up_k q2, am_up_k q1, e66]
      · rw [am_up_h (by decide), am_up_h (by decide), f1' 69 (by decide)]
        show _ = oI (upf (tP s) (e % 24) (some (e / 24)) y)
        by_cases g : y = e % 24
        · rw [g, am_up_s, upf_s]
          rfl
        · rw [am_up_k g, upf_n g, am_up_h (by decide)]
          exact t1 y hy
      · rw [am_up_h (by decide), am_up_h (by decide)]
        exact f2 i hi
      · rw [am_up_h (by decide), am_up_h (by decide), f1' 70 (by decide), am_up_h (by decide)]
        show _ = nI (upf (tB s) e 0 k)
        by_cases g : k = e
        · rw [g, am_up_s, upf_s]
          rfl
        · rw [am_up_k g, upf_n g]
          exact t3 k hk
      · rw [am_up_k (by decide), am_up_s]
        rfl
  refine bk_60_0 _ _ I J ?_
  rw [q_rem he, q_div he]
  refine x_i (e % 24) rfl ?_
  rw [t1 _ hy]
  refine i_c (oI_m1 (fun a q => by have := (hF.1 _ _ q).2.1; omega)) (fun c => ?_) (fun c => ?_)
  · have etb : tb NT s e = if (tA s (e / 24)).testBit (e % 24) = true then 3 else @ite Nat (brr NT (tA s) (e / 24) (e % 24)) (Classical.propDecidable _) 4 0 := by
      unfold tb
      rw [c]
    refine barof_c (t := 7) (ab := tA s) (bn := bn) (by decide) t2 hF.2.2.2 b2 b1 hx hy (fun z => ?_) (fun z z2 => ?_) (fun z z2 => ?_)
    · rw [if_pos z] at etb
      have g := gn (by omega)
      rw [etb] at g
      exact bk_60_40 _ _ _ _ _ _ I J g
    · rw [if_neg (by rw [z]; decide), if_pos ((brd_brr hN b3).mp z2)] at etb
      have g := gn (by omega)
      rw [etb] at g
      exact bk_60_40 _ _ _ _ _ _ I J g
    · rw [if_neg (by rw [z]; decide), if_neg (fun q => z2 ((brd_brr hN b3).mpr q))] at etb
      exact bk_60_40 _ _ _ _ _ _ I J (gy etb)
  · have etb : tb NT s e = 2 := by
      unfold tb
      cases hq : tP s (e % 24) with
      | none => exact absurd hq c
      | some x => rfl
    have g := gn (by omega)
    rw [etb] at g
    exact g
theorem bar_m (hs : TSv W s) (hT : ∀ y, y < 24 → I 115 y = oI (tP s y)) (hw : w ≤ 24) (hsn : sn 12 ≤ 60) (hSy : ∀ k, k < sn 12 → syV w (S 12 k)) (hY : Sm (sn 12) (S 12) I) (he : e < 576) (hxy : e / 24 ≠ e % 24) (h : P (some (.int (nI (tb (nt sn S) s e)))) I J) : am_To (am_XX L xs) (d + 1) 127 0 [some (.ref 95), some (.int (nI (e / 24))), some (.int (nI (e % 24))), none] [] I J P := by
  have hx : e / 24 < 24 := by omega
  have hy : e % 24 < 24 := by omega
  have hF := hs.1
  unfold tb at h
  refine bk_127_0 _ _ I J (x_i (e % 24) rfl ?_)
  rw [hT _ hy]
  refine i_c (oI_m1 (fun a q => by have := (hF.1 _ _ q).2.1; omega)) (fun c => ?_) (fun c => ?_)
  · rw [c] at h
    dsimp only at h
    refine isover_m hF hT hy hx (fun z => ?_) (fun z => ?_)
    · have z2 : (tA s (e / 24)).testBit (e % 24) = true := by
        rcases z with z | z
        · exact absurd z.symm hxy
        · exact z
      rw [if_pos z2] at h
      exact bk_127_18 _ _ 1 I J (i_f (by decide) h)
    · rw [if_neg (fun q => z (Or.inr q))] at h
      refine bk_127_18 _ _ 0 I J (i_t rfl ?_)
      have lp : ∀ (m i : Nat), i + m = sn 12 → (∀ k, k < i → ¬ (S 12 k 0 = 3 ∧ (S 12 k 1 = e / 24 ∨ (tA s (e / 24)).testBit (S 12 k 1) = true) ∧ (e % 24 = S 12 k 2 ∨ (tA s (S 12 k 2)).testBit (e % 24) = true))) → am_To (am_XX L xs) (d + 1) 127 25 [some (.ref 95), some (.int (nI (e / 24))), some (.int (nI (e % 24))), some (.int (nI i))] [] I J P := by
        intro m
        induction m with
        | zero =>
          intro i hi hk
          have ei : i = sn 12 := by omega
          subst ei
          rw [if_neg] at h
          · exact bk_127_25 _ _ _ I J (i_t (by rw [hY.1]; exact nI_le (Nat.le_refl _) (by omega)) h)
          · rintro ⟨p, q, ⟨k, k1, k2, k3, k4⟩, q2, q3⟩
            subst k3
            subst k4
            refine hk k k1 ⟨k2, q2, ?_⟩
            rcases q3 with q3 | q3
            · exact Or.inl q3.symm
            · exact Or.inr q3
        | succ m ih =>
          intro i hi hk
          obtain ⟨s1, s2, s3, s4, s5⟩ := hY.2 i (by omega)
          obtain ⟨v1, v2, v3, v4, v5, v6⟩ := hSy i (by omega)
          have nxt : ¬ (S 12 i 0 = 3 ∧ (S 12 i 1 = e / 24 ∨ (tA s (e / 24)).testBit (S 12 i 1) = true) ∧ (e % 24 = S 12 i 2 ∨ (tA s (S 12 i 2)).testBit (e % 24) = true)) → am_To (am_XX L xs) (d + 1) 127 25 [some (.ref 95), some (.int (nI (e / 24))), some (.int (nI (e % 24))), some (.int (nI i + 1))] [] I J P := fun q => by
            rw [nI_1]
            refine ih (i + 1) (by omega) (fun k hk2 => ?_)
            by_cases g : k = i
            · rw [g]
              exact q
            · exact hk k (by omega)
          refine bk_127_25 _ _ _ I J (i_le (sn 12) i hY.1 rfl (fun z => by omega) (fun _ => x_i i rfl (i_eq _ 3 s2 rfl (fun k3 => x_i i rfl ?_) (fun k3 => nxt (fun q => k3 q.1)))))
          rw [s3]
          refine isover_m hF hT (by omega) hx (fun q => ?_) (fun q => ?_)
          · refine bk_127_54 _ _ _ 1 I J (i_f (by decide) (x_i i rfl ?_))
            rw [s4]
            refine isover_m hF hT hy (by omega) (fun q2 => ?_) (fun q2 => ?_)
            · refine bk_127_68 _ _ _ 1 I J (i_f (by decide) ?_)
              rw [if_pos] at h
              · exact h
              · refine ⟨S 12 i 1, S 12 i 2, ⟨i, by omega, k3, rfl, rfl⟩, q, ?_⟩
                rcases q2 with q2 | q2
                · exact Or.inl q2.symm
                · exact Or.inr q2
            · exact bk_127_68 _ _ _ 0 I J (i_t rfl (nxt (fun q3 => q2 q3.2.2)))
          · exact bk_127_54 _ _ _ 0 I J (i_t rfl (nxt (fun q3 => q q3.2.1)))
      exact lp (sn 12) 0 (by omega) (fun k hk => absurd hk (Nat.not_lt_zero k))
  · cases hq : tP s (e % 24) with
    | none => exact absurd hq c
    | some x =>
      rw [hq] at h
      exact h
end
