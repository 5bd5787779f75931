/-! SIGNS: what a text comes to, as a function; takeSign, findSigns of both -/
def fK (f : Nat) : Nat := ([0, 0, 0, 1, 2] : List Nat).getD f 0
def fG (f : Nat) : Nat := ([2, 2, 3, 1, 1] : List Nat).getD f 0
def fU (f : Nat) : Nat := ([0, 1, 1, 0, 0] : List Nat).getD f 0
theorem s456_e : ∀ f, f < 5 → am_s4 f = nI (fK f) ∧ am_s5 f = nI (fG f) ∧ am_s6 f = nI (fU f)
  | 0, _ => ⟨rfl, rfl, rfl⟩
  | 1, _ => ⟨rfl, rfl, rfl⟩
  | 2, _ => ⟨rfl, rfl, rfl⟩
  | 3, _ => ⟨rfl, rfl, rfl⟩
  | 4, _ => ⟨rfl, rfl, rfl⟩
  | _ + 5, h => absurd h (by omega)
theorem fKGU : ∀ f, f < 5 → fK f ≤ 2 ∧ fG f ≤ 3 ∧ (fU f = 0 ∨ fU f = 1) := by decide
/-- a sign's row: kind, x, y, weight, place -/
def sgR (f x y p : Nat) : Nat → Nat := fun k => match k with
  | 0 => fK f
  | 1 => if fU f = 1 then y else x
  | 2 => if fU f = 1 then x else y
  | 3 => fG f
  | 4 => p
  | _ => 0
/-- words and signs so far -/
abbrev ZZ : Type := Nat × (Nat → Nat) × Nat × (Nat → Nat → Nat)
def zW (z : ZZ) : Nat := z.1
def zV (z : ZZ) : Nat → Nat := z.2.1
def zN (z : ZZ) : Nat := z.2.2.1
def zS (z : ZZ) : Nat → Nat → Nat := z.2.2.2
def sg3 (s : SC) (t f : Nat) (z : ZZ) (x w1 : Nat) (v1 : Nat → Nat) : ZZ := match br_r w1 v1 (sP s (t + 1 + fL f)) with
  | none => (w1, v1, zN z, zS z)
  | some y => (br_w w1 v1 (sP s (t + 1 + fL f)), br_v w1 v1 (sP s (t + 1 + fL f)), zN z + 1, upf (zS z) (zN z) (sgR f x y (sL s t)))
def sg2 (s : SC) (t f : Nat) (z : ZZ) : ZZ := match br_r (zW z) (zV z) (sP s t) with
  | none => z
  | some x => sg3 s t f z x (br_w (zW z) (zV z) (sP s t)) (br_v (zW z) (zV z) (sP s t))
noncomputable def sg1 (s : SC) (t f : Nat) (z : ZZ) : ZZ := @ite ZZ (okS s t f) (Classical.propDecidable _) (sg2 s t f z) z
noncomputable def sgF (s : SC) (t : Nat) : Nat → ZZ → ZZ
  | 0, z => z
  | f + 1, z => sg1 s t f (sgF s t f z)
noncomputable def sgT (s : SC) : Nat → ZZ → ZZ
  | 0, z => z
  | t + 1, z => @ite ZZ (mb (sP s t)) (Classical.propDecidable _) (sgF s t 5 (sgT s t z)) (sgT s t z)
theorem sg1_p {s : SC} {t f : Nat} {z : ZZ} (h : okS s t f) : sg1 s t f z = sg2 s t f z := if_pos h
theorem sg1_n {s : SC} {t f : Nat} {z : ZZ} (h : ¬ okS s t f) : sg1 s t f z = z := if_neg h
theorem sgT_p {s : SC} {t : Nat} {z : ZZ} (h : mb (sP s t)) : sgT s (t + 1) z = sgF s t 5 (sgT s t z) := if_pos h
theorem sgT_n {s : SC} {t : Nat} {z : ZZ} (h : ¬ mb (sP s t)) : sgT s (t + 1) z = sgT s t z := if_neg h
theorem br_none {w : Nat} {v : Nat → Nat} {p : Nat} (h : br_r w v p = none) : br_w w v p = w ∧ br_v w v p = v := by
  unfold br_r at h
  unfold br_w br_v
  cases hf : wf v p 0 w with
  | some k =>
    rw [hf] at h
    cases h
  | none =>
    rw [hf] at h
    dsimp only at h ⊢
    by_cases c : w < 24
    · rw [if_pos c] at h
      cases h
    · rw [if_neg c, if_neg c]
      exact ⟨rfl, rfl⟩
theorem br_some {w : Nat} {v : Nat → Nat} {p k : Nat} (h : br_r w v p = some k) : k < br_w w v p ∧ br_v w v p k = p := by
  unfold br_r at h
  unfold br_w br_v
  cases hf : wf v p 0 w with
  | some j =>
    rw [hf] at h
    cases h
    obtain ⟨h1, h2, h3⟩ := wf_some _ _ hf
    exact ⟨by show k < w; omega, h3⟩
  | none =>
    rw [hf] at h
    dsimp only at h ⊢
    by_cases c : w < 24
    · rw [if_pos c] at h
      cases h
      rw [if_pos c, if_pos c, if_pos rfl]
      exact ⟨by omega, rfl⟩
    · rw [if_neg c] at h
      cases h
theorem br_keep {w : Nat} {v : Nat → Nat} {p : Nat} : w ≤ br_w w v p ∧ ∀ i, i < w → br_v w v p i = v i := by
  unfold br_w br_v
  cases hf : wf v p 0 w with
  | some j => exact ⟨Nat.le_refl w, fun _ _ => rfl⟩
  | none =>
    dsimp only
    by_cases c : w < 24
    · rw [if_pos c, if_pos c]
      exact ⟨by omega, fun i hi => if_neg (by omega)⟩
    · rw [if_neg c, if_neg c]
      exact ⟨Nat.le_refl w, fun _ _ => rfl⟩
/-- a link's row that may be: kind, words, weight -/
def sgV (w : Nat) (r : Nat → Nat) : Prop := r 0 ≤ 2 ∧ r 1 < w ∧ r 2 < w ∧ r 1 ≠ r 2 ∧ r 3 ≤ 9
def SGv (z : ZZ) : Prop := WV (zW z) (zV z) ∧ ∀ k, k < zN z → sgV (zW z) (zS z k)
theorem sgV_w {w w' : Nat} {r : Nat → Nat} (h : sgV w r) (hw : w ≤ w') : sgV w' r := ⟨h.1, by have := h.2.1; omega, by have := h.2.2.1; omega, h.2.2.2⟩
theorem ok_pos {s : SC} {t f : Nat} (hs : TKv s) (hf : f < 5) (hm : mb (sP s t)) (ht : t < sT s) (h : okS s t f) : 0 < sP s t ∧ sP s t < 2 ^ 63 ∧ 0 < sP s (t + 1 + fL f) ∧ sP s (t + 1 + fL f) < 2 ^ 63 := by
  have h1 := pkv_63 (hs.2.1 t ht)
  have h2 := pkv_63 (hs.2.1 _ h.1)
  exact ⟨Nat.pos_of_ne_zero hm.1, h1, Nat.pos_of_ne_zero h.2.2.2.1.1, h2⟩
theorem sg2_v {s : SC} {t f : Nat} {z : ZZ} (hs : TKv s) (hf : f < 5) (hm : mb (sP s t)) (ht : t < sT s) (h : okS s t f) (hz : SGv z) : SGv (sg2 s t f z) ∧ zW z ≤ zW (sg2 s t f z) ∧ (zN (sg2 s t f z) = zN z ∨ zN (sg2 s t f z) = zN z + 1) := by
  obtain ⟨p1, p2, p3, p4⟩ := ok_pos hs hf hm ht h
  unfold sg2
  cases hx : br_r (zW z) (zV z) (sP s t) with
  | none => exact ⟨hz, Nat.le_refl _, Or.inl rfl⟩
  | some x =>
    dsimp only
    obtain ⟨a1, a2, a3⟩ := br_ok hz.1 p1 p2
    obtain ⟨b1, b2⟩ := br_some hx
    generalize hw1 : br_w (zW z) (zV z) (sP s t) = w1 at *
    generalize hv1 : br_v (zW z) (zV z) (sP s t) = v1 at *
    unfold sg3
    cases hy : br_r w1 v1 (sP s (t + 1 + fL f)) with
    | none => exact ⟨⟨a1, fun k hk => sgV_w (hz.2 k hk) a2⟩, a2, Or.inl rfl⟩
    | some y =>
      dsimp only
      obtain ⟨c1, c2, c3⟩ := br_ok a1 p3 p4
      obtain ⟨d1, d2⟩ := br_some hy
      obtain ⟨e1, e2⟩ := br_keep (w := w1) (v := v1) (p := sP s (t + 1 + fL f))
      have hne : x ≠ y := fun e => by
        subst e
        rw [e2 x b1, b2] at d2
        exact h.2.2.1 d2.symm
      have hk3 := fKGU f hf
      refine ⟨⟨c1, fun k hk => ?_⟩, by show zW z ≤ br_w w1 v1 _; omega, Or.inr rfl⟩
      show sgV (br_w w1 v1 _) (upf (zS z) (zN z) (sgR f x y (sL s t)) k)
      have hk' : k < zN z + 1 := hk
      by_cases e : k = zN z
      · rw [e, upf_s]
        refine ⟨hk3.1, ?_, ?_, ?_, by show fG f ≤ 9; omega⟩
        · show (if fU f = 1 then y else x) < _
          split <;> omega
        · show (if fU f = 1 then x else y) < _
          split <;> omega
        · show (if fU f = 1 then y else x) ≠ (if fU f = 1 then x else y)
          split <;> omega
      · rw [upf_n e]
        exact sgV_w (hz.2 k (by omega)) (by omega)
theorem fW_first : ∀ f, f < 5 → ∀ g, g < 5 → fW (fS f + 0) = fW (fS g + 0) → f = g := by decide
theorem fW_256 : ∀ f, f < 5 → 256 ≤ fW (fS f + 0) ∧ ∃ k, k < 10 ∧ fW (fS f + 0) = swd k := by decide
theorem ok_one {s : SC} {t f g : Nat} (hf : f < 5) (hg : g < 5) (h1 : okS s t f) (h2 : okS s t g) : f = g := by
  refine fW_first f hf g hg ?_
  have e1 := (h1.2.2.2.2 0 (by have := fS_11 f hf; omega)).2
  have e2 := (h2.2.2.2.2 0 (by have := fS_11 g hg; omega)).2
  exact e1.symm.trans e2
theorem sgF_v {s : SC} {t : Nat} {z : ZZ} (hs : TKv s) (hm : mb (sP s t)) (ht : t < sT s) (hz : SGv z) : ∀ f, f ≤ 5 → SGv (sgF s t f z) ∧ zW z ≤ zW (sgF s t f z) ∧ (zN (sgF s t f z) = zN z ∨ (zN (sgF s t f z) = zN z + 1 ∧ ∃ g, g < f ∧ okS s t g)) := by
  intro f
  induction f with
  | zero => exact fun _ => ⟨hz, Nat.le_refl _, Or.inl rfl⟩
  | succ f ih =>
    intro hf
    obtain ⟨h1, h2, h3⟩ := ih (by omega)
    show SGv (sg1 s t f (sgF s t f z)) ∧ zW z ≤ zW (sg1 s t f (sgF s t f z)) ∧ (zN (sg1 s t f (sgF s t f z)) = zN z ∨ (zN (sg1 s t f (sgF s t f z)) = zN z + 1 ∧ ∃ g, g < f + 1 ∧ okS s t g))
    by_cases c : okS s t f
    · rw [sg1_p c]
      obtain ⟨k1, k2, k3⟩ := sg2_v hs (by omega) hm ht c h1
      refine ⟨k1, by omega, ?_⟩
      rcases h3 with h3 | ⟨h3, g, hg, hg2⟩
      · rcases k3 with k3 | k3
        · exact Or.inl (by omega)
        · exact Or.inr ⟨by omega, f, by omega, c⟩
      · exact absurd (ok_one (by omega) (by omega) hg2 c) (by omega)
    · rw [sg1_n c]
      refine ⟨h1, h2, ?_⟩
      rcases h3 with h3 | ⟨h3, g, hg, hg2⟩
      · exact Or.inl h3
      · exact Or.inr ⟨h3, g, by omega, hg2⟩
/-- how many signs there can be ahead of a token -/
def Qv (s : SC) (t n : Nat) : Prop := t < sT s → (5 * n ≤ sL s t ∨ (¬ mb (sP s t) ∧ 2 ≤ sN s t ∧ 5 * n ≤ sL s t + 3))
theorem sgT_v {s : SC} {z : ZZ} (hs : TKv s) (hz : SGv z) (h0 : zN z = 0) : ∀ t, t ≤ sT s → SGv (sgT s t z) ∧ zW z ≤ zW (sgT s t z) ∧ Qv s t (zN (sgT s t z)) ∧ zN (sgT s t z) ≤ 40 := by
  intro t
  induction t with
  | zero => exact fun _ => ⟨hz, Nat.le_refl _, fun _ => Or.inl (by show 5 * zN z ≤ _; omega), by show zN z ≤ 40; omega⟩
  | succ t ih =>
    intro ht
    obtain ⟨h1, h2, h3, h4⟩ := ih (by omega)
    have h3' := h3 (by omega)
    have hp1 := (hs.2.1 t (by omega)).1
    have h200 := hs.2.2.2 t (by omega)
    by_cases hm : mb (sP s t)
    · rw [sgT_p hm]
      obtain ⟨k1, k2, k3⟩ := sgF_v hs hm (by omega) h1 5 (Nat.le_refl 5)
      have h5 : 5 * zN (sgT s t z) ≤ sL s t := by
        rcases h3' with q | q
        · exact q
        · exact absurd hm q.1
      refine ⟨k1, by omega, fun ht2 => ?_, ?_⟩
      · have hsp := hs.2.2.1 t ht2
        rcases k3 with k3 | ⟨k3, g, hg, hg2⟩
        · exact Or.inl (by omega)
        · refine Or.inr ?_
          obtain ⟨e1, k, hk, e2⟩ := fW_256 g hg
          have e3 := (hg2.2.2.2.2 0 (by have := fS_11 g hg; omega)).2
          rw [Nat.add_zero (t + 1)] at e3
          refine ⟨fun q => q.2 k hk (by rw [e3, e2]), pkv_2 (hs.2.1 (t + 1) ht2) (by omega), by omega⟩
      · rcases k3 with k3 | ⟨k3, g, hg, hg2⟩
        · omega
        · omega
    · rw [sgT_n hm]
      refine ⟨h1, h2, fun ht2 => Or.inl ?_, h4⟩
      have hsp := hs.2.2.1 t ht2
      rcases h3' with q | q
      · omega
      · omega
/-- room for one more -/
theorem sg_room {s : SC} {z : ZZ} (hs : TKv s) (hz : SGv z) (h0 : zN z = 0) {t f : Nat} (ht : t < sT s) (hf : f < 5) (hm : mb (sP s t)) (h : okS s t f) : zN (sgF s t f (sgT s t z)) < 40 := by
  obtain ⟨h1, h2, h3, h4⟩ := sgT_v hs hz h0 t (by omega)
  obtain ⟨k1, k2, k3⟩ := sgF_v hs hm ht h1 f (by omega)
  have hp1 := (hs.2.1 t (by omega)).1
  have h200 := hs.2.2.2 t (by omega)
  rcases k3 with k3 | ⟨k3, g, hg, hg2⟩
  · rcases h3 ht with q | q
    · omega
    · exact absurd hm q.1
  · exact absurd (ok_one (by omega) hf hg2 h) (by omega)
/-- the class's rows of one source -/
def Gr (T n : Nat) (S : Nat → Nat → Nat) (I : am_I) : Prop := I (gH T) 3 = nI n ∧ ∀ k, k < n → I (gA0 T) k = nI (cl (S k 0) (S k 1) (S k 2)) ∧ I (gA1 T) k = nI (S k 3) ∧ I (gA2 T) k = nI (S k 4)
theorem Gr_fr {T n : Nat} {S : Nat → Nat → Nat} {I I' : am_I} (h : Gr T n S I) (hf : ∀ g, gH T ≤ g → g ≤ gH T + 3 → I' g = I g) : Gr T n S I' := by
  unfold Gr gA0 gA1 gA2 at *
  rw [hf (gH T) (by omega) (by omega), hf (gH T + 1) (by omega) (by omega), hf (gH T + 2) (by omega) (by omega), hf (gH T + 3) (by omega) (by omega)]
  exact h
/-- the reference's rows of one text -/
def Gm (T n : Nat) (S : Nat → Nat → Nat) (I : am_I) : Prop := I 99 T = nI n ∧ ∀ k, k < n → I 100 (100 * T + k) = nI (S k 0) ∧ I 101 (100 * T + k) = nI (S k 1) ∧ I 102 (100 * T + k) = nI (S k 2) ∧ I 103 (100 * T + k) = nI (S k 3) ∧ I 104 (100 * T + k) = nI (S k 4)
section
variable {L : Nat} {xs : Nat → Int32} {d : Nat} {P : Option Value → am_I → am_J → Prop} {I : am_I} {J : am_J} {t f n T : Nat} {s : SC} {S : Nat → Nat → Nat} {z : ZZ}
theorem add_c {r : Nat → Nat} (hT : T < 13) (hG : Gr T n S I) (hn : n < gN T) (hg : gN T ≤ 60) (h : ∀ I', (∀ g, g < gH T ∨ gH T + 3 < g → I' g = I g) → Gr T (n + 1) (upf S n r) I' → P none I' J) : am_To (am_XX L xs) (d + 1) 27 0 [some (.ref (gH T)), some (.int (nI (cl (r 0) (r 1) (r 2)))), some (.int (nI (r 3))), some (.int (nI (r 4)))] [] I J P := by
  refine bk_27_0 _ _ _ I J T hT (isfull_c T hT hG.1 (by omega) hg (fun _ => ?_) (fun e => by omega))
  refine bk_27_4 _ _ _ 0 I J T hT (i_t rfl ?_)
  unfold Gr gA0 gA1 gA2 at *
  have e0 : I (gH T) 3 = nI n := hG.1
  refine x_i n e0 (x_i n (by rw [am_up_h (by omega)]; exact e0) (x_i n (by rw [am_up_h (by omega), am_up_h (by omega)]; exact e0) ?_))
  rw [am_up_h (show gH T ≠ gH T + 3 by omega), am_up_h (show gH T ≠ gH T + 2 by omega), am_up_h (show gH T ≠ gH T + 1 by omega), e0, nI_1]
  refine h _ (fun g hg => ?_) ⟨am_up_s, fun k hk => ?_⟩
  · rw [am_up_row (by omega), am_up_row (by omega), am_up_row (by omega), am_up_row (by omega)]
  · rw [am_up_h (show gH T + 1 ≠ gH T by omega), am_up_h (show gH T + 1 ≠ gH T + 3 by omega), am_up_h (show gH T + 1 ≠ gH T + 2 by omega), am_up_h (show gH T + 2 ≠ gH T by omega), am_up_h (show gH T + 2 ≠ gH T + 3 by omega), am_up_h (show gH T + 3 ≠ gH T by omega)]
    by_cases e : k = n
    · subst e
      rw [am_up_s, am_up_s, am_up_s, upf_s]
      exact ⟨rfl, rfl, rfl⟩
    · rw [am_up_k e, am_up_k e, am_up_k e, upf_n e, am_up_h (show gH T + 2 ≠ gH T + 1 by omega), am_up_h (show gH T + 3 ≠ gH T + 2 by omega), am_up_h (show gH T + 3 ≠ gH T + 1 by omega)]
      exact hG.2 k (by omega)
/-- rows that a sign of the class leaves -/
def FrS (T : Nat) (I : am_I) (J : am_J) (I' : am_I) (J' : am_J) : Prop := (∀ g, g ≠ 3 → (g < gH T ∨ gH T + 3 < g) → I' g = I g) ∧ ∀ g, g ≠ 4 → J' g = J g
theorem cutc_fr {I' : am_I} {J' : am_J} (hT : T < 12) (h : CutC s I J) (hf : FrS T I J I' J') : CutC s I' J' := by
  have hg := gH_e T hT
  unfold CutC at *
  rw [hf.1 5 (by decide) (by omega), hf.1 7 (by decide) (by omega), hf.1 8 (by decide) (by omega), hf.2 6 (by decide)]
  exact h
theorem takesign_c (hs : TKv s) (hT : T < 12) (hC : CutC s I J) (hm : mb (sP s t)) (ht : t < sT s) (hf : f < 5) (hok : okS s t f) (hz : SGv z) (h40 : zN z < 40) (hW : WCc (zW z) (zV z) I J) (hG : Gr T (zN z) (zS z) I) (h : ∀ I' J', FrS T I J I' J' → WCc (zW (sg2 s t f z)) (zV (sg2 s t f z)) I' J' → Gr T (zN (sg2 s t f z)) (zS (sg2 s t f z)) I' → P none I' J') : am_To (am_XX L xs) (d + 2) 24 0 [some (.ref 5), some (.int (nI f)), some (.int (nI t)), some (.int (nI (t + 1 + fL f))), some (.ref 3), some (.ref (gH T)), none, none, none, none] [] I J P := by
  obtain ⟨p1, p2, p3, p4⟩ := ok_pos hs hf hm ht hok
  have h100 := hs.1
  have hgT := gH_e T hT
  have hgN : gN T = 40 := by
    unfold gN
    rw [show Nat.beq T 12 = false from (by
      cases hb : Nat.beq T 12 with
      | false => rfl
      | true => exact absurd (Nat.eq_of_beq_eq_true hb) (by omega))]
    rfl
  have hend := hok.1
  obtain ⟨e4, e5, e6⟩ := s456_e f hf
  obtain ⟨k1, k2, k3⟩ := fKGU f hf
  have hw24 := hz.1.1
  unfold sg2 at h
  refine bk_24_0 _ _ _ I J T hT (x_i t rfl ?_)
  have ex : J 6 t = lN (sP s t) := by
    rw [(hC.2 t ht).1]
    unfold cpk
    rw [if_neg (by omega)]
  rw [ex]
  refine bring_c hz.1 hW p2 (fun I1 J1 f1 f2 hW1 => ?_)
  cases hx : br_r (zW z) (zV z) (sP s t) with
  | none =>
    rw [hx] at h
    dsimp only at h
    obtain ⟨q1, q2⟩ := br_none hx
    rw [q1, q2] at hW1
    refine bk_24_11 _ _ _ _ I1 J1 T hT (i_t rfl (bk_24_34 _ _ _ _ I1 J1 T hT (i_t rfl (h I1 J1 ⟨fun g e _ => f1 g e, f2⟩ hW1 (Gr_fr hG (fun g e1 e2 => f1 g (by omega)))))))
  | some x =>
    rw [hx] at h
    dsimp only at h
    obtain ⟨a1, a2, a3⟩ := br_ok hz.1 p1 p2
    obtain ⟨b1, b2⟩ := br_some hx
    have hw1 := a1.1
    generalize br_w (zW z) (zV z) (sP s t) = w1 at *
    generalize br_v (zW z) (zV z) (sP s t) = v1 at *
    refine bk_24_11 _ _ _ _ I1 J1 T hT (i_f (nI_m1 (by omega)) (x_i (t + 1 + fL f) rfl ?_))
    have ey : J1 6 (t + 1 + fL f) = lN (sP s (t + 1 + fL f)) := by
      rw [f2 6 (by decide), (hC.2 _ hend).1]
      unfold cpk
      rw [if_neg (by omega)]
    rw [ey]
    refine bring_c a1 hW1 p4 (fun I2 J2 g1 g2 hW2 => ?_)
    have hfr : FrS T I J I2 J2 := ⟨fun g e _ => (g1 g e).trans (f1 g e), fun g e => (g2 g e).trans (f2 g e)⟩
    have hG2 : Gr T (zN z) (zS z) I2 := Gr_fr hG (fun g e1 e2 => (g1 g (by omega)).trans (f1 g (by omega)))
    unfold sg3 at h
    cases hy : br_r w1 v1 (sP s (t + 1 + fL f)) with
    | none =>
      rw [hy] at h
      obtain ⟨q1, q2⟩ := br_none hy
      rw [q1, q2] at hW2
      exact bk_24_34 _ _ _ _ I2 J2 T hT (i_t rfl (h I2 J2 hfr hW2 hG2))
    | some y =>
      rw [hy] at h
      dsimp only at h
      obtain ⟨c1, c2, c3⟩ := br_ok a1 p3 p4
      obtain ⟨d1, d2⟩ := br_some hy
      have hw2 := c1.1
      -- the sign is added
      have gadd : ∀ u y' : Nat, u = (if fU f = 1 then y else x) → y' = (if fU f = 1 then x else y) → am_To (am_XX L xs) (d + 2) 24 88 [some (.ref 5), some (.int (nI f)), some (.int (nI t)), none, none, some (.ref (gH T)), none, none, none, none] [.int (nI y'), .int (nI u), .int (nI (fK f))] I2 J2 P := fun u y' hu hy' => by
        refine bk_24_88 _ _ _ _ _ I2 J2 T hT (cellof_c rfl rfl rfl (by omega) (by subst hu; split <;> omega) (by subst hy'; split <;> omega) ?_)
        refine bk_24_91 _ _ _ I2 J2 T hT (x_i f rfl (x_i t rfl ?_))
        have e7 : I2 7 t = nI (sL s t) := by
          rw [hfr.1 7 (by decide) (by omega)]
          exact (hC.2 t ht).2.1
        rw [e5, e7]
        have key := add_c (L := L) (xs := xs) (d := d) (J := J2) (r := sgR f x y (sL s t)) (P := fun r I2 J2 => am_To (am_XX L xs) (d + 2) 24 111 [none, none, none, none, none, none, none, none, none, none] (r.toList ++ []) I2 J2 P) (show T < 13 by omega) hG2 (by omega) (by omega) (fun I3 q1 q2 => ?_)
        · rw [hu, hy']
          exact key
        · refine bk_24_111 I3 J2 (h I3 J2 ⟨fun g e1 e2 => (q1 g e2).trans (hfr.1 g e1 e2), hfr.2⟩ ?_ q2)
          show WCc _ _ I3 J2
          exact ⟨by rw [q1 3 (by omega)]; exact hW2.1, hW2.2⟩
      refine bk_24_34 _ _ _ _ I2 J2 T hT (i_f (nI_m1 (by omega)) (x_i f rfl ?_))
      rw [e6]
      rcases k3 with k3 | k3
      · rw [k3] at gadd ⊢
        refine i_f (by decide) (bk_24_57 _ _ _ _ 0 I2 J2 T hT (x_i f rfl (i_t rfl ?_)))
        rw [e4]
        exact bk_24_76 _ _ _ _ _ _ _ I2 J2 T hT (i_t rfl (gadd x y (by rw [if_neg (by decide)]) (by rw [if_neg (by decide)])))
      · rw [k3] at gadd ⊢
        refine i_t rfl (bk_24_57 _ _ _ _ 1 I2 J2 T hT (x_i f rfl (i_f (by decide) ?_)))
        rw [e4]
        exact bk_24_76 _ _ _ _ _ _ _ I2 J2 T hT (i_f (by decide) (gadd y x (by rw [if_pos rfl]) (by rw [if_pos rfl])))
end
