/-! THE ORDER OF LINKS: orderLinks, next -/
/-- a goes ahead of b -/
def bf (W : Nat → Nat) (a b : Nat) : Prop := W b < W a ∨ (W a = W b ∧ a < b)
def Srt (W : Nat → Nat) (c n : Nat) (o : Nat → Nat) : Prop := (∀ i j, i < j → j < n → bf W (o i) (o j)) ∧ (∀ i, i < n → o i < c ∧ 0 < W (o i)) ∧ (∀ e, e < c → 0 < W e → ∃ i, i < n ∧ o i = e)
theorem srt_n {W : Nat → Nat} {c n : Nat} {o : Nat → Nat} (h : Srt W c n o) : n ≤ c := by
  have inj : ∀ i j, i < j → j < n → o i ≠ o j := fun i j h1 h2 e => by
    have := h.1 i j h1 h2
    unfold bf at this
    rw [e] at this
    omega
  -- members of a range, none twice
  have key : ∀ (c n : Nat) (o : Nat → Nat), (∀ i, i < n → o i < c) → (∀ i j, i < j → j < n → o i ≠ o j) → n ≤ c := by
    intro c
    induction c with
    | zero =>
      intro n o h1 _
      rcases Nat.eq_zero_or_pos n with z | z
      · omega
      · exact absurd (h1 0 z) (Nat.not_lt_zero _)
    | succ c ih =>
      intro n o h1 h2
      by_cases hc : ∃ i, i < n ∧ o i = c
      · obtain ⟨k, hk, ek⟩ := hc
        have h3 := ih (n - 1) (fun i => if i < k then o i else o (i + 1)) (fun i hi => ?_) (fun i j hij hj => ?_)
        · omega
        · split
          · rename_i q
            have a1 := h1 i (by omega)
            have a2 := h2 i k q hk
            omega
          · rename_i q
            have a1 := h1 (i + 1) (by omega)
            have a2 := h2 k (i + 1) (by omega) (by omega)
            omega
        · split <;> split
          · exact h2 i j hij (by omega)
          · exact h2 i (j + 1) (by omega) (by omega)
          · omega
          · exact h2 (i + 1) (j + 1) (by omega) (by omega)
      · have h3 := ih n o (fun i hi => by
          have a1 := h1 i hi
          have a2 : o i ≠ c := fun e => hc ⟨i, hi, e⟩
          omega) h2
        omega
  exact key c n o (fun i hi => (h.2.1 i hi).1) inj
/-- one more cell is put at its place -/
def osh (o : Nat → Nat) (at' c i : Nat) : Nat := if i < at' then o i else if i = at' then c else o (i - 1)
theorem srt_ins {W : Nat → Nat} {c n a : Nat} {o : Nat → Nat} (h : Srt W c n o) (hc : 0 < W c) (ha : a ≤ n) (h1 : ∀ i, a ≤ i → i < n → W (o i) < W c) (h2 : ∀ i, i < a → W c ≤ W (o i)) : Srt W (c + 1) (n + 1) (osh o a c) := by
  obtain ⟨s1, s2, s3⟩ := h
  refine ⟨fun i j hij hj => ?_, fun i hi => ?_, fun e he hw => ?_⟩
  · unfold osh
    by_cases c1 : i < a
    · rw [if_pos c1]
      by_cases c2 : j < a
      · rw [if_pos c2]
        exact s1 i j hij (by omega)
      · rw [if_neg c2]
        by_cases c3 : j = a
        · rw [if_pos c3]
          have q1 := h2 i c1
          have q2 := (s2 i (by omega)).1
          unfold bf
          omega
        · rw [if_neg c3]
          exact s1 i (j - 1) (by omega) (by omega)
    · rw [if_neg c1, if_neg (show ¬ j < a by omega), if_neg (show ¬ j = a by omega)]
      by_cases c3 : i = a
      · rw [if_pos c3]
        exact Or.inl (h1 (j - 1) (by omega) (by omega))
      · rw [if_neg c3]
        exact s1 (i - 1) (j - 1) (by omega) (by omega)
  · unfold osh
    by_cases c1 : i < a
    · rw [if_pos c1]
      have := s2 i (by omega)
      omega
    · rw [if_neg c1]
      by_cases c3 : i = a
      · rw [if_pos c3]
        omega
      · rw [if_neg c3]
        have := s2 (i - 1) (by omega)
        omega
  · by_cases c1 : e = c
    · refine ⟨a, by omega, ?_⟩
      unfold osh
      rw [if_neg (by omega), if_pos rfl, c1]
    · obtain ⟨i, hi, ei⟩ := s3 e (by omega) hw
      by_cases c2 : i < a
      · refine ⟨i, by omega, ?_⟩
        unfold osh
        rw [if_pos c2, ei]
      · refine ⟨i + 1, by omega, ?_⟩
        unfold osh
        rw [if_neg (by omega), if_neg (by omega), Nat.add_sub_cancel, ei]
theorem srt_skip {W : Nat → Nat} {c n : Nat} {o : Nat → Nat} (h : Srt W c n o) (hc : W c = 0) : Srt W (c + 1) n o := by
  obtain ⟨s1, s2, s3⟩ := h
  refine ⟨s1, fun i hi => ?_, fun e he hw => ?_⟩
  · have := s2 i hi
    omega
  · by_cases c1 : e = c
    · rw [c1] at hw
      omega
    · exact s3 e (by omega) hw
theorem srt_mono {W : Nat → Nat} {c n : Nat} {o : Nat → Nat} (h : Srt W c n o) {i j : Nat} (hij : i < j) (hj : j < n) : W (o j) ≤ W (o i) := by
  have := h.1 i j hij hj
  unfold bf at this
  omega
section
variable {L : Nat} {xs : Nat → Int32} {d : Nat} {P : Option Value → am_I → am_J → Prop} {I : am_I} {J : am_J} {W : Nat → Nat}
theorem order_c (hW : ∀ c, c < 576 → I 64 c = nI (W c)) (hB : ∀ c, W c < 2 ^ 31) (h5 : I 66 5 = 0) (h : ∀ I' n o, Srt W 576 n o → (∀ g, g ≠ 66 → g ≠ 72 → I' g = I g) → (∀ k, k ≠ 5 → I' 66 k = I 66 k) → I' 66 5 = nI n → (∀ i, i < n → I' 72 i = nI (o i)) → P none I' J) : am_To (am_XX L xs) d 59 0 [some (.ref 66), some (.ref 64), none, none] [] I J P := by
  have lp : ∀ (m c n : Nat) (o : Nat → Nat) (I1 : am_I), c + m = 576 → Srt W c n o → (∀ g, g ≠ 66 → g ≠ 72 → I1 g = I g) → (∀ k, k ≠ 5 → I1 66 k = I 66 k) → I1 66 5 = nI n → (∀ i, i < n → I1 72 i = nI (o i)) → am_To (am_XX L xs) d 59 2 [some (.ref 66), some (.ref 64), some (.int (nI c)), none] [] I1 J P := by
    intro m
    induction m with
    | zero =>
      intro c n o I1 hc hS f1 f2 f3 f4
      have e : c = 576 := by omega
      subst e
      exact bk_59_2 _ I1 J (i_t (by decide) (h I1 n o hS f1 f2 f3 f4))
    | succ m ih =>
      intro c n o I1 hc hS f1 f2 f3 f4
      have hn := srt_n hS
      have hW1 : ∀ c, c < 576 → I1 64 c = nI (W c) := fun c hc => by
        rw [f1 64 (by decide) (by decide)]
        exact hW c hc
      have hBc := hB c
      refine bk_59_2 _ I1 J (i_le 576 c rfl rfl (fun z => by omega) (fun _ => x_i c rfl (i_le (W c) 0 (hW1 c (by omega)) rfl (fun z => ?_) (fun z => ?_))))
      · rw [nI_1]
        exact ih (c + 1) n o I1 (by omega) (srt_skip hS (by omega)) f1 f2 f3 f4
      · rw [f3]
        -- the shifting
        have sh : ∀ (a : Nat) (I2 : am_I), a ≤ n → (∀ i, a ≤ i → i < n → W (o i) < W c) → (∀ g, g ≠ 66 → g ≠ 72 → I2 g = I g) → (∀ k, k ≠ 5 → I2 66 k = I 66 k) → I2 66 5 = nI n → (∀ i, i < n + 1 → i ≠ a → I2 72 i = nI (if i < a then o i else o (i - 1))) → am_To (am_XX L xs) d 59 20 [some (.ref 66), some (.ref 64), some (.int (nI c)), some (.int (nI a))] [] I2 J P := by
          intro a
          induction a with
          | zero =>
            intro I2 ha hw g1 g2 g3 g4
            refine bk_59_20 _ _ I2 J (i_t (by decide) (bk_59_60 _ _ I2 J (x_i 0 rfl ?_)))
            rw [am_up_h (by decide), g3, nI_1, nI_1]
            refine ih (c + 1) (n + 1) (osh o 0 c) _ (by omega) (srt_ins hS z (by omega) hw (fun i hi => by omega)) (fun g e1 e2 => ?_) (fun k hk => ?_) am_up_s (fun i hi => ?_)
            · rw [am_up_row e1, am_up_row e2]
              exact g1 g e1 e2
            · rw [am_up_k hk, am_up_h (by decide)]
              exact g2 k hk
            · rw [am_up_h (by decide)]
              unfold osh
              rw [if_neg (by omega)]
              by_cases e : i = 0
              · rw [e, am_up_s, if_pos rfl]
              · rw [am_up_k e, if_neg e, g4 i hi e, if_neg (by omega)]
          | succ a iha =>
            intro I2 ha hw g1 g2 g3 g4
            have hW2 : ∀ c, c < 576 → I2 64 c = nI (W c) := fun c hc => by
              rw [g1 64 (by decide) (by decide)]
              exact hW c hc
            have ho := hS.2.1 a (by omega)
            have hBo := hB (o a)
            have e72 : I2 72 a = nI (o a) := by
              rw [g4 a (by omega) (by omega), if_pos (by omega)]
            refine bk_59_20 _ _ I2 J (i_f (nI_nle (by omega) (by omega)) (x_i a (nI_pred a) (x_i (o a) e72 (x_i c rfl (i_le (W c) (W (o a)) (hW2 c (by omega)) (hW2 (o a) (by omega)) (fun y => ?_) (fun y => ?_))))))
            · refine bk_59_60 _ _ I2 J (x_i (a + 1) rfl ?_)
              rw [am_up_h (by decide), g3, nI_1, nI_1]
              refine ih (c + 1) (n + 1) (osh o (a + 1) c) _ (by omega) (srt_ins hS z (by omega) hw (fun i hi => ?_)) (fun g e1 e2 => ?_) (fun k hk => ?_) am_up_s (fun i hi => ?_)
              · rcases Nat.lt_or_ge i a with q | q
                · have := srt_mono hS q (show a < n by omega)
                  omega
                · have e : i = a := by omega
                  rw [e]
                  exact y
              · rw [am_up_row e1, am_up_row e2]
                exact g1 g e1 e2
              · rw [am_up_k hk, am_up_h (by decide)]
                exact g2 k hk
              · rw [am_up_h (by decide)]
                unfold osh
                by_cases e : i = a + 1
                · rw [e, am_up_s, if_neg (by omega), if_pos rfl]
                · rw [am_up_k e, g4 i hi e, if_neg e]
            · refine x_i a (nI_pred a) (x_i (a + 1) rfl ?_)
              rw [pk_m1, e72]
              refine iha _ (by omega) (fun i hi1 hi2 => ?_) (fun g e1 e2 => ?_) (fun k hk => ?_) ?_ (fun i hi hne => ?_)
              · by_cases e : i = a
                · rw [e]
                  exact y
                · exact hw i (by omega) hi2
              · rw [am_up_row e2]
                exact g1 g e1 e2
              · rw [am_up_h (by decide)]
                exact g2 k hk
              · rw [am_up_h (by decide)]
                exact g3
              · by_cases e : i = a + 1
                · rw [e, am_up_s, if_neg (by omega), Nat.add_sub_cancel]
                · rw [am_up_k e, g4 i hi e]
                  by_cases q : i < a
                  · rw [if_pos q, if_pos (by omega)]
                  · rw [if_neg q, if_neg (by omega)]
        refine sh n I1 (Nat.le_refl n) (fun i h1 h2 => by omega) f1 f2 f3 (fun i hi hne => ?_)
        rw [if_pos (by omega)]
        exact f4 i (by omega)
  exact bk_59_0 I J (lp 576 0 0 (fun _ => 0) I (by omega) ⟨fun i j _ hj => absurd hj (Nat.not_lt_zero j), fun i hi => absurd hi (Nat.not_lt_zero i), fun e he => absurd he (Nat.not_lt_zero e)⟩ (fun _ _ _ => rfl) (fun _ _ => rfl) h5 (fun i hi => absurd hi (Nat.not_lt_zero i)))
/-- the reference's next: the first in order that isn't done -/
theorem next_m {dn : Nat → Prop} (hW : ∀ c, c < 576 → I 113 c = nI (W c)) (hB : ∀ c, W c < 2 ^ 31) (hd : ∀ c, c < 576 → (I 117 c = 0 ↔ ¬ dn c)) (h1 : ∀ e, e < 576 → ¬ dn e → (∀ c, c < 576 → ¬ dn c → c ≠ e → bf W e c) → P (some (.int (nI e))) I J) (h0 : (∀ c, c < 576 → dn c) → P (some (.int (-1))) I J) : am_To (am_XX L xs) d 126 0 [some (.ref 95), none, none] [] I J P := by
  have lp : ∀ (m c : Nat) (b : Option Nat), c + m = 576 → (match b with
      | none => ∀ k, k < c → dn k
      | some e => e < c ∧ ¬ dn e ∧ ∀ k, k < c → ¬ dn k → k ≠ e → bf W e k) → am_To (am_XX L xs) d 126 4 [some (.ref 95), some (.int (oI b)), some (.int (nI c))] [] I J P := by
    intro m
    induction m with
    | zero =>
      intro c b hc hb
      have e : c = 576 := by omega
      subst e
      refine bk_126_4 _ _ I J (i_t (by decide) ?_)
      cases b with
      | none => exact h0 hb
      | some e => exact h1 e hb.1 hb.2.1 hb.2.2
    | succ m ih =>
      intro c b hc hb
      have hBc := hB c
      refine bk_126_4 _ _ I J (i_le 576 c rfl rfl (fun z => by omega) (fun _ => x_i c rfl (i_c (hd c (by omega)) (fun z => ?_) (fun z => ?_))))
      · cases b with
        | none =>
          refine i_t rfl (bk_126_40 _ I J ?_)
          rw [nI_1]
          refine ih (c + 1) (some c) (by omega) ⟨by omega, z, fun k hk hnd hne => ?_⟩
          exact absurd (hb k (by omega)) hnd
        | some e =>
          obtain ⟨b1, b2, b3⟩ := hb
          have hBe := hB e
          refine i_f (nI_m1 (by omega)) (x_i c rfl (x_i e rfl (i_le (W c) (W e) (hW c (by omega)) (hW e (by omega)) (fun y => ?_) (fun y => ?_))))
          · rw [nI_1]
            refine ih (c + 1) (some e) (by omega) ⟨by omega, b2, fun k hk hnd hne => ?_⟩
            by_cases q : k = c
            · rw [q]
              unfold bf
              omega
            · exact b3 k (by omega) hnd hne
          · refine bk_126_40 _ I J ?_
            rw [nI_1]
            refine ih (c + 1) (some c) (by omega) ⟨by omega, z, fun k hk hnd hne => ?_⟩
            by_cases q : k = e
            · rw [q]
              exact Or.inl y
            · have := b3 k (by omega) hnd q
              unfold bf at this ⊢
              omega
      · rw [nI_1]
        have z' := Classical.not_not.mp z
        refine ih (c + 1) b (by omega) ?_
        cases b with
        | none =>
          intro k hk
          by_cases q : k = c
          · rw [q]
            exact z'
          · exact hb k (by omega)
        | some e =>
          obtain ⟨b1, b2, b3⟩ := hb
          refine ⟨by omega, b2, fun k hk hnd hne => ?_⟩
          by_cases q : k = c
          · rw [q] at hnd
            exact absurd z' hnd
          · exact b3 k (by omega) hnd hne
  exact bk_126_0 I J (lp 576 0 none (by omega) (fun k hk => absurd hk (Nat.not_lt_zero k)))
end
