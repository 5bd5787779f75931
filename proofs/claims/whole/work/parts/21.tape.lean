/-! THE TAPE: put, four, feed of both -/
theorem am_up_h {α : Type} {I : Nat → Nat → α} {h k g j : Nat} {x : α} (e : g ≠ h) : am_up I h k x g j = I g j := by
  unfold am_up
  rw [if_neg e]
theorem am_up_k {α : Type} {I : Nat → Nat → α} {h k j : Nat} {x : α} (e : j ≠ k) : am_up I h k x h j = I h j := by
  unfold am_up
  rw [if_pos rfl, if_neg e]
theorem am_up_s {α : Type} {I : Nat → Nat → α} {h k : Nat} {x : α} : am_up I h k x h k = x := by
  unfold am_up
  rw [if_pos rfl, if_pos rfl]
/-- bytes come behind the k that are there: array a, its count in field f of object o -/
def tp_1 (a o f : Nat) (I : am_I) (k : Nat) (b : Int32) : am_I := am_up (am_up I a k b) o f (nI (k + 1))
def tp_s (a o f : Nat) : am_I → Nat → List Int32 → am_I
  | I, _, [] => I
  | I, k, b :: r => tp_s a o f (tp_1 a o f I k b) (k + 1) r
theorem tp_app (a o f : Nat) : ∀ (bs cs : List Int32) (I : am_I) (k : Nat), tp_s a o f I k (bs ++ cs) = tp_s a o f (tp_s a o f I k bs) (k + bs.length) cs := by
  intro bs
  induction bs with
  | nil => intro cs I k; rfl
  | cons b r ih =>
    intro cs I k
    show tp_s a o f (tp_1 a o f I k b) (k + 1) (r ++ cs) = _
    rw [ih, List.length_cons, show k + (r.length + 1) = k + 1 + r.length by omega]
    rfl
theorem tp_n {a o f : Nat} : ∀ (bs : List Int32) (I : am_I) (k : Nat), I o f = nI k → tp_s a o f I k bs o f = nI (k + bs.length) := by
  intro bs
  induction bs with
  | nil => intro I k h; exact h
  | cons b r ih =>
    intro I k h
    have := ih (tp_1 a o f I k b) (k + 1) am_up_s
    rw [List.length_cons, show k + (r.length + 1) = k + 1 + r.length by omega]
    exact this
theorem tp_o {a o f : Nat} : ∀ (bs : List Int32) (I : am_I) (k h j : Nat), h ≠ a → (h ≠ o ∨ j ≠ f) → tp_s a o f I k bs h j = I h j := by
  intro bs
  induction bs with
  | nil => intro I k h j _ _; rfl
  | cons b r ih =>
    intro I k h j h1 h2
    have e := ih (tp_1 a o f I k b) (k + 1) h j h1 h2
    refine e.trans ?_
    unfold tp_1
    by_cases ho : h = o
    · subst ho
      rw [am_up_k (h2.resolve_left (fun z => z rfl)), am_up_h h1]
    · rw [am_up_h ho, am_up_h h1]
theorem tp_b {a o f : Nat} (hao : a ≠ o) : ∀ (bs : List Int32) (I : am_I) (k j : Nat), tp_s a o f I k bs a j = if k ≤ j ∧ j < k + bs.length then bs.getD (j - k) 0 else I a j := by
  intro bs
  induction bs with
  | nil =>
    intro I k j
    rw [if_neg (by simp only [List.length_nil]; omega)]
    rfl
  | cons b r ih =>
    intro I k j
    have e := ih (tp_1 a o f I k b) (k + 1) j
    refine e.trans ?_
    by_cases h1 : k + 1 ≤ j ∧ j < k + 1 + r.length
    · rw [if_pos h1, if_pos (by simp only [List.length_cons]; omega)]
      rw [show j - k = (j - (k + 1)) + 1 by omega]
      rfl
    · rw [if_neg h1]
      unfold tp_1
      rw [am_up_h hao]
      by_cases h2 : j = k
      · subst h2
        rw [am_up_s, if_pos (by simp only [List.length_cons]; omega), Nat.sub_self]
        rfl
      · rw [am_up_k h2, if_neg (by simp only [List.length_cons]; omega)]
/-- the bytes of a number, the highest first: as the class has them, as the reference has them -/
def by_c (x s : Int32) : Int32 := (x.toUInt32 >>> (s.toUInt32 &&& Int32.toUInt32 31)).toInt32 &&& 255
def by_m (x s : Int32) : Int32 := vp_nar .byte ((x >>> (s &&& 31)).toInt8.toInt32)
def by_c4 (x : Int32) : List Int32 := [by_c x 24, by_c x 16, by_c x 8, by_c x 0]
def by_m4 (x : Int32) : List Int32 := [by_m x 24, by_m x 16, by_m x 8, by_m x 0]
section
variable {L : Nat} {xs : Nat → Int32} {d : Nat} {P : Option Value → am_I → am_J → Prop} {I : am_I} {J : am_J} {k : Nat} {x s : Int32}
theorem put_1 (hs : ¬ s < 0) (hk : I 1 1 = nI k) (hlt : k < 200) (h : am_To (am_XX L xs) d 11 3 [some (.ref 1), some (.int x), some (.int (s + (-8 : Int32)))] [] (tp_1 2 1 1 I k (by_c x s)) J P) : am_To (am_XX L xs) d 11 3 [some (.ref 1), some (.int x), some (.int s)] [] I J P := by
  refine bk_11_3 x s I J ⟨fun c => absurd c hs, fun _ => ⟨fun c => absurd c ?_, fun _ => ⟨k, ?_, ?_⟩⟩⟩
  · rw [hk]
    exact nI_ge hlt (by decide)
  · rw [hk]
    exact am_ix_nI hlt (by decide)
  · have e : (am_up I 2 k (by_c x s)) 1 1 + 1 = nI (k + 1) := by
      rw [am_up_h (by decide), hk]
      exact nI_1 k
    have h' := h
    unfold tp_1 at h'
    rw [← e] at h'
    exact h'
theorem put_all (hk : I 1 1 = nI k) (hlt : k + 4 ≤ 200) (h : P none (tp_s 2 1 1 I k (by_c4 x)) J) : am_To (am_XX L xs) d 11 0 [some (.ref 1), some (.int x), none] [] I J P := by
  refine bk_11_0 x I J ?_
  refine put_1 (by decide) hk (by omega) ?_
  refine put_1 (s := 16) (by decide) am_up_s (by omega) ?_
  refine put_1 (s := 8) (by decide) am_up_s (by omega) ?_
  refine put_1 (s := 0) (by decide) am_up_s (by omega) ?_
  exact bk_11_3 x (0 + (-8 : Int32)) _ J ⟨fun _ => h, fun c => absurd (by decide) c⟩
theorem four_1 (hs : ¬ s < 0) (hk : I 95 1 = nI k) (hlt : k < 200) (h : am_To (am_XX L xs) d 100 3 [some (.ref 95), some (.int x), some (.int (s + (-8 : Int32)))] [] (tp_1 96 95 1 I k (by_m x s)) J P) : am_To (am_XX L xs) d 100 3 [some (.ref 95), some (.int x), some (.int s)] [] I J P := by
  refine bk_100_3 x s I J ⟨fun c => absurd c hs, fun _ => ⟨k, ?_, ?_⟩⟩
  · rw [hk]
    exact am_ix_nI hlt (by decide)
  · have e : (am_up I 96 k (by_m x s)) 95 1 + 1 = nI (k + 1) := by
      rw [am_up_h (by decide), hk]
      exact nI_1 k
    have h' := h
    unfold tp_1 at h'
    rw [← e] at h'
    exact h'
theorem four_all (hk : I 95 1 = nI k) (hlt : k + 4 ≤ 200) (h : P none (tp_s 96 95 1 I k (by_m4 x)) J) : am_To (am_XX L xs) d 100 0 [some (.ref 95), some (.int x), none] [] I J P := by
  refine bk_100_0 x I J ?_
  refine four_1 (by decide) hk (by omega) ?_
  refine four_1 (s := 16) (by decide) am_up_s (by omega) ?_
  refine four_1 (s := 8) (by decide) am_up_s (by omega) ?_
  refine four_1 (s := 0) (by decide) am_up_s (by omega) ?_
  exact bk_100_3 x (0 + (-8 : Int32)) _ J ⟨fun _ => h, fun c => absurd (by decide) c⟩
end
