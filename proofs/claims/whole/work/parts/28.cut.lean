/-! TOKENS: cut, cuts -/
def upf {α : Type} (f : Nat → α) (k : Nat) (x : α) : Nat → α := fun j => if j = k then x else f j
theorem upf_s {α : Type} {f : Nat → α} {k : Nat} {x : α} : upf f k x k = x := if_pos rfl
theorem upf_n {α : Type} {f : Nat → α} {k j : Nat} {x : α} (h : j ≠ k) : upf f k x j = f j := if_neg h
def bI (b : Bool) : Int32 := if b then 1 else 0
theorem vnb : ∀ b, vp_nar .boolean (bI b) = bI b := by
  intro b
  cases b <;> rfl
theorem bI_0 {b : Bool} : bI b = 0 ↔ b = false := by cases b <;> decide
/-- the state of a cut: tokens, packs (0: too long), places, whether one follows, lengths, inside, parted -/
abbrev SC : Type := Nat × (Nat → Nat) × (Nat → Nat) × (Nat → Bool) × (Nat → Nat) × Bool × Bool
def sT (s : SC) : Nat := s.1
def sP (s : SC) : Nat → Nat := s.2.1
def sL (s : SC) : Nat → Nat := s.2.2.1
def sF (s : SC) : Nat → Bool := s.2.2.2.1
def sN (s : SC) : Nat → Nat := s.2.2.2.2.1
def sI (s : SC) : Bool := s.2.2.2.2.2.1
def sR (s : SC) : Bool := s.2.2.2.2.2.2
def grw (p l c : Nat) : Nat := if l < 8 then p * 256 + c else 0
def sc_in (c : Nat) (s : SC) : SC := (sT s, upf (sP s) (sT s - 1) (grw (sP s (sT s - 1)) (sN s (sT s - 1)) c), sL s, sF s, upf (sN s) (sT s - 1) (sN s (sT s - 1) + 1), true, false)
def sc_op (i c : Nat) (s : SC) : SC := (sT s + 1, upf (sP s) (sT s) c, upf (sL s) (sT s) i, upf (sF s) (sT s) (!sR s), upf (sN s) (sT s) 1, true, false)
def sc_out (c : Nat) (s : SC) : SC := (sT s, sP s, sL s, sF s, sN s, false, sR s || !(decide (c = 32 ∨ c = 10)))
def sc (b : Nat → Nat) : Nat → SC
  | 0 => (0, fun _ => 0, fun _ => 0, fun _ => false, fun _ => 0, false, true)
  | i + 1 => if 97 ≤ b i ∧ b i ≤ 122 then (bif sI (sc b i) then sc_in (b i) (sc b i) else sc_op i (b i) (sc b i)) else sc_out (b i) (sc b i)
theorem sc_e1 {b : Nat → Nat} {i : Nat} (h : lt1 (b i)) (h2 : sI (sc b i) = true) : sc b (i + 1) = sc_in (b i) (sc b i) := by
  show (if 97 ≤ b i ∧ b i ≤ 122 then (bif sI (sc b i) then sc_in (b i) (sc b i) else sc_op i (b i) (sc b i)) else sc_out (b i) (sc b i)) = _
  rw [if_pos (show 97 ≤ b i ∧ b i ≤ 122 from h), h2]
  rfl
theorem sc_e2 {b : Nat → Nat} {i : Nat} (h : lt1 (b i)) (h2 : sI (sc b i) = false) : sc b (i + 1) = sc_op i (b i) (sc b i) := by
  show (if 97 ≤ b i ∧ b i ≤ 122 then (bif sI (sc b i) then sc_in (b i) (sc b i) else sc_op i (b i) (sc b i)) else sc_out (b i) (sc b i)) = _
  rw [if_pos (show 97 ≤ b i ∧ b i ≤ 122 from h), h2]
  rfl
theorem sc_e3 {b : Nat → Nat} {i : Nat} (h : ¬ lt1 (b i)) : sc b (i + 1) = sc_out (b i) (sc b i) := by
  show (if 97 ≤ b i ∧ b i ≤ 122 then (bif sI (sc b i) then sc_in (b i) (sc b i) else sc_op i (b i) (sc b i)) else sc_out (b i) (sc b i)) = _
  rw [if_neg (show ¬ (97 ≤ b i ∧ b i ≤ 122) from h)]
def pkv (l p : Nat) : Prop := 1 ≤ l ∧ (l ≤ 8 → 97 * 256 ^ (l - 1) ≤ p ∧ p < 123 * 256 ^ (l - 1)) ∧ (8 < l → p = 0)
def SCv (i : Nat) (s : SC) : Prop :=
  (∀ t, t < sT s → pkv (sN s t) (sP s t)) ∧ (∀ t, t + 1 < sT s → sL s t + sN s t + 1 ≤ sL s (t + 1)) ∧ (sI s = true → 0 < sT s ∧ sL s (sT s - 1) + sN s (sT s - 1) = i ∧ sR s = false ∧ 2 * sT s ≤ i + 1) ∧ (sI s = false → (0 < sT s → sL s (sT s - 1) + sN s (sT s - 1) + 1 ≤ i) ∧ 2 * sT s ≤ i)
theorem pkv_grw {l p c : Nat} (h : pkv l p) (hc : lt1 c) : pkv (l + 1) (grw p l c) := by
  obtain ⟨h1, h2, h3⟩ := h
  unfold lt1 at hc
  unfold grw
  refine ⟨by omega, fun h8 => ?_, fun h8 => if_neg (by omega)⟩
  rw [if_pos (by omega)]
  obtain ⟨h4, h5⟩ := h2 (by omega)
  obtain ⟨k, rfl⟩ : ∃ k, l = k + 1 := ⟨l - 1, by omega⟩
  simp only [Nat.add_sub_cancel] at h4 h5 ⊢
  rw [Nat.pow_succ]
  omega
theorem pkv_1 {c : Nat} (hc : lt1 c) : pkv 1 c := by
  unfold lt1 at hc
  exact ⟨by omega, fun _ => by simp; omega, fun h => by omega⟩
theorem pkv_63 {l p : Nat} (h : pkv l p) : p < 2 ^ 63 := by
  obtain ⟨h1, h2, h3⟩ := h
  rcases Nat.lt_or_ge 8 l with c | c
  · rw [h3 c]
    decide
  · have h4 := (h2 c).2
    have h5 : 256 ^ (l - 1) ≤ 256 ^ 7 := Nat.pow_le_pow_right (by decide) (by omega)
    have h6 : (256 : Nat) ^ 7 = 72057594037927936 := by decide
    omega
theorem pkv_55 {l p : Nat} (h : pkv l p) (hl : l < 8) : p < 2 ^ 55 := by
  have h4 := (h.2.1 (by omega)).2
  have h5 : 256 ^ (l - 1) ≤ 256 ^ 6 := Nat.pow_le_pow_right (by decide) (by omega)
  have h6 : (256 : Nat) ^ 6 = 281474976710656 := by decide
  omega
theorem pkv_56 {p : Nat} (h : pkv 8 p) : 2 ^ 56 ≤ p := by
  have h4 : 97 * 256 ^ 7 ≤ p := (h.2.1 (by omega)).1
  have h6 : (256 : Nat) ^ 7 = 72057594037927936 := by decide
  omega
theorem pkv_0 {l p : Nat} (h : pkv l p) : p = 0 ↔ 8 < l := by
  refine ⟨fun e => ?_, h.2.2⟩
  rcases Nat.lt_or_ge 8 l with c | c
  · exact c
  · have h4 := (h.2.1 c).1
    have h5 : 0 < 256 ^ (l - 1) := Nat.pow_pos (by decide)
    omega
/-- a token of one letter alone is less than 256 -/
theorem pkv_2 {l p : Nat} (h : pkv l p) (hp : 256 ≤ p) : 2 ≤ l := by
  rcases Nat.lt_or_ge l 2 with c | c
  · have e : l = 1 := by
      have := h.1
      omega
    subst e
    have := (h.2.1 (by omega)).2
    simp at this
    omega
  · exact c
theorem sc_v (b : Nat → Nat) : ∀ i, SCv i (sc b i) := by
  intro i
  induction i with
  | zero => exact ⟨fun t ht => absurd ht (Nat.not_lt_zero t), fun t ht => absurd ht (Nat.not_lt_zero _), fun h => (by cases h), fun _ => ⟨fun h => absurd h (Nat.not_lt_zero 0), Nat.le_refl 0⟩⟩
  | succ i ih =>
    obtain ⟨h1, h2, h3, h4⟩ := ih
    by_cases hl : lt1 (b i)
    · cases hI : sI (sc b i) with
      | true =>
        obtain ⟨g1, g2, g3, g4⟩ := h3 hI
        rw [sc_e1 hl hI]
        generalize sc b i = s at *
        refine ⟨fun t ht => ?_, fun t ht => ?_, fun _ => ⟨g1, ?_, rfl, ?_⟩, fun h => by cases h⟩
        · show pkv (upf (sN s) (sT s - 1) (sN s (sT s - 1) + 1) t) (upf (sP s) (sT s - 1) (grw (sP s (sT s - 1)) (sN s (sT s - 1)) (b i)) t)
          by_cases e : t = sT s - 1
          · subst e
            rw [upf_s, upf_s]
            exact pkv_grw (h1 _ (by omega)) hl
          · rw [upf_n e, upf_n e]
            exact h1 t ht
        · show sL s t + upf (sN s) (sT s - 1) (sN s (sT s - 1) + 1) t + 1 ≤ sL s (t + 1)
          have ht' : t + 1 < sT s := ht
          rw [upf_n (by omega)]
          exact h2 t ht'
        · show sL s (sT s - 1) + upf (sN s) (sT s - 1) (sN s (sT s - 1) + 1) (sT s - 1) = i + 1
          rw [upf_s]
          omega
        · show 2 * sT s ≤ i + 1 + 1
          omega
      | false =>
        obtain ⟨g1, g2⟩ := h4 hI
        rw [sc_e2 hl hI]
        generalize sc b i = s at *
        refine ⟨fun t ht => ?_, fun t ht => ?_, fun _ => ⟨Nat.succ_pos _, ?_, rfl, ?_⟩, fun h => by cases h⟩
        · show pkv (upf (sN s) (sT s) 1 t) (upf (sP s) (sT s) (b i) t)
          have ht' : t < sT s + 1 := ht
          by_cases e : t = sT s
          · subst e
            rw [upf_s, upf_s]
            exact pkv_1 hl
          · rw [upf_n e, upf_n e]
            exact h1 t (by omega)
        · show upf (sL s) (sT s) i t + upf (sN s) (sT s) 1 t + 1 ≤ upf (sL s) (sT s) i (t + 1)
          have ht' : t + 1 < sT s + 1 := ht
          rw [upf_n (by omega), upf_n (by omega)]
          by_cases e : t + 1 = sT s
          · rw [e, upf_s]
            have := g1 (by omega)
            have e2 : t = sT s - 1 := by omega
            rw [e2]
            exact this
          · rw [upf_n e]
            exact h2 t (by omega)
        · show upf (sL s) (sT s) i (sT s + 1 - 1) + upf (sN s) (sT s) 1 (sT s + 1 - 1) = i + 1
          rw [Nat.add_sub_cancel, upf_s, upf_s]
        · show 2 * (sT s + 1) ≤ i + 1 + 1
          omega
    · rw [sc_e3 hl]
      refine ⟨h1, h2, fun h => (by have h' : false = true := h; cases h'), fun _ => ?_⟩
      cases hI : sI (sc b i) with
      | true =>
        obtain ⟨g1, g2, g3, g4⟩ := h3 hI
        exact ⟨fun _ => (by show sL (sc b i) (sT (sc b i) - 1) + sN (sc b i) (sT (sc b i) - 1) + 1 ≤ i + 1; omega), by show 2 * sT (sc b i) ≤ i + 1; omega⟩
      | false =>
        obtain ⟨g1, g2⟩ := h4 hI
        exact ⟨fun h => (by have := g1 h; show sL (sc b i) (sT (sc b i) - 1) + sN (sc b i) (sT (sc b i) - 1) + 1 ≤ i + 1; omega), by show 2 * sT (sc b i) ≤ i + 1; omega⟩
def cpk (p : Nat) : Int64 := if p = 0 then -1 else lN p
def CutC (s : SC) (I : am_I) (J : am_J) : Prop := I 5 3 = nI (sT s) ∧ ∀ t, t < sT s → J 6 t = cpk (sP s t) ∧ I 7 t = nI (sL s t) ∧ I 8 t = bI (sF s t)
section
variable {L : Nat} {xs : Nat → Int32} {d : Nat} {P : Option Value → am_I → am_J → Prop} {I : am_I} {J : am_J} {n k p w c j : Nat} {b v : Nat → Nat} {a : Int32}
theorem open_c {T : Nat} {f : Bool} (hT : I 5 3 = nI T) (h1 : T < 100) (h : P none (am_up (am_up (am_up I 7 T a) 8 T (bI f)) 5 3 (nI (T + 1))) (am_up J 6 T 0)) : am_To (am_XX L xs) d 17 0 [some (.ref 5), some (.int a), some (.int (bI f))] [] I J P := by
  refine bk_17_0 _ _ I J (i_le 100 T rfl hT (fun c => by omega) (fun _ => x_i T hT (x_i T hT (x_i T (by rw [am_up_h (by decide)]; exact hT) ?_))))
  rw [vnb, am_up_h (by decide), am_up_h (by decide), hT, nI_1]
  exact h
theorem lengthen_c {T : Nat} {q : Int64} (hT : I 5 3 = nI (T + 1)) (h1 : T < 100) (hq : (∃ p, J 6 T = lN p ∧ p < 2 ^ 56 ∧ q = lN (p * 256 + c)) ∨ (∃ p, J 6 T = lN p ∧ 2 ^ 56 ≤ p ∧ p < 2 ^ 63 ∧ q = -1) ∨ (J 6 T = -1 ∧ q = -1)) (hc : c < 256) (h : P none I (am_up J 6 T q)) : am_To (am_XX L xs) (d + 1) 18 0 [some (.ref 5), some (.int (nI c))] [] I J P := by
  have e : I 5 3 - 1 = nI T := by
    rw [hT]
    exact nI_pred T
  refine bk_18_0 _ I J (i_le (T + 1) 0 hT rfl (fun c => by omega) (fun _ => x_i T e ?_))
  have g : am_To (am_XX L xs) (d + 1) 18 32 [none, none] [.long q, .int (I 5 3 - 1), .ref 6] I J P := bk_18_32 _ _ I J (x_i T e h)
  rcases hq with ⟨p, hp, hp2, rfl⟩ | ⟨p, hp, hp2, hp3, rfl⟩ | ⟨hp, rfl⟩
  · rw [hp]
    exact grown_lo hp2 hc g
  · rw [hp]
    exact grown_hi hp2 hp3 g
  · rw [hp]
    exact grown_m1 g
theorem cut_lp (hv : TPv n b) (hj : j ≤ n) (I0 : am_I) (J0 : am_J) (hT : ∀ i, i < n → I0 2 i = nI (b i)) (h : ∀ I' J', (∀ g, g ≠ 5 → g ≠ 7 → g ≠ 8 → I' g = I0 g) → (∀ g, g ≠ 6 → J' g = J0 g) → CutC (sc b j) I' J' → P none I' J') : ∀ (m i : Nat) (I : am_I) (J : am_J), i + m = j → (∀ g, g ≠ 5 → g ≠ 7 → g ≠ 8 → I g = I0 g) → (∀ g, g ≠ 6 → J g = J0 g) → CutC (sc b i) I J → am_To (am_XX L xs) (d + 2) 15 13 [some (.ref 5), some (.ref 1), some (.int (nI j)), some (.int (bI (sI (sc b i)))), some (.int (bI (sR (sc b i)))), some (.int (nI i)), none] [] I J P := by
  have hn := hv.1
  intro m
  induction m with
  | zero =>
    intro i I J hi f1 f2 hC
    have e : i = j := by omega
    subst e
    exact bk_15_13 _ _ _ _ I J (i_t (nI_le (Nat.le_refl i) (by omega)) (h I J f1 f2 hC))
  | succ m ih =>
    intro i I J hi f1 f2 hC
    have hb := hv.2 i (by omega)
    have e2 : I 2 i = nI (b i) := by
      rw [f1 2 (by decide) (by decide) (by decide)]
      exact hT i (by omega)
    obtain ⟨v1, v2, v3, v4⟩ := sc_v b i
    refine bk_15_13 _ _ _ _ I J (i_le j i rfl rfl (fun c => by omega) (fun _ => i_le 200 i rfl rfl (fun c => by omega) (fun _ => x_i i rfl ?_)))
    rw [e2]
    refine isletter_c rfl hb (fun hl => ?_) (fun hl => ?_)
    · -- no letter
      have ih' := fun I' J' => ih (i + 1) I' J' (by omega)
      rw [sc_e3 hl] at ih'
      have hC' : CutC (sc_out (b i) (sc b i)) I J := hC
      have g : ∀ r : Bool, r = (sR (sc b i) || !(decide (b i = 32 ∨ b i = 10))) → am_To (am_XX L xs) (d + 2) 15 13 [some (.ref 5), some (.ref 1), some (.int (nI j)), some (.int 0), some (.int (bI r)), some (.int (nI i + 1)), none] [] I J P := fun r hr => by
        rw [nI_1, hr]
        exact ih' I J f1 f2 hC'
      have g1 : (sR (sc b i) || !(decide (b i = 32 ∨ b i = 10))) = true → am_To (am_XX L xs) (d + 2) 15 93 [some (.ref 5), some (.ref 1), some (.int (nI j)), some (.int 0), none, some (.int (nI i)), none] [] I J P := fun hr => bk_15_93 _ _ _ I J (g true hr.symm)
      refine bk_15_41 _ _ _ _ _ 0 I J (i_t rfl (i_c bI_0 (fun hr => ?_) (fun hr => ?_)))
      · refine isblank_c rfl hb (fun hbl => ?_) (fun hbl => ?_)
        · refine bk_15_90 _ _ _ 0 I J (i_t rfl (g1 ?_))
          rw [decide_eq_false hbl]
          simp
        · refine bk_15_90 _ _ _ 1 I J (i_f (by decide) (g false ?_))
          rw [hr, decide_eq_true hbl]
          rfl
      · refine g1 ?_
        rw [Bool.not_eq_false] at hr
        rw [hr]
        rfl
    · cases hI : sI (sc b i) with
      | true =>
        obtain ⟨g1, g2, g3, g4⟩ := v3 hI
        have ih' := fun I' J' => ih (i + 1) I' J' (by omega)
        rw [sc_e1 hl hI] at ih'
        obtain ⟨c1, c2⟩ := hC
        have vv := v1 (sT (sc b i) - 1) (by omega)
        refine bk_15_41 _ _ _ _ _ 1 I J (i_f (by decide) (i_f (by decide) (bk_15_64 _ _ _ I J ?_)))
        refine lengthen_c (T := sT (sc b i) - 1) (q := cpk (grw (sP (sc b i) (sT (sc b i) - 1)) (sN (sc b i) (sT (sc b i) - 1)) (b i))) (by rw [c1]; congr 1; omega) (by omega) ?_ hb (bk_15_70 _ _ _ _ ?_)
        · have hq := (c2 (sT (sc b i) - 1) (by omega)).1
          have vg := pkv_grw vv hl
          unfold cpk
          rcases Nat.lt_or_ge (sN (sc b i) (sT (sc b i) - 1)) 8 with z | z
          · refine Or.inl ⟨sP (sc b i) (sT (sc b i) - 1), ?_, ?_, ?_⟩
            · rw [hq]
              unfold cpk
              rw [if_neg (fun e => by have := (pkv_0 vv).mp e; omega)]
            · have := pkv_55 vv z
              omega
            · rw [if_neg (fun e => by have := (pkv_0 vg).mp e; omega)]
              unfold grw
              rw [if_pos z]
          · refine Or.inr ?_
            rw [if_pos ((pkv_0 vg).mpr (by omega))]
            rcases Nat.eq_or_lt_of_le z with z2 | z2
            · rw [← z2] at vv
              refine Or.inl ⟨sP (sc b i) (sT (sc b i) - 1), ?_, pkv_56 vv, pkv_63 vv, rfl⟩
              rw [hq]
              unfold cpk
              rw [if_neg (fun e => by have := (pkv_0 vv).mp e; omega)]
            · refine Or.inr ⟨?_, rfl⟩
              rw [hq]
              unfold cpk
              rw [if_pos ((pkv_0 vv).mpr z2)]
        · rw [nI_1]
          refine ih' _ _ f1 (fun g hg => by rw [am_up_row hg]; exact f2 g hg) ⟨c1, fun t ht => ?_⟩
          refine ⟨?_, (c2 t ht).2⟩
          show am_up J 6 _ _ 6 t = cpk (upf (sP (sc b i)) (sT (sc b i) - 1) _ t)
          by_cases e : t = sT (sc b i) - 1
          · subst e
            rw [am_up_s, upf_s]
          · rw [am_up_k e, upf_n e]
            exact (c2 t ht).1
      | false =>
        obtain ⟨g1, g2⟩ := v4 hI
        have ih' := fun I' J' => ih (i + 1) I' J' (by omega)
        rw [sc_e2 hl hI] at ih'
        obtain ⟨c1, c2⟩ := hC
        have g : am_To (am_XX L xs) (d + 2) 15 61 [some (.ref 5), some (.ref 1), some (.int (nI j)), none, none, some (.int (nI i)), some (.int (nI (b i)))] [.int (bI (!sR (sc b i))), .int (nI i), .ref 5] I J P := by
          refine bk_15_61 _ _ _ _ _ I J (open_c c1 (by omega) (bk_15_64 _ _ _ _ _ ?_))
          refine lengthen_c (T := sT (sc b i)) (q := lN (b i)) am_up_s (by omega) (Or.inl ⟨0, am_up_s, by decide, by rw [Nat.zero_mul, Nat.zero_add]⟩) hb (bk_15_70 _ _ _ _ ?_)
          rw [nI_1]
          refine ih' _ _ (fun g e5 e7 e8 => by rw [am_up_row e5, am_up_row e8, am_up_row e7]; exact f1 g e5 e7 e8) (fun g hg => by rw [am_up_row hg, am_up_row hg]; exact f2 g hg) ⟨am_up_s, fun t ht => ?_⟩
          have ht' : t < sT (sc b i) + 1 := ht
          show am_up (am_up J 6 _ _) 6 _ _ 6 t = cpk (upf (sP (sc b i)) (sT (sc b i)) (b i) t) ∧ am_up (am_up (am_up I 7 _ _) 8 _ _) 5 3 _ 7 t = nI (upf (sL (sc b i)) (sT (sc b i)) i t) ∧ am_up (am_up (am_up I 7 _ _) 8 _ _) 5 3 _ 8 t = bI (upf (sF (sc b i)) (sT (sc b i)) (!sR (sc b i)) t)
          rw [am_up_h (show (7 : Nat) ≠ 5 by decide), am_up_h (show (7 : Nat) ≠ 8 by decide), am_up_h (show (8 : Nat) ≠ 5 by decide)]
          by_cases e : t = sT (sc b i)
          · subst e
            rw [am_up_s, upf_s, am_up_s, upf_s, am_up_s, upf_s]
            refine ⟨?_, rfl, rfl⟩
            unfold cpk
            rw [if_neg (fun z => by have hl' := hl.1; omega)]
          · rw [am_up_k e, am_up_k e, upf_n e, am_up_k e, upf_n e, am_up_k e, upf_n e, am_up_h (show (8 : Nat) ≠ 7 by decide)]
            exact c2 t (by omega)
        refine bk_15_41 _ _ _ _ _ 1 I J (i_f (by decide) (i_t rfl (i_c bI_0 (fun hr => ?_) (fun hr => ?_))))
        · rw [hr] at g
          exact g
        · rw [Bool.not_eq_false] at hr
          rw [hr] at g
          exact g
theorem cut_c (hv : TPv n b) (hj : j ≤ n) (hT : TPc n b I) (h : ∀ I' J', (∀ g, g ≠ 5 → g ≠ 7 → g ≠ 8 → I' g = I g) → (∀ g, g ≠ 6 → J' g = J g) → CutC (sc b j) I' J' → P none I' J') : am_To (am_XX L xs) (d + 2) 15 0 [some (.ref 5), some (.ref 1), some (.int (nI j)), none, none, none, none] [] I J P := by
  refine bk_15_0 _ I J ?_
  exact cut_lp hv hj I J hT.2 h j 0 _ _ (by omega) (fun g h5 _ _ => am_up_row h5) (fun _ _ => rfl) ⟨am_up_s, fun t ht => absurd ht (Nat.not_lt_zero t)⟩
end
