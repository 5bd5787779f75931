/-! THE WORDS: bring, number; has, isWord, areWords, areUnlike, isIn -/
def wd_from (f : Nat → Int64) (p : Int64) : Nat → Nat → Option Nat
  | _, 0 => none
  | i, m + 1 => if f i = p then some i else wd_from f p (i + 1) m
theorem lg_cmp_0 {a b : Int64} : lg_cmp a b = 0 ↔ a = b := by
  unfold lg_cmp
  by_cases h1 : a > b
  · rw [if_pos h1]
    exact ⟨fun z => absurd z (by decide), fun z => absurd h1 (by rw [z]; exact Int64.lt_irrefl)⟩
  · rw [if_neg h1]
    by_cases h2 : a = b
    · rw [if_pos h2]
      exact ⟨fun _ => h2, fun _ => rfl⟩
    · rw [if_neg h2]
      exact ⟨fun z => absurd z (by decide), fun z => absurd z h2⟩
section
variable {L : Nat} {xs : Nat → Int32} {d : Nat} {P : Option Value → am_I → am_J → Prop} {I : am_I} {J : am_J} {w : Nat} {p : Int64}
theorem bring_lp (hw : I 3 1 = nI w) (hw2 : w ≤ 24) (hs : ∀ k, wd_from (J 4) p 0 w = some k → P (some (.int (nI k))) I J) (hn : wd_from (J 4) p 0 w = none → (w < 24 → P (some (.int (nI w))) (am_up I 3 1 (nI (w + 1))) (am_up J 4 w p)) ∧ (¬ w < 24 → P (some (.int (-1))) I J)) : ∀ (m i : Nat), i + m = w → wd_from (J 4) p 0 w = wd_from (J 4) p i m → am_To (am_XX L xs) d 25 2 [some (.ref 3), some (.long p), none, some (.int (nI i))] [] I J P := by
  intro m
  induction m with
  | zero =>
    intro i hi he
    obtain rfl : i = w := by omega
    refine bk_25_2 p (nI i) I J ⟨fun _ => ⟨fun c => ?_, fun c => ?_⟩, fun c => absurd (by rw [hw]; exact nI_le (Nat.le_refl i) (by omega)) c⟩
    · rw [hw] at c
      have c : i < 24 := (nI_ltI (by omega) (by omega)).mp c
      refine ⟨i, by rw [hw]; exact am_ix_nI c (by decide), ?_⟩
      rw [am_up_s, hw, nI_1, nI_pred]
      exact (hn he).1 c
    · rw [hw] at c
      exact (hn he).2 (fun z => c (show nI i < nI 24 from nI_lt z (by decide)))
  | succ m ih =>
    intro i hi he
    refine bk_25_2 p (nI i) I J ⟨fun c => ?_, fun _ => ⟨i, am_ix_nI (by omega) (by decide), fun c => ?_, fun c => ?_⟩⟩
    · rw [hw] at c
      have := (nI_leI (by omega) (by omega)).mp c
      omega
    · refine hs i ?_
      rw [he]
      show (if _ then _ else _) = _
      rw [if_pos (lg_cmp_0.mp c)]
    · have e := ih (i + 1) (by omega) (by
        rw [he]
        show (if _ then _ else _) = _
        rw [if_neg (fun z => c (lg_cmp_0.mpr z))])
      rw [nI_1]
      exact e
theorem bring_all (hw : I 3 1 = nI w) (hw2 : w ≤ 24) (hs : ∀ k, wd_from (J 4) p 0 w = some k → P (some (.int (nI k))) I J) (hn : wd_from (J 4) p 0 w = none → (w < 24 → P (some (.int (nI w))) (am_up I 3 1 (nI (w + 1))) (am_up J 4 w p)) ∧ (¬ w < 24 → P (some (.int (-1))) I J)) : am_To (am_XX L xs) d 25 0 [some (.ref 3), some (.long p), none, none] [] I J P :=
  bk_25_0 p I J (bring_lp hw hw2 hs hn w 0 (by omega) rfl)
theorem number_lp (hw : I 95 2 = nI w) (hw2 : w ≤ 24) (hs : ∀ k, wd_from (J 97) p 0 w = some k → P (some (.int (nI k))) I J) (hn : wd_from (J 97) p 0 w = none → (w < 24 → P (some (.int (nI w))) (am_up I 95 2 (nI (w + 1))) (am_up J 97 w p)) ∧ (¬ w < 24 → P (some (.int (-1))) I J)) : ∀ (m i : Nat), i + m = w → wd_from (J 97) p 0 w = wd_from (J 97) p i m → am_To (am_XX L xs) d 108 2 [some (.ref 95), some (.long p), none, some (.int (nI i))] [] I J P := by
  intro m
  induction m with
  | zero =>
    intro i hi he
    obtain rfl : i = w := by omega
    refine bk_108_2 p (nI i) I J ⟨fun _ => ⟨fun c => ?_, fun c => ?_⟩, fun c => absurd (by rw [hw]; exact nI_le (Nat.le_refl i) (by omega)) c⟩
    · rw [hw] at c
      have c : i = 24 := (nI_eq (by omega) (by omega)).mp c
      exact (hn he).2 (by omega)
    · rw [hw] at c
      have c : i < 24 := by
        rcases Nat.lt_or_ge i 24 with z | z
        · exact z
        · exact absurd (by rw [show i = 24 by omega]; rfl) c
      refine ⟨i, by rw [hw]; exact am_ix_nI c (by decide), ?_⟩
      rw [am_up_s, hw, nI_1, nI_pred]
      exact (hn he).1 c
  | succ m ih =>
    intro i hi he
    refine bk_108_2 p (nI i) I J ⟨fun c => ?_, fun _ => ⟨i, am_ix_nI (by omega) (by decide), fun c => ?_, fun c => ?_⟩⟩
    · rw [hw] at c
      have := (nI_leI (by omega) (by omega)).mp c
      omega
    · refine hs i ?_
      rw [he]
      show (if _ then _ else _) = _
      rw [if_pos (lg_cmp_0.mp c)]
    · have e := ih (i + 1) (by omega) (by
        rw [he]
        show (if _ then _ else _) = _
        rw [if_neg (fun z => c (lg_cmp_0.mpr z))])
      rw [nI_1]
      exact e
theorem number_all (hw : I 95 2 = nI w) (hw2 : w ≤ 24) (hs : ∀ k, wd_from (J 97) p 0 w = some k → P (some (.int (nI k))) I J) (hn : wd_from (J 97) p 0 w = none → (w < 24 → P (some (.int (nI w))) (am_up I 95 2 (nI (w + 1))) (am_up J 97 w p)) ∧ (¬ w < 24 → P (some (.int (-1))) I J)) : am_To (am_XX L xs) d 108 0 [some (.ref 95), some (.long p), none, none] [] I J P :=
  bk_108_0 p I J (number_lp hw hw2 hs hn w 0 (by omega) rfl)
end
