/-! THE TAPE AS BYTES: feed, packed, word, letter of both -/
def TPv (n : Nat) (b : Nat → Nat) : Prop := n ≤ 200 ∧ ∀ j, j < n → b j < 256
def TPc (n : Nat) (b : Nat → Nat) (I : am_I) : Prop := I 1 1 = nI n ∧ ∀ j, j < n → I 2 j = nI (b j)
def TPm (n : Nat) (b : Nat → Nat) (I : am_I) : Prop := I 95 1 = nI n ∧ ∀ j, j < n → I 96 j = sx (b j)
def fd_r (n : Nat) : Option Nat := if n + 20 ≤ 200 then some (n + 20) else none
def fd_n (n : Nat) : Nat := if n + 20 ≤ 200 then n + 20 else n
def fd_b (n : Nat) (b : Nat → Nat) (l : List Nat) (j : Nat) : Nat := if j < n then b j else l.getD (j - n) 0
theorem fd_ok {n : Nat} {b : Nat → Nat} {l : List Nat} (h : TPv n b) (hl : ∀ x ∈ l, x < 256) : TPv (fd_n n) (fd_b n b l) := by
  unfold fd_n
  refine ⟨by split <;> first | omega | exact h.1, fun j _ => ?_⟩
  unfold fd_b
  by_cases c : j < n
  · rw [if_pos c]
    exact h.2 j c
  · rw [if_neg c]
    by_cases e : j - n < l.length
    · rw [List.getD_eq_getElem?_getD, List.getElem?_eq_getElem e]
      exact hl _ (List.getElem_mem e)
    · rw [List.getD_eq_getElem?_getD, List.getElem?_eq_none (by omega)]
      decide
def lt1 (c : Nat) : Prop := 97 ≤ c ∧ c ≤ 122
def wp (b : Nat → Nat) : Nat → Nat
  | 0 => 0
  | i + 1 => wp b i * 256 + b i
theorem wp_b {b : Nat → Nat} : ∀ i, (∀ j, j < i + 1 → lt1 (b j)) → 97 * 256 ^ i ≤ wp b (i + 1) ∧ wp b (i + 1) < 123 * 256 ^ i := by
  intro i
  induction i with
  | zero =>
    intro h
    have := h 0 (by omega)
    unfold lt1 at this
    show 97 * 1 ≤ 0 * 256 + b 0 ∧ 0 * 256 + b 0 < 123 * 1
    omega
  | succ i ih =>
    intro h
    obtain ⟨h1, h2⟩ := ih (fun j hj => h j (by omega))
    have h3 := h (i + 1) (by omega)
    unfold lt1 at h3
    show 97 * 256 ^ (i + 1) ≤ wp b (i + 1) * 256 + b (i + 1) ∧ wp b (i + 1) * 256 + b (i + 1) < 123 * 256 ^ (i + 1)
    rw [Nat.pow_succ]
    omega
theorem wp_63 {b : Nat → Nat} {i : Nat} (hi : i ≤ 8) (h : ∀ j, j < i → lt1 (b j)) : wp b i < 2 ^ 63 := by
  match i, hi, h with
  | 0, _, _ => exact (by decide : 0 < 2 ^ 63)
  | i + 1, hi, h =>
    have h1 := (wp_b i h).2
    have h2 : 256 ^ i ≤ 256 ^ 7 := Nat.pow_le_pow_right (by decide) (by omega)
    have h3 : (256 : Nat) ^ 7 = 72057594037927936 := by decide
    omega
theorem wp_56 {b : Nat → Nat} {i : Nat} (hi : i < 8) (h : ∀ j, j < i → lt1 (b j)) : wp b i < 2 ^ 55 := by
  match i, hi, h with
  | 0, _, _ => exact (by decide : 0 < 2 ^ 55)
  | i + 1, hi, h =>
    have h1 := (wp_b i h).2
    have h2 : 256 ^ i ≤ 256 ^ 6 := Nat.pow_le_pow_right (by decide) (by omega)
    have h3 : (256 : Nat) ^ 6 = 281474976710656 := by decide
    omega
theorem wp_8 {b : Nat → Nat} (h : ∀ j, j < 8 → lt1 (b j)) : 2 ^ 56 ≤ wp b 8 := by
  have h1 : 97 * 256 ^ 7 ≤ wp b 8 := (wp_b 7 h).1
  have h3 : (256 : Nat) ^ 7 = 72057594037927936 := by decide
  omega
theorem wp_0 {b : Nat → Nat} {i : Nat} (h0 : 0 < i) (h : ∀ j, j < i → lt1 (b j)) : 0 < wp b i := by
  match i, h0, h with
  | i + 1, _, h =>
    have h1 := (wp_b i h).1
    have h2 : 0 < 256 ^ i := Nat.pow_pos (by decide)
    omega
/-- the first n bytes are a word -/
def isW (n : Nat) (b : Nat → Nat) : Prop := 1 ≤ n ∧ n ≤ 8 ∧ (∀ j, j < n → lt1 (b j)) ∧ mb (wp b n)
theorem len_ex {p : Nat} (h0 : 0 < p) (h : p < 2 ^ 63) : ∃ N, 1 ≤ N ∧ N ≤ 8 ∧ ∀ i, p / 2 ^ (8 * i) = 0 ↔ N ≤ i := by
  have h8 : p / 2 ^ (8 * 8) = 0 := Nat.div_eq_of_lt (by omega)
  obtain ⟨N, hN, hmin⟩ := pk_least (fun i => p / 2 ^ (8 * i) = 0) ⟨8, h8⟩
  refine ⟨N, ?_, ?_, fun i => ⟨fun e => ?_, fun e => ?_⟩⟩
  · rcases Nat.eq_zero_or_pos N with z | z
    · subst z
      simp only [Nat.mul_zero, Nat.pow_zero, Nat.div_one] at hN
      omega
    · exact z
  · rcases Nat.lt_or_ge 8 N with z | z
    · exact absurd h8 (hmin 8 z)
    · exact z
  · rcases Nat.lt_or_ge i N with z | z
    · exact absurd e (hmin i z)
    · exact z
  · have h1 : p < 2 ^ (8 * N) := by
      rcases Nat.lt_or_ge p (2 ^ (8 * N)) with z | z
      · exact z
      · exact absurd hN (Nat.ne_of_gt (Nat.div_pos z (Nat.two_pow_pos _)))
    exact Nat.div_eq_of_lt (Nat.lt_of_lt_of_le h1 (Nat.pow_le_pow_right (by decide) (by omega)))
section
variable {L : Nat} {xs : Nat → Int32} {d : Nat} {P : Option Value → am_I → am_J → Prop} {I : am_I} {J : am_J} {n k p w c j : Nat} {b v : Nat → Nat} {a : Int32} {x1 x2 x3 x4 x5 : Int32}
theorem feed_C (hv : TPv n b) (h : TPc n b I) (hh : ∀ I', (∀ g, g ≠ 1 → g ≠ 2 → I' g = I g) → TPc (fd_n n) (fd_b n b (by_n20 x1 x2 x3 x4 x5)) I' → P (some (.int (oI (fd_r n)))) I' J) : am_To (am_XX L xs) (d + 1) 10 0 [some (.ref 0), some (.int x1), some (.int x2), some (.int x3), some (.int x4), some (.int x5)] [] I J P := by
  unfold fd_n fd_r at hh
  refine feed_c h.1 hv.1 (fun c => ?_) (fun c => ?_)
  · rw [if_pos c, if_pos c] at hh
    have hlen : (by_c20 x1 x2 x3 x4 x5).length = 20 := rfl
    refine hh _ (fun g h1 h2 => funext fun j => tp_o _ _ _ _ _ h2 (Or.inl h1)) ⟨tp_n _ _ _ h.1, fun j hj => ?_⟩
    rw [tp_b (by decide), hlen]
    unfold fd_b
    by_cases e : j < n
    · rw [if_neg (by omega), if_pos e]
      exact h.2 j e
    · rw [if_pos (by omega), if_neg e, by_c20_e]
      have hl2 : (by_n20 x1 x2 x3 x4 x5).length = 20 := rfl
      rw [List.getD_eq_getElem?_getD, List.getD_eq_getElem?_getD, List.getElem?_map, List.getElem?_eq_getElem (by omega)]
      rfl
  · rw [if_neg c, if_neg c] at hh
    refine hh I (fun _ _ _ => rfl) ⟨h.1, fun j hj => ?_⟩
    unfold fd_b
    rw [if_pos hj]
    exact h.2 j hj
theorem feed_M (hv : TPv n b) (h : TPm n b I) (hh : ∀ I', (∀ g, g ≠ 95 → g ≠ 96 → I' g = I g) → (∀ j, j ≠ 1 → I' 95 j = I 95 j) → TPm (fd_n n) (fd_b n b (by_n20 x1 x2 x3 x4 x5)) I' → P (some (.int (oI (fd_r n)))) I' J) : am_To (am_XX L xs) (d + 1) 99 0 [some (.ref 95), some (.int x1), some (.int x2), some (.int x3), some (.int x4), some (.int x5)] [] I J P := by
  unfold fd_n fd_r at hh
  refine feed_m h.1 hv.1 (fun c => ?_) (fun c => ?_)
  · rw [if_pos c, if_pos c] at hh
    have hlen : (by_m20 x1 x2 x3 x4 x5).length = 20 := rfl
    refine hh _ (fun g h1 h2 => funext fun j => tp_o _ _ _ _ _ h2 (Or.inl h1)) (fun j hj => tp_o _ _ _ _ _ (by decide) (Or.inr hj)) ⟨tp_n _ _ _ h.1, fun j hj => ?_⟩
    rw [tp_b (by decide), hlen]
    unfold fd_b
    by_cases e : j < n
    · rw [if_neg (by omega), if_pos e]
      exact h.2 j e
    · rw [if_pos (by omega), if_neg e, by_m20_e]
      have hl2 : (by_n20 x1 x2 x3 x4 x5).length = 20 := rfl
      rw [List.getD_eq_getElem?_getD, List.getD_eq_getElem?_getD, List.getElem?_map, List.getElem?_eq_getElem (by omega)]
      rfl
  · rw [if_neg c, if_neg c] at hh
    refine hh I (fun _ _ _ => rfl) (fun _ _ => rfl) ⟨h.1, fun j hj => ?_⟩
    unfold fd_b
    rw [if_pos hj]
    exact h.2 j hj
theorem grown_lo (hp : p < 2 ^ 56) (hc : c < 256) (h : P (some (.long (lN (p * 256 + c)))) I J) : am_To (am_XX L xs) d 19 0 [some (.long (lN p)), none, some (.int (nI c)), none] [] I J P := by
  refine bk_19_0 (lN p) (nI c) I J (i_t ?_ (bk_19_14 _ _ 0 I J (i_t rfl ?_)))
  · have e := l_ushrN (n := p) (k := 56) (by omega) (by decide)
    rw [Nat.div_eq_of_lt hp] at e
    exact (congrArg (fun z => lg_cmp z 0) e).trans (by decide)
  · rw [l_cat hc hp]
    exact h
theorem grown_hi (hp : 2 ^ 56 ≤ p) (hp2 : p < 2 ^ 63) (h : P (some (.long (-1))) I J) : am_To (am_XX L xs) d 19 0 [some (.long (lN p)), none, some (.int a), none] [] I J P := by
  refine bk_19_0 (lN p) a I J (i_f ?_ (bk_19_14 _ _ 1 I J (i_f (by decide) h)))
  have e := l_ushrN (n := p) (k := 56) (by omega) (by decide)
  intro z
  have z2 : lg_cmp (lN (p / 2 ^ 56)) 0 = 0 := (congrArg (fun z => lg_cmp z 0) e).symm.trans z
  rw [l_eq0 (by omega)] at z2
  have := Nat.div_pos hp (by decide)
  omega
theorem grown_m1 (h : P (some (.long (-1))) I J) : am_To (am_XX L xs) d 19 0 [some (.long (-1)), none, some (.int a), none] [] I J P :=
  bk_19_0 (-1) a I J (i_f (by decide) (bk_19_14 _ _ 1 I J (i_f (by decide) h)))
theorem packed_lp (hv : TPv n b) (hT : TPc n b I) (hj : j ≤ n) (h1 : (∀ i, i < j → lt1 (b i)) → j ≤ 8 → P (some (.long (lN (wp b j)))) I J) (h2 : ¬ ((∀ i, i < j → lt1 (b i)) ∧ j ≤ 8) → P (some (.long (-1))) I J) : ∀ (m i : Nat), i + m = j → (∀ k, k < i → lt1 (b k)) → am_To (am_XX L xs) (d + 1) 36 5 [some (.ref 1), some (.int (nI j)), some (.long (if i ≤ 8 then lN (wp b i) else -1)), none, some (.int (nI i))] [] I J P := by
  have hn := hv.1
  intro m
  induction m with
  | zero =>
    intro i hi hl
    have e : i = j := by omega
    subst e
    refine bk_36_5 _ _ _ I J (i_le i i rfl rfl (fun _ => ?_) (fun c => by omega))
    by_cases c : i ≤ 8
    · rw [if_pos c]
      exact h1 hl c
    · rw [if_neg c]
      exact h2 (fun z => c z.2)
  | succ m ih =>
    intro i hi hl
    refine bk_36_5 _ _ _ I J (i_le j i rfl rfl (fun c => by omega) (fun _ => i_le 200 i rfl rfl (fun c => by omega) (fun _ => x_i i rfl ?_)))
    refine isletter_c (hT.2 i (by omega)) (hv.2 i (by omega)) (fun c => ?_) (fun c => ?_)
    · exact bk_36_29 _ _ _ 0 I J (i_t rfl (h2 (fun z => c (z.1 i (by omega)))))
    · have hl2 : ∀ k, k < i + 1 → lt1 (b k) := fun k hk => by
        by_cases e : k = i
        · rw [e]
          exact c
        · exact hl k (by omega)
      refine bk_36_29 _ _ _ 1 I J (i_f (by decide) (x_i i rfl ?_))
      rw [hT.2 i (by omega)]
      have g : ∀ q, q = (if i + 1 ≤ 8 then lN (wp b (i + 1)) else -1) → am_To (am_XX L xs) (d + 1) 36 47 [some (.ref 1), some (.int (nI j)), none, none, some (.int (nI i))] [.long q] I J P := fun q hq => by
        refine bk_36_47 _ _ _ I J ?_
        rw [hq, nI_1]
        exact ih (i + 1) (by omega) hl2
      by_cases c8 : i ≤ 8
      · rw [if_pos c8]
        by_cases c7 : i < 8
        · exact grown_lo (by have := wp_56 c7 hl; omega) (hv.2 i (by omega)) (g _ (by rw [if_pos (by omega)]; rfl))
        · have e : i = 8 := by omega
          subst e
          exact grown_hi (wp_8 hl) (wp_63 (by omega) hl) (g _ (by rw [if_neg (by omega)]))
      · rw [if_neg c8]
        exact grown_m1 (g _ (by rw [if_neg (by omega)]))
theorem packed_c (hv : TPv n b) (hT : TPc n b I) (hj : j ≤ n) (h1 : (∀ i, i < j → lt1 (b i)) → j ≤ 8 → P (some (.long (lN (wp b j)))) I J) (h2 : ¬ ((∀ i, i < j → lt1 (b i)) ∧ j ≤ 8) → P (some (.long (-1))) I J) : am_To (am_XX L xs) (d + 1) 36 0 [some (.ref 1), some (.int (nI j)), none, none, none] [] I J P :=
  bk_36_0 _ I J (packed_lp hv hT hj h1 h2 j 0 (by omega) (fun k hk => absurd hk (by omega)))
/-- what word answers, and the words behind it -/
theorem word_C (hv : TPv n b) (hT : TPc n b I) (hV : WV w v) (hW : WCc w v I J) (h0 : (∀ j, j ≤ n → a ≠ nI j) → P (some (.int (-2))) I J) (h1 : ∀ j, j ≤ n → a = nI j → isW j b → ∀ I' J', (∀ g, g ≠ 1 → g ≠ 3 → I' g = I g) → I' 1 1 = 0 → (∀ g, g ≠ 4 → J' g = J g) → WCc (br_w w v (wp b j)) (br_v w v (wp b j)) I' J' → P (some (.int (oI (br_r w v (wp b j))))) I' J') (h2 : ∀ j, j ≤ n → a = nI j → ¬ isW j b → P (some (.int (-1))) (am_up I 1 1 0) J) : am_To (am_XX L xs) (d + 2) 35 0 [some (.ref 0), some (.int a), none, none] [] I J P := by
  refine bk_35_0 a I J (holds_c hT.1 hv.1 (fun z => ?_) (fun j hj ej => ?_))
  · exact bk_35_8 _ 0 I J (i_t rfl (h0 z))
  · subst ej
    refine bk_35_8 _ 1 I J (i_f (by decide) (packed_c hv hT hj (fun hl h8 => ?_) (fun hn => ?_)))
    · refine bk_35_22 _ I J (mayc_all (p := wp b j) (wp_63 h8 hl) (Or.inl rfl) (fun z => ?_) (fun z => ?_))
      · exact bk_35_35 _ 0 _ J (i_t rfl (h2 j hj rfl (fun y => z y.2.2.2)))
      · have hj1 : 1 ≤ j := by
          rcases Nat.eq_zero_or_pos j with e | e
          · subst e
            exact absurd rfl z.1
          · exact e
        have hW2 : WCc w v (am_up I 1 1 0) J := ⟨by rw [am_up_h (by decide)]; exact hW.1, hW.2⟩
        refine bk_35_35 _ 1 _ J (i_f (by decide) (bring_c hV hW2 (wp_63 h8 hl) (fun I' J' f1 f2 hw => ?_)))
        refine bk_35_46 _ I' J' (h1 j hj rfl ⟨hj1, h8, hl, z⟩ I' J' (fun g e1 e3 => ?_) ?_ f2 hw)
        · rw [f1 g e3, am_up_row e1]
        · rw [f1 1 (by decide), am_up_s]
    · refine bk_35_22 _ I J (mayc_all (p := 0) (by decide) (Or.inr ⟨rfl, rfl⟩) (fun z => ?_) (fun z => absurd rfl z.1))
      exact bk_35_35 _ 0 _ J (i_t rfl (h2 j hj rfl (fun y => hn ⟨y.2.2.1, y.2.1⟩)))
theorem isletter_m (hv : TPv n b) (hT : ∀ i, i < n → I 96 i = sx (b i)) (hj : j ≤ n) (h0 : ¬ (k < j ∧ lt1 (b k)) → P (some (.int 0)) I J) (h1 : k < j → lt1 (b k) → P (some (.int 1)) I J) (hk : k ≤ 200) : am_To (am_XX L xs) d 104 0 [some (.ref 95), some (.int (nI k)), some (.int (nI j))] [] I J P := by
  have hn := hv.1
  refine bk_104_0 _ _ I J (i_le j k rfl rfl (fun c => h0 (by omega)) (fun c => ?_))
  have hb := hv.2 k (by omega)
  have e := hT k (by omega)
  have q1 : I 96 k < 97 ↔ b k < 97 ∨ 128 ≤ b k := by
    rw [e]
    exact sx_lo _ hb
  have q2 : 122 < I 96 k ↔ 122 < b k ∧ b k < 128 := by
    rw [e]
    exact sx_hi _ hb
  refine x_i k rfl (i_c q1 (fun z => h0 ?_) (fun z => x_i k rfl (i_c q2 (fun z2 => h0 ?_) (fun z2 => h1 c ?_))))
  · unfold lt1
    omega
  · unfold lt1
    omega
  · unfold lt1
    omega
theorem sx_l {c : Nat} (h : lt1 c) : sx c = nI c := fa_byte_small (by unfold lt1 at h; omega)
/-- the reference's word: the loop over the bytes -/
theorem word_lp (hv : TPv n b) (hT : ∀ i, i < n → I 96 i = sx (b i)) (hj : j ≤ n) (hj8 : j ≤ 8) (h1 : (∀ i, i < j → lt1 (b i)) → am_To (am_XX L xs) (d + 1) 112 77 [some (.ref 95), none, some (.long (lN (wp b j))), none, some (.int 1), none] [] I J P) (h2 : ∀ q : Int64, ¬ (∀ i, i < j → lt1 (b i)) → am_To (am_XX L xs) (d + 1) 112 77 [some (.ref 95), none, some (.long q), none, some (.int 0), none] [] I J P) : ∀ (m i : Nat), i + m = j → (∀ k, k < i → lt1 (b k)) → am_To (am_XX L xs) (d + 1) 112 37 [some (.ref 95), some (.int (nI j)), some (.long (lN (wp b i))), none, some (.int 1), some (.int (nI i))] [] I J P := by
  have hn := hv.1
  intro m
  induction m with
  | zero =>
    intro i hi hl
    have e : i = j := by omega
    subst e
    exact bk_112_37 _ _ _ _ I J (i_t (nI_le (Nat.le_refl i) (by omega)) (h1 hl))
  | succ m ih =>
    intro i hi hl
    refine bk_112_37 _ _ _ _ I J (i_le j i rfl rfl (fun c => by omega) (fun _ => i_f (by decide) (isletter_m hv hT hj (fun c => ?_) (fun _ c => ?_) (by omega))))
    · refine bk_112_55 _ _ _ 0 I J (x_i i rfl ?_)
      rw [nI_1]
      refine bk_112_37 _ _ _ _ I J (i_le j (i + 1) rfl rfl (fun _ => h2 _ (fun z => c ⟨by omega, z i (by omega)⟩)) (fun _ => i_t rfl (h2 _ (fun z => c ⟨by omega, z i (by omega)⟩))))
    · refine bk_112_55 _ _ _ 1 I J (x_i i rfl ?_)
      rw [nI_1, hT i (by omega), sx_l c, l_cat (hv.2 i (by omega)) (by have := wp_56 (show i < 8 by omega) hl; omega)]
      refine ih (i + 1) (by omega) (fun k hk => ?_)
      by_cases e : k = i
      · rw [e]
        exact c
      · exact hl k (by omega)
theorem word_M (hv : TPv n b) (hT : TPm n b I) (hV : WV w v) (hW : WCm w v I J) (h0 : (∀ j, j ≤ n → a ≠ nI j) → P (some (.int (-2))) I J) (h1 : ∀ j, j ≤ n → a = nI j → isW j b → ∀ I' J', (∀ g, g ≠ 95 → I' g = I g) → I' 95 1 = 0 → (∀ i, i ≠ 1 → i ≠ 2 → I' 95 i = I 95 i) → (∀ g, g ≠ 97 → J' g = J g) → WCm (br_w w v (wp b j)) (br_v w v (wp b j)) I' J' → P (some (.int (oI (br_r w v (wp b j))))) I' J') (h2 : ∀ j, j ≤ n → a = nI j → ¬ isW j b → P (some (.int (-1))) (am_up I 95 1 0) J) : am_To (am_XX L xs) (d + 1) 112 0 [some (.ref 95), some (.int a), none, none, none, none] [] I J P := by
  have hn := hv.1
  refine bk_112_0 a I J (isin_n (by omega) hT.1 (fun z => ?_) (fun j hj ej => ?_))
  · exact bk_112_9 _ 0 I J (i_t rfl (h0 z))
  · subst ej
    have g0 : ∀ q : Int64, ¬ isW j b → am_To (am_XX L xs) (d + 1) 112 77 [some (.ref 95), none, some (.long q), none, some (.int 0), none] [] I J P := fun q z => bk_112_77 q 0 I J (i_t rfl (h2 j hj rfl z))
    have g3 : ∀ q : Int64, ¬ isW j b → am_To (am_XX L xs) (d + 1) 112 31 [some (.ref 95), some (.int (nI j)), some (.long q), none, none, none] [] I J P := fun q z => by
      refine bk_112_31 _ q I J (bk_112_37 _ _ _ _ I J ⟨fun _ => g0 q z, fun _ => i_t rfl (g0 q z)⟩)
    refine bk_112_9 _ 1 I J (i_f (by decide) (i_le j 0 rfl rfl (fun c => g3 _ (fun z => by have := z.1; omega)) (fun c => i_le 9 j rfl rfl (fun c2 => g3 _ (fun z => by have := z.2.1; omega)) (fun c2 => ?_))))
    refine word_lp hv hT.2 hj (by omega) (fun hl => ?_) (fun q hl => g0 q (fun z => hl z.2.2.1)) j 0 (by omega) (fun k hk => absurd hk (by omega))
    refine bk_112_77 _ 1 I J (i_f (by decide) (maym_all (wp_63 (by omega) hl) (fun z => ?_) (fun z => ?_)))
    · exact bk_112_91 _ 0 _ J (i_t rfl (h2 j hj rfl (fun y => z y.2.2.2)))
    · have hW2 : WCm w v (am_up I 95 1 0) J := ⟨by rw [am_up_k (by decide)]; exact hW.1, hW.2⟩
      refine bk_112_91 _ 1 _ J (i_f (by decide) (number_m hV hW2 (wp_63 (by omega) hl) (fun I' J' f1 f2 f3 hw => ?_)))
      refine bk_112_99 _ I' J' (h1 j hj rfl ⟨c, by omega, hl, z⟩ I' J' (fun g e => ?_) ?_ (fun i e1 e2 => ?_) f3 hw)
      · rw [f1 g e, am_up_row e]
      · rw [f2 1 (by decide), am_up_s]
      · rw [f2 i e2, am_up_k e1]
/-- letter: how long a word is, a byte of it -/
def lt_r (p : Nat) (N : Nat) (a : Int32) : Int32 := if a = -1 then nI N else if a < 0 then -1 else if a < nI N then nI (p / 2 ^ (8 * (N - 1 - a.toNatClampNeg)) % 256) else -1
theorem lengthof_lp {N q : Nat} (hJ : J 4 q = lN p) (hp2 : p < 2 ^ 63) (hq : q < 24) (hN8 : N ≤ 8) (hN : ∀ i, p / 2 ^ (8 * i) = 0 ↔ N ≤ i) (h : P (some (.int (nI N))) I J) : ∀ (m i c : Nat), i + m = 8 → c = (if i ≤ N then i else N) → am_To (am_XX L xs) d 39 4 [some (.ref 3), some (.int (nI q)), some (.int (nI c)), some (.int (nI i))] [] I J P := by
  intro m
  induction m with
  | zero =>
    intro i c hi hc
    have e : i = 8 := by omega
    subst e
    have e2 : c = N := by
      split at hc <;> omega
    subst e2
    exact bk_39_4 _ _ _ I J (i_t (by decide) h)
  | succ m ih =>
    intro i c hi hc
    refine bk_39_4 _ _ _ I J (i_le 8 i rfl rfl (fun c => by omega) (fun _ => x_i q rfl ?_))
    have e : ((lN p).toUInt64 >>> (((8 : Int32) * nI i).toInt64.toUInt64 &&& Int64.toUInt64 63)).toInt64 = lN (p / 2 ^ (8 * i)) := by
      rw [show (8 : Int32) * nI i = nI (8 * i) from pk_mul 8 i]
      exact l_ushrN (by omega) (by omega)
    rw [hJ, e, nI_1]
    refine i_c (l_eq0 (Nat.lt_of_le_of_lt (Nat.div_le_self _ _) hp2)) (fun z => ?_) (fun z => ?_)
    · rw [hN] at z
      refine ih (i + 1) c (by omega) ?_
      split at hc <;> split <;> omega
    · rw [hN] at z
      rw [nI_1]
      refine ih (i + 1) (c + 1) (by omega) ?_
      split at hc <;> split <;> omega
theorem lengthof_c {N q : Nat} (hJ : J 4 q = lN p) (hp2 : p < 2 ^ 63) (hq : q < 24) (hN8 : N ≤ 8) (hN : ∀ i, p / 2 ^ (8 * i) = 0 ↔ N ≤ i) (h : P (some (.int (nI N))) I J) : am_To (am_XX L xs) d 39 0 [some (.ref 3), some (.int (nI q)), none, none] [] I J P :=
  bk_39_0 _ I J (lengthof_lp hJ hp2 hq hN8 hN h 8 0 0 (by omega) (by rw [if_pos (by omega)]))
theorem sh_e {N i : Nat} (hi : i < N) : (8 : Int32) * ((nI N - 1) - nI i) = nI (8 * (N - 1 - i)) := by
  rw [show (1 : Int32) = nI 1 from rfl, pk_sub (by omega), pk_sub (by omega)]
  exact pk_mul 8 _
theorem letter_C (hV : WV w v) (hW : WCc w v I J) (h0 : (∀ j, j < w → x1 ≠ nI j) → P (some (.int (-1))) I J) (h1 : ∀ j N, j < w → x1 = nI j → 1 ≤ N → N ≤ 8 → (∀ i, v j / 2 ^ (8 * i) = 0 ↔ N ≤ i) → P (some (.int (lt_r (v j) N x2))) I J) : am_To (am_XX L xs) (d + 2) 37 0 [some (.ref 0), some (.int x1), some (.int x2)] [] I J P := by
  have hw := hV.1
  refine bk_37_0 _ _ I J (has_c hW.1 hV.1 (fun z => ?_) (fun j hj ej => ?_))
  · exact bk_37_8 _ _ 0 I J (i_t rfl (h0 z))
  · subst ej
    obtain ⟨hp, hp2⟩ := hV.2 j hj
    obtain ⟨N, hN1, hN8, hN⟩ := len_ex hp hp2
    have h2 := h1 j N hj rfl hN1 hN8 hN
    unfold lt_r at h2
    have hJ := hW.2 j hj
    refine bk_37_8 _ _ 1 I J (i_f (by decide) ⟨fun z => ?_, fun z => ?_⟩)
    · rw [if_pos z] at h2
      exact lengthof_c hJ hp2 (by omega) hN8 hN (bk_37_26 _ I J h2)
    · rw [if_neg z] at h2
      refine bk_40_0 _ _ I J (lengthof_c hJ hp2 (by omega) hN8 hN (bk_40_5 _ _ _ I J ⟨fun c => ?_, fun c => ⟨fun c2 => ?_, fun c2 => ?_⟩⟩))
      · rw [if_pos c] at h2
        exact bk_37_38 _ I J h2
      · rw [if_neg c, if_pos c2] at h2
        obtain ⟨i, hi, rfl⟩ := nI_of c
        have hi2 : i < N := (nI_ltI hi (by omega)).mp c2
        rw [nI_clamp hi] at h2
        refine x_i j rfl (bk_37_38 _ I J ?_)
        rw [hJ, sh_e hi2, l_ushrN (by omega) (by omega), lN_i]
        have e := fa_mask (v j / 2 ^ (8 * (N - 1 - i))) 8
        rw [show (255 : Int32) = nI (2 ^ 8 - 1) from rfl, e]
        exact h2
      · rw [if_neg c, if_neg c2] at h2
        exact bk_37_38 _ I J h2
theorem letter_lp {N q : Nat} (hp2 : p < 2 ^ 63) (hN8 : N ≤ 8) (hN : ∀ i, p / 2 ^ (8 * i) = 0 ↔ N ≤ i) (h : am_To (am_XX L xs) (d + 1) 113 20 [some (.ref 95), some (.int (nI q)), some (.int x2), some (.int (nI N)), some (.long (lN 0)), none] [] I J P) : ∀ (m i : Nat), i + m = N → am_To (am_XX L xs) (d + 1) 113 20 [some (.ref 95), some (.int (nI q)), some (.int x2), some (.int (nI i)), some (.long (lN (p / 2 ^ (8 * i)))), none] [] I J P := by
  intro m
  induction m with
  | zero =>
    intro i hi
    have e : i = N := by omega
    subst e
    rw [(hN i).mpr (Nat.le_refl i)]
    exact h
  | succ m ih =>
    intro i hi
    have hlt : p / 2 ^ (8 * i) < 2 ^ 63 := Nat.lt_of_le_of_lt (Nat.div_le_self _ _) hp2
    refine bk_113_20 _ _ _ _ I J (i_f (fun z => ?_) ?_)
    · rw [l_eq0 hlt, hN] at z
      omega
    · have e := l_shrN hlt (k := 8) (by decide)
      have e2 : lN (p / 2 ^ (8 * i)) >>> ((8 : Int32).toInt64 &&& 63) = lN (p / 2 ^ (8 * (i + 1))) := by
        refine (show _ = _ from e).trans ?_
        rw [Nat.div_div_eq_div_mul, ← Nat.pow_add]
        rfl
      rw [e2, nI_1]
      exact ih (i + 1) (by omega)
theorem letter_M (hV : WV w v) (hW : WCm w v I J) (h0 : (∀ j, j < w → x1 ≠ nI j) → P (some (.int (-1))) I J) (h1 : ∀ j N, j < w → x1 = nI j → 1 ≤ N → N ≤ 8 → (∀ i, v j / 2 ^ (8 * i) = 0 ↔ N ≤ i) → P (some (.int (lt_r (v j) N x2))) I J) : am_To (am_XX L xs) (d + 2) 113 0 [some (.ref 95), some (.int x1), some (.int x2), none, none, none] [] I J P := by
  have hw := hV.1
  refine bk_113_0 _ _ I J (isword_m hW.1 hV.1 (fun z => ?_) (fun j hj ej => ?_))
  · exact bk_113_5 _ _ 0 I J (i_t rfl (h0 z))
  · subst ej
    obtain ⟨hp, hp2⟩ := hV.2 j hj
    obtain ⟨N, hN1, hN8, hN⟩ := len_ex hp hp2
    have h2 := h1 j N hj rfl hN1 hN8 hN
    unfold lt_r at h2
    have hJ := hW.2 j hj
    refine bk_113_5 _ _ 1 I J (i_f (by decide) (x_i j rfl ?_))
    rw [hJ]
    have e0 : v j = v j / 2 ^ (8 * 0) := by simp
    rw [e0]
    refine letter_lp hp2 hN8 hN ?_ N 0 (by omega)
    refine bk_113_20 _ _ _ _ I J (i_t (by decide) ⟨fun z => ?_, fun z => ?_⟩)
    · rw [if_pos z] at h2
      exact h2
    · rw [if_neg z] at h2
      have e1 : nI N - 1 = nI (N - 1) := pk_sub (b := 1) hN1
      rw [e1]
      refine isin_n (m := N - 1) (by omega) rfl (fun y => ?_) (fun i hi ei => ?_)
      · refine bk_113_57 _ _ _ 0 I J (i_t rfl ?_)
        by_cases c : x2 < 0
        · rw [if_pos c] at h2
          exact h2
        · rw [if_neg c] at h2
          obtain ⟨i, hi, rfl⟩ := nI_of c
          rw [if_neg (fun q => y i (by have := (nI_ltI hi (by omega)).mp q; omega) rfl)] at h2
          exact h2
      · subst ei
        rw [if_neg (nI_pos (by omega)), if_pos (nI_lt (by omega) (by omega)), nI_clamp (by omega)] at h2
        refine bk_113_57 _ _ _ 1 I J (i_f (by decide) (x_i j rfl ?_))
        rw [hJ, sh_e (by omega), l_shrN hp2 (by omega), show (255 : Int64) = lN (2 ^ 8 - 1) from rfl, fb_maskL, lN_i]
        exact h2
end
