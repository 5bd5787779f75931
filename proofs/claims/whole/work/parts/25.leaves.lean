/-! LEAVES: branches, places, bits, small methods of both -/
theorem i_t {c A B : Prop} (h : c) (a : A) : am_If c A B := ⟨fun _ => a, fun n => absurd h n⟩
theorem i_f {c A B : Prop} (h : ¬ c) (b : B) : am_If c A B := ⟨fun y => absurd y h, fun _ => b⟩
theorem i_c {c e A B : Prop} (h : c ↔ e) (a : e → A) (b : ¬ e → B) : am_If c A B := ⟨fun y => a (h.mp y), fun n => b (fun y => n (h.mpr y))⟩
theorem i_le {x y : Int32} {A B : Prop} (a b : Nat) (hx : x = nI a) (hy : y = nI b) (f : a ≤ b → A) (g : b < a → B) (ha : a < 2 ^ 31 := by omega) (hb : b < 2 ^ 31 := by omega) : am_If (x ≤ y) A B := by
  subst hx; subst hy
  exact ⟨fun c => f ((nI_leI ha hb).mp c), fun c => g (Nat.lt_of_not_le (fun z => c ((nI_leI ha hb).mpr z)))⟩
theorem i_lt {x y : Int32} {A B : Prop} (a b : Nat) (hx : x = nI a) (hy : y = nI b) (f : a < b → A) (g : b ≤ a → B) (ha : a < 2 ^ 31 := by omega) (hb : b < 2 ^ 31 := by omega) : am_If (x < y) A B := by
  subst hx; subst hy
  exact ⟨fun c => f ((nI_ltI ha hb).mp c), fun c => g (Nat.le_of_not_lt (fun z => c ((nI_ltI ha hb).mpr z)))⟩
theorem i_eq {x y : Int32} {A B : Prop} (a b : Nat) (hx : x = nI a) (hy : y = nI b) (f : a = b → A) (g : a ≠ b → B) (ha : a < 2 ^ 31 := by omega) (hb : b < 2 ^ 31 := by omega) : am_If (x = y) A B := by
  subst hx; subst hy
  exact ⟨fun c => f ((nI_eq ha hb).mp c), fun c => g (fun z => c ((nI_eq ha hb).mpr z))⟩
theorem nI_m1 {a : Nat} (h : a < 2 ^ 31) : nI a ≠ -1 := by
  intro e
  have h1 := congrArg Int32.toInt e
  rw [nI_toInt h] at h1
  have h2 : (-1 : Int32).toInt = -1 := by decide
  omega
theorem x_i {i : Int32} {m : Nat} {F : Nat → Prop} (j : Nat) (e : i = nI j) (h : F j) (hj : j < m := by omega) (hm : m < 2 ^ 31 := by omega) : am_Ix i m F := ⟨j, by rw [e]; exact am_ix_nI hj hm, h⟩
/-- an answer that is a number or none -/
def oI (o : Option Nat) : Int32 := match o with
  | some a => nI a
  | none => -1
theorem nI_any (x : Int32) : ∃ u : Nat, u < 2 ^ 32 ∧ x = nI u := ⟨x.toBitVec.toNat, x.toBitVec.isLt, by
  apply Int32.toBitVec_inj.1
  show _ = BitVec.ofNat 32 _
  rw [BitVec.ofNat_toNat, BitVec.setWidth_eq]⟩
theorem am_up_row {α : Type} {I : Nat → Nat → α} {h k g : Nat} {x : α} (e : g ≠ h) : am_up I h k x g = I g := funext fun _ => am_up_h e
theorem hb_e {u k : Nat} (hu : u < 2 ^ 32) (hk : k < 32) : ((((nI u).toUInt32 >>> ((nI k).toUInt32 &&& Int32.toUInt32 31)).toInt32) &&& (1 : Int32)) = 0 ↔ u.testBit k = false := by
  rw [pk_ushrN hu (nI k) k (s_u k hk), show (1 : Int32) = nI (2 ^ 1 - 1) from rfl, fa_mask, show (0 : Int32) = nI 0 from rfl, nI_eq (by omega) (by omega), Nat.testBit_eq_decide_div_mod_eq]
  simp only [decide_eq_false_iff_not]
  omega
theorem one_shl {k : Nat} (hk : k < 31) : (1 : Int32) <<< (nI k &&& 31) = nI (2 ^ k) := by
  have h : 1 * 2 ^ k < 2 ^ 32 := by
    have := Nat.pow_lt_pow_right (a := 2) (by decide) (show k < 32 by omega)
    omega
  have e := pk_shlN (n := 1) (nI k &&& 31) k (s_l k (by omega)) h
  rw [Nat.one_mul] at e
  exact e
theorem gH_e : ∀ t, t < 12 → gH t = 11 + 4 * t := by decide
theorem fH_e : ∀ t, t < 7 → fH t = 81 + 2 * t := by decide
theorem tL_e : ∀ q, q < 12 → am_rf (am_tL.getD q none) = .ref (gH q)
  | 0, _ => rfl
  | 1, _ => rfl
  | 2, _ => rfl
  | 3, _ => rfl
  | 4, _ => rfl
  | 5, _ => rfl
  | 6, _ => rfl
  | 7, _ => rfl
  | 8, _ => rfl
  | 9, _ => rfl
  | 10, _ => rfl
  | 11, _ => rfl
  | _ + 12, h => absurd h (by omega)
theorem vL_e : ∀ q, q < 7 → am_rf (am_vL.getD q none) = .ref (fH q)
  | 0, _ => rfl
  | 1, _ => rfl
  | 2, _ => rfl
  | 3, _ => rfl
  | 4, _ => rfl
  | 5, _ => rfl
  | 6, _ => rfl
  | _ + 7, h => absurd h (by omega)
/-- the cell of a link -/
def cl (k x y : Nat) : Nat := if k = 2 ∧ y < x then 576 * k + 24 * y + x else 576 * k + 24 * x + y
section
variable {L : Nat} {xs : Nat → Int32} {d : Nat} {P : Option Value → am_I → am_J → Prop} {I : am_I} {J : am_J} {w n k x y u : Nat} {a b c : Int32}
theorem has_c (hw : I 3 1 = nI w) (hw2 : w ≤ 24) (h0 : (∀ j, j < w → a ≠ nI j) → P (some (.int 0)) I J) (h1 : ∀ j, j < w → a = nI j → P (some (.int 1)) I J) : am_To (am_XX L xs) d 38 0 [some (.ref 3), some (.int a)] [] I J P := by
  refine bk_38_0 a I J ⟨fun c => h0 (fun j hj e => ?_), fun c => ⟨fun c2 => h0 (fun j hj e => ?_), fun c2 => ?_⟩⟩
  · rw [e] at c
    exact nI_pos (by omega) c
  · rw [hw, e] at c2
    exact nI_ge hj (by omega) c2
  · rcases pk_ix a (n := w) (by omega) with h | h | ⟨j, hj, e⟩
    · exact absurd h c
    · exact absurd (by rw [hw]; exact h) c2
    · exact h1 j hj e
theorem isin_m (h0 : a < b ∨ c < a → P (some (.int 0)) I J) (h1 : ¬ a < b → ¬ c < a → P (some (.int 1)) I J) : am_To (am_XX L xs) d 102 0 [some (.int a), some (.int b), some (.int c)] [] I J P :=
  bk_102_0 a b c I J ⟨fun e => h0 (Or.inl e), fun e => ⟨fun e2 => h0 (Or.inr e2), fun e2 => h1 e e2⟩⟩
theorem isin_n {m : Nat} (hm : m < 2 ^ 31) (hc : c = nI m) (h0 : (∀ j, j ≤ m → a ≠ nI j) → P (some (.int 0)) I J) (h1 : ∀ j, j ≤ m → a = nI j → P (some (.int 1)) I J) : am_To (am_XX L xs) d 102 0 [some (.int a), some (.int 0), some (.int c)] [] I J P := by
  subst hc
  refine isin_m (fun e => h0 (fun j hj z => ?_)) (fun e1 e2 => ?_)
  · subst z
    rcases e with e | e
    · exact nI_pos (by omega) e
    · exact nI_nlt hj (by omega) e
  · obtain ⟨j, hj, rfl⟩ := nI_of e1
    exact h1 j (Nat.le_of_not_lt (fun z => e2 (nI_lt z hj))) rfl
theorem isword_m (hw : I 95 2 = nI w) (hw2 : w ≤ 24) (h0 : (∀ j, j < w → a ≠ nI j) → P (some (.int 0)) I J) (h1 : ∀ j, j < w → a = nI j → P (some (.int 1)) I J) : am_To (am_XX L xs) (d + 1) 114 0 [some (.ref 95), some (.int a)] [] I J P := by
  have e0 : (nI w - 1).toInt = (w : Int) - 1 := by
    have := pk_sub_toInt (a := w) (b := 1) (by omega) (by omega)
    exact this
  refine bk_114_0 a I J ?_
  rw [hw]
  refine isin_m (fun e => bk_114_11 _ I J ⟨Or.inl rfl, h0 (fun j hj z => ?_)⟩) (fun e1 e2 => bk_114_11 _ I J ⟨Or.inr rfl, ?_⟩)
  · subst z
    rcases e with e | e
    · exact nI_pos (by omega) e
    · rw [Int32.lt_iff_toInt_lt, e0, nI_toInt (by omega)] at e
      omega
  · obtain ⟨j, hj, rfl⟩ := nI_of e1
    rw [Int32.lt_iff_toInt_lt, e0, nI_toInt hj] at e2
    exact h1 j (by omega) rfl
theorem arewords_m (hw : I 95 2 = nI w) (hw2 : w ≤ 24) (h0 : (∀ i j, i < w → j < w → a = nI i → b ≠ nI j) → P (some (.int 0)) I J) (h1 : ∀ i j, i < w → j < w → a = nI i → b = nI j → P (some (.int 1)) I J) : am_To (am_XX L xs) (d + 2) 116 0 [some (.ref 95), some (.int a), some (.int b)] [] I J P := by
  refine bk_116_0 a b I J (isword_m hw hw2 (fun e => ?_) (fun i hi ei => ?_))
  · exact bk_116_5 b 0 I J (i_t rfl (h0 (fun i j hi _ z => absurd z (e i hi))))
  · refine bk_116_5 b 1 I J (i_f (by decide) (isword_m hw hw2 (fun e => ?_) (fun j hj ej => ?_)))
    · exact bk_116_13 0 I J (i_t rfl (h0 (fun i j _ hj _ => e j hj)))
    · exact bk_116_13 1 I J (i_f (by decide) (h1 i j hi hj ei ej))
theorem areunlike_c (hw : I 3 1 = nI w) (hw2 : w ≤ 24) (h0 : (∀ i j, i < w → j < w → i ≠ j → a = nI i → b ≠ nI j) → P (some (.int 0)) I J) (h1 : ∀ i j, i < w → j < w → i ≠ j → a = nI i → b = nI j → P (some (.int 1)) I J) : am_To (am_XX L xs) (d + 1) 42 0 [some (.ref 3), some (.int a), some (.int b)] [] I J P := by
  refine bk_42_0 a b I J (has_c hw hw2 (fun e => ?_) (fun i hi ei => ?_))
  · exact bk_42_5 a b 0 I J (i_t rfl (h0 (fun i j hi _ _ z => absurd z (e i hi))))
  · refine bk_42_5 a b 1 I J (i_f (by decide) (has_c hw hw2 (fun e => ?_) (fun j hj ej => ?_)))
    · exact bk_42_13 a b 0 I J (i_t rfl (h0 (fun i j _ hj _ _ => e j hj)))
    · refine bk_42_13 a b 1 I J (i_f (by decide) (i_eq i j ei ej (fun c => ?_) (fun c => h1 i j hi hj c ei ej)))
      refine h0 (fun i' j' hi' hj' n z1 z2 => n ?_)
      have e1 := (nI_eq (by omega) (by omega)).mp (ei.symm.trans z1)
      have e2 := (nI_eq (by omega) (by omega)).mp (ej.symm.trans z2)
      omega
theorem hasbit_c (ha : a = nI u) (hb : b = nI k) (hu : u < 2 ^ 32) (hk : k < 32) (h0 : u.testBit k = false → P (some (.int 0)) I J) (h1 : u.testBit k = true → P (some (.int 1)) I J) : am_To (am_XX L xs) d 62 0 [some (.int a), some (.int b)] [] I J P := by
  subst ha; subst hb
  exact bk_62_0 _ _ I J (i_c (hb_e hu hk) h0 (fun z => h1 (by simpa using z)))
theorem cellof_c (ha : a = nI k) (hb : b = nI x) (hc : c = nI y) (hk : k < 4) (hx : x < 24) (hy : y < 24) (h : P (some (.int (nI (cl k x y)))) I J) : am_To (am_XX L xs) d 26 0 [some (.int a), some (.int b), some (.int c), none, none, none] [] I J P := by
  subst ha; subst hb; subst hc
  have e : ∀ p q : Nat, ((nI k * (576 : Int32)) + (nI p * (24 : Int32))) + nI q = nI (576 * k + 24 * p + q) := fun p q => by
    rw [show (576 : Int32) = nI 576 from rfl, show (24 : Int32) = nI 24 from rfl, pk_mul, pk_mul, nI_add, nI_add, Nat.mul_comm k, Nat.mul_comm p]
  have l0 : ¬ (k = 2 ∧ y < x) → am_To (am_XX L xs) d 26 14 [some (.int (nI k)), some (.int (nI x)), some (.int (nI y)), none, none, none] [] I J P := fun z => by
    refine bk_26_14 _ _ _ I J (bk_26_15 _ _ _ 0 I J (i_t rfl (bk_26_25 _ _ _ 0 _ I J (i_t rfl (bk_26_36 _ _ _ I J ?_)))))
    rw [e]
    unfold cl at h
    rw [if_neg z] at h
    exact h
  refine bk_26_0 _ _ _ I J (i_eq k 2 rfl rfl (fun z => i_le x y rfl rfl (fun z2 => l0 (by omega)) (fun z2 => ?_)) (fun z => l0 (by omega)))
  refine bk_26_15 _ _ _ 1 I J (i_f (by decide) (bk_26_25 _ _ _ 1 _ I J (i_f (by decide) (bk_26_36 _ _ _ I J ?_))))
  rw [e]
  unfold cl at h
  rw [if_pos ⟨z, z2⟩] at h
  exact h
theorem one_m (h : P (some (.int (if a = 0 then 0 else 1))) I J) : am_To (am_XX L xs) d 131 0 [some (.int a)] [] I J P := by
  refine bk_131_0 a I J ⟨fun z => ?_, fun z => ?_⟩
  · rw [if_pos z] at h
    exact h
  · rw [if_neg z] at h
    exact h
theorem holds_c (hn : I 1 1 = nI n) (hn2 : n ≤ 200) (h0 : (∀ j, j ≤ n → a ≠ nI j) → P (some (.int 0)) I J) (h1 : ∀ j, j ≤ n → a = nI j → P (some (.int 1)) I J) : am_To (am_XX L xs) d 14 0 [some (.ref 1), some (.int a)] [] I J P := by
  refine bk_14_0 a I J ⟨fun c => h0 (fun j hj e => ?_), fun c => ⟨fun c2 => h0 (fun j hj e => ?_), fun c2 => ?_⟩⟩
  · rw [e] at c
    exact nI_pos (by omega) c
  · rw [hn, e] at c2
    exact nI_nlt hj (by omega) c2
  · obtain ⟨j, hj, rfl⟩ := nI_of c
    rw [hn] at c2
    exact h1 j (Nat.le_of_not_lt (fun z => c2 (nI_lt z hj))) rfl
theorem isfull_c (t : Nat) (ht : t < 13) (hn : I (gH t) 3 = nI n) (hn2 : n ≤ gN t) (hg : gN t ≤ 60) (h0 : n < gN t → P (some (.int 0)) I J) (h1 : n = gN t → P (some (.int 1)) I J) : am_To (am_XX L xs) d 28 0 [some (.ref (gH t))] [] I J P :=
  bk_28_0 I J t ht (i_lt n (gN t) hn rfl h0 (fun z => h1 (by omega)))
theorem isletter_c (ha : a = nI x) (hx : x < 256) (h0 : ¬ (97 ≤ x ∧ x ≤ 122) → P (some (.int 0)) I J) (h1 : 97 ≤ x ∧ x ≤ 122 → P (some (.int 1)) I J) : am_To (am_XX L xs) d 16 0 [some (.int a)] [] I J P :=
  bk_16_0 a I J (i_lt x 97 ha rfl (fun z => h0 (by omega)) (fun z => i_lt 122 x rfl ha (fun z2 => h0 (by omega)) (fun z2 => h1 (by omega))))
theorem isblank_c (ha : a = nI x) (hx : x < 256) (h0 : ¬ (x = 32 ∨ x = 10) → P (some (.int 0)) I J) (h1 : x = 32 ∨ x = 10 → P (some (.int 1)) I J) : am_To (am_XX L xs) d 20 0 [some (.int a)] [] I J P :=
  bk_20_0 a I J (i_eq x 32 ha rfl (fun z => h1 (by omega)) (fun z => i_eq x 10 ha rfl (fun z2 => h1 (by omega)) (fun z2 => h0 (by omega))))
end
