/-! BEST of the reference -/
/-- up s times -/
def ito (o : Nat → Option Nat) : Nat → Nat → Option Nat
  | 0, k => some k
  | s + 1, k => match o k with
    | none => none
    | some u => ito o s u
theorem ito_s {o : Nat → Option Nat} : ∀ s k, ito o (s + 1) k = (ito o s k).bind o := by
  intro s
  induction s with
  | zero =>
    intro k
    show (match o k with
      | none => none
      | some u => some u) = o k
    cases o k <;> rfl
  | succ s ih =>
    intro k
    show (match o k with
      | none => none
      | some u => ito o (s + 1) u) = (match o k with
      | none => none
      | some u => ito o s u).bind o
    cases o k with
    | none => rfl
    | some u => exact ih u
theorem ito_ab {o : Nat → Option Nat} {ab : Nat → Nat} (hF : FV o ab) : ∀ c k u, ito o (c + 1) k = some u → (ab k).testBit u = true ∧ dep ab u + (c + 1) = dep ab k := by
  intro c
  induction c with
  | zero =>
    intro k u h
    have h' : o k = some u := by
      rw [ito_s] at h
      exact h
    exact ⟨((hF.1 k u h').2.2 u).mpr (Or.inl rfl), (dep_up hF h').symm⟩
  | succ c ih =>
    intro k u h
    have h' : (match o k with
      | none => none
      | some q => ito o (c + 1) q) = some u := h
    cases hq : o k with
    | none =>
      rw [hq] at h'
      cases h'
    | some q =>
      rw [hq] at h'
      obtain ⟨a1, a2⟩ := ih q u h'
      have := dep_up hF hq
      exact ⟨((hF.1 k q hq).2.2 u).mpr (Or.inr a1), by omega⟩
theorem ab_ito {o : Nat → Option Nat} {ab : Nat → Nat} (hF : FV o ab) {p : Nat} : ∀ k, (ab k).testBit p = true → ∃ s, ito o (s + 1) k = some p := by
  refine fv_ind hF (fun k ih hp => ?_)
  cases hq : o k with
  | none =>
    rw [hF.2.1 k hq, Nat.zero_testBit] at hp
    cases hp
  | some q =>
    rcases ((hF.1 k q hq).2.2 p).mp hp with e | e
    · refine ⟨0, ?_⟩
      rw [ito_s, e]
      exact hq
    · obtain ⟨s, hs⟩ := ih q hq e
      refine ⟨s + 1, ?_⟩
      show (match o k with
        | none => none
        | some u => ito o (s + 1) u) = some p
      rw [hq]
      exact hs
/-- bits of all above, by steps -/
def abf (o : Nat → Option Nat) : Nat → Nat → Nat
  | 0, _ => 0
  | f + 1, k => match o k with
    | none => 0
    | some u => abf o f u ||| 2 ^ u
theorem abf_none {o : Nat → Option Nat} {f k : Nat} (h : o k = none) : abf o f k = 0 := by
  cases f with
  | zero => rfl
  | succ f =>
    show (match o k with
      | none => 0
      | some u => abf o f u ||| 2 ^ u) = 0
    rw [h]
theorem abf_some {o : Nat → Option Nat} {f k u : Nat} (h : o k = some u) : abf o (f + 1) k = abf o f u ||| 2 ^ u := by
  show (match o k with
    | none => 0
    | some u => abf o f u ||| 2 ^ u) = _
  rw [h]
theorem ab_of {o : Nat → Option Nat} (T : Nat → Nat) (hT : ∀ y x, o y = some x → T x < T y) (hr : ∀ y x, o y = some x → y < 24 ∧ x < 24) : ∃ ab, FV o ab := by
  have st : ∀ f k, T k < f → abf o (f + 1) k = abf o f k := by
    intro f
    induction f with
    | zero => intro k h; omega
    | succ f ih =>
      intro k h
      cases hq : o k with
      | none => rw [abf_none hq, abf_none hq]
      | some u =>
        have := hT k u hq
        rw [abf_some hq, abf_some hq, ih u (by omega)]
  have dn : ∀ f k z, (abf o f k).testBit z = true → T z < T k := by
    intro f
    induction f with
    | zero =>
      intro k z h
      have h' : (0 : Nat).testBit z = true := h
      rw [Nat.zero_testBit] at h'
      cases h'
    | succ f ih =>
      intro k z h
      cases hq : o k with
      | none =>
        rw [abf_none hq, Nat.zero_testBit] at h
        cases h
      | some u =>
        have h1 := hT k u hq
        rw [abf_some hq, fb_bit_set, Bool.or_eq_true, decide_eq_true_iff] at h
        rcases h with h | h
        · have := ih u z h
          omega
        · rw [h]
          exact h1
  have lt : ∀ f k, abf o f k < 2 ^ 24 := by
    intro f
    induction f with
    | zero => intro k; exact (by decide : 0 < 2 ^ 24)
    | succ f ih =>
      intro k
      cases hq : o k with
      | none =>
        rw [abf_none hq]
        decide
      | some u =>
        rw [abf_some hq]
        exact Nat.or_lt_two_pow (ih u) (Nat.pow_lt_pow_right (by decide) (hr k u hq).2)
  have hTb : ∀ k, k < 24 → T k < fb_sm T 24 + 1 := fun k hk => by
    have := fb_sm_part T hk
    omega
  refine ⟨fun k => abf o (fb_sm T 24 + 1) k, fun y x hy => ?_, fun y hy => abf_none hy, fun y => ?_, fun y => lt _ y⟩
  · obtain ⟨r1, r2⟩ := hr y x hy
    refine ⟨r1, r2, fun z => ?_⟩
    have h1 := hT y x hy
    have h2 := hTb y r1
    dsimp only
    rw [abf_some hy, fb_bit_set, Bool.or_eq_true, decide_eq_true_iff, ← st (fb_sm T 24) x (by omega)]
    exact or_comm
  · rw [← Bool.not_eq_true]
    intro q
    have := dn _ y y q
    omega
/-- the choice that a number spells -/
def dgo (x n k : Nat) : Nat := x / n ^ k % n
def oxo (x n k : Nat) : Option Nat := if k < n then (if dgo x n k = k then none else some (dgo x n k)) else none
theorem enc_ex {n : Nat} {dd : Nat → Nat} : ∀ m, (∀ k, k < m → dd k < n) → ∃ x, x < n ^ m ∧ ∀ k, k < m → x / n ^ k % n = dd k := by
  intro m
  induction m with
  | zero => exact fun _ => ⟨0, (by rw [Nat.pow_zero]; decide), fun k hk => absurd hk (Nat.not_lt_zero k)⟩
  | succ m ih =>
    intro h
    obtain ⟨x, h1, h2⟩ := ih (fun k hk => h k (by omega))
    have hd := h m (by omega)
    have hn : 0 < n := by omega
    have hp : 0 < n ^ m := Nat.pow_pos hn
    refine ⟨x + dd m * n ^ m, ?_, fun k hk => ?_⟩
    · have : (dd m + 1) * n ^ m ≤ n * n ^ m := Nat.mul_le_mul_right _ hd
      rw [Nat.succ_mul] at this
      rw [Nat.pow_succ, Nat.mul_comm (n ^ m) n]
      omega
    · by_cases e : k = m
      · subst e
        rw [Nat.add_mul_div_right _ _ hp, Nat.div_eq_of_lt h1, Nat.zero_add, Nat.mod_eq_of_lt hd]
      · have hkp : 0 < n ^ k := Nat.pow_pos hn
        have e1 : dd m * n ^ m = (dd m * n ^ (m - k - 1) * n) * n ^ k := by
          rw [Nat.mul_assoc, Nat.mul_assoc, ← Nat.pow_succ', ← Nat.pow_add]
          congr 2
          omega
        rw [e1, Nat.add_mul_div_right _ _ hkp, Nat.add_mul_mod_self_right]
        exact h2 k (by omega)
section
variable {L : Nat} {xs : Nat → Int32} {d : Nat} {P : Option Value → am_I → am_J → Prop} {n w : Nat} {b v : Nat → Nat} {th : Nat → Bool} {sn : Nat → Nat} {S : Nat → Nat → Nat → Nat} {kp : KP} {I : am_I} {J : am_J} {x1 : Int32} {u k p q : Nat} {o : Nat → Option Nat} {B : Nat → Nat → Prop} {mm : Nat → Nat}
theorem isbarred_m (hw : w ≤ 24) (hsn : sn 12 ≤ 60) (hSy : ∀ k, k < sn 12 → syV w (S 12 k)) (hY : Sm (sn 12) (S 12) I) (hp : p < 24) (hq : q < 24) (h1 : nt sn S p q → P (some (.int 1)) I J) (h0 : ¬ nt sn S p q → P (some (.int 0)) I J) : am_To (am_XX L xs) d 143 0 [some (.ref 95), some (.int (nI p)), some (.int (nI q)), none, none] [] I J P := by
  have lp : ∀ (m i : Nat) (f : Bool), i + m = sn 12 → (f = true ↔ ∃ k, k < i ∧ S 12 k 0 = 3 ∧ S 12 k 1 = p ∧ S 12 k 2 = q) → am_To (am_XX L xs) d 143 5 [some (.ref 95), some (.int (nI p)), some (.int (nI q)), some (.int (bI f)), some (.int (nI i))] [] I J P := by
    intro m
    induction m with
    | zero =>
      intro i f hi hf
      have e : i = sn 12 := by omega
      subst e
      refine bk_143_5 _ _ _ _ I J (i_t (by rw [hY.1]; exact nI_le (Nat.le_refl _) (by omega)) ?_)
      cases f with
      | true => exact ⟨Or.inr rfl, h1 (hf.mp rfl)⟩
      | false => exact ⟨Or.inl rfl, h0 (fun z => by have := hf.mpr z; cases this)⟩
    | succ m ih =>
      intro i f hi hf
      obtain ⟨s1, s2, s3, s4, s5⟩ := hY.2 i (by omega)
      obtain ⟨v1, v2, v3, v4, v5, v6⟩ := hSy i (by omega)
      have gt : (∃ k, k < i + 1 ∧ S 12 k 0 = 3 ∧ S 12 k 1 = p ∧ S 12 k 2 = q) → am_To (am_XX L xs) d 143 51 [some (.ref 95), some (.int (nI p)), some (.int (nI q)), none, some (.int (nI i))] [] I J P := fun z => by
        refine bk_143_51 _ _ _ I J ?_
        rw [nI_1]
        exact ih (i + 1) true (by omega) ⟨fun _ => z, fun _ => rfl⟩
      have gf : f = false → ¬ (S 12 i 0 = 3 ∧ S 12 i 1 = p ∧ S 12 i 2 = q) → am_To (am_XX L xs) d 143 55 [some (.ref 95), some (.int (nI p)), some (.int (nI q)), none, some (.int (nI i))] [] I J P := fun z1 z2 => by
        refine bk_143_55 _ _ _ I J ?_
        rw [nI_1]
        refine ih (i + 1) false (by omega) ⟨fun z => (by cases z), fun z => ?_⟩
        obtain ⟨k, k1, k2⟩ := z
        by_cases e : k = i
        · rw [e] at k2
          exact absurd k2 z2
        · have := hf.mpr ⟨k, by omega, k2⟩
          rw [z1] at this
          cases this
      refine bk_143_5 _ _ _ _ I J (i_le (sn 12) i hY.1 rfl (fun c => by omega) (fun _ => i_c bI_0 (fun z => x_i i rfl (i_eq _ 3 s2 rfl (fun c1 => x_i i rfl (i_eq _ p s3 rfl (fun c2 => x_i i rfl (i_eq _ q s4 rfl (fun c3 => gt ⟨i, by omega, c1, c2, c3⟩) (fun c3 => gf z (fun y => c3 y.2.2)))) (fun c2 => gf z (fun y => c2 y.2.1)))) (fun c1 => gf z (fun y => c1 y.1)))) (fun z => gt ?_)))
      obtain ⟨k, k1, k2⟩ := hf.mp (by simpa using z)
      exact ⟨k, by omega, k2⟩
  exact bk_143_0 _ _ I J (lp (sn 12) 0 false (by omega) ⟨fun z => (by cases z), fun z => by
    obtain ⟨k, k1, -⟩ := z
    exact absurd k1 (Nat.not_lt_zero k)⟩)
theorem holds_m (hk : k ≤ 6) (hr : ∀ y x, o y = some x → y < k ∧ x < k) (hO : ∀ i, i < k → I 120 i = oI (o i)) (hM : ∀ i, i < k → I 119 i = nI (mm i)) (hm24 : ∀ i, i < k → mm i < 24) (hB : ∀ p i, p < k → i < k → (B p i ↔ nt sn S (mm p) (mm i))) (hBk : ∀ p i, B p i → p < k ∧ i < k) (hw : w ≤ 24) (hsn : sn 12 ≤ 60) (hSy : ∀ k, k < sn 12 → syV w (S 12 k)) (hY : Sm (sn 12) (S 12) I) (h1 : (∃ ab, FV o ab ∧ ∀ i p, (ab i).testBit p = true → ¬ B p i) → P (some (.int 1)) I J) (h0 : ¬ (∃ ab, FV o ab ∧ ∀ i p, (ab i).testBit p = true → ¬ B p i) → P (some (.int 0)) I J) : am_To (am_XX L xs) (d + 1) 142 0 [some (.ref 95), some (.int (nI k)), none, none, none] [] I J P := by
  have hr24 : ∀ y x, o y = some x → y < 24 ∧ x < 24 := fun y x q => by
    have := hr y x q
    omega
  have dep_k : ∀ ab, FV o ab → ∀ y, dep ab y ≤ k := fun ab hF y => by
    have e : dep ab y = fb_ct (fun z => (ab y).testBit z) k := ct_w (by omega) (fun z hz => above_lt hF (fun y x q => (hr y x q).2) y hz)
    rw [e]
    exact fb_ct_le _ k
  have lp : ∀ (m i : Nat), i + m = k → (∀ j, j < i → (∃ s, ito o s j = none) ∧ ∀ s p, ito o (s + 1) j = some p → ¬ B p j) → am_To (am_XX L xs) (d + 1) 142 2 [some (.ref 95), some (.int (nI k)), some (.int (nI i)), none, none] [] I J P := by
    intro m
    induction m with
    | zero =>
      intro i hi hj
      have e : i = k := by omega
      subst e
      refine bk_142_2 _ _ I J (i_t (nI_le (Nat.le_refl _) (by omega)) (h1 ?_))
      have hend : ∀ y, ∃ s, ito o s y = none := fun y => by
        by_cases c : y < i
        · exact (hj y c).1
        · refine ⟨1, ?_⟩
          rw [ito_s]
          show o y = none
          cases hq : o y with
          | none => rfl
          | some x =>
            have := (hr y x hq).1
            omega
      have hT : ∃ T : Nat → Nat, ∀ y, ito o (T y) y = none ∧ ∀ s, s < T y → ito o s y ≠ none := by
        have h2 : ∀ y, ∃ t, ito o t y = none ∧ ∀ s, s < t → ito o s y ≠ none := fun y => by
          obtain ⟨t, t1, t2⟩ := pk_least (fun s => ito o s y = none) (hend y)
          exact ⟨t, t1, t2⟩
        exact Classical.axiomOfChoice h2
      obtain ⟨T, hT⟩ := hT
      obtain ⟨ab, hF⟩ := ab_of T (fun y x q => by
        have a1 := (hT y).1
        have a2 : 0 < T y := by
          rcases Nat.eq_zero_or_pos (T y) with z | z
          · rw [z] at a1
            cases a1
          · exact z
        have a3 : ito o (T y - 1) x = none := by
          have e : ito o (T y - 1 + 1) y = none := by
            rw [show T y - 1 + 1 = T y by omega]
            exact a1
          have e' : (match o y with
            | none => none
            | some u => ito o (T y - 1) u) = none := e
          rw [q] at e'
          exact e'
        rcases Nat.lt_or_ge (T y - 1) (T x) with z | z
        · exact absurd a3 ((hT x).2 _ z)
        · omega) hr24
      refine ⟨ab, hF, fun y p hp hb => ?_⟩
      obtain ⟨s, hs⟩ := ab_ito hF y hp
      exact (hj y (hBk p y hb).2).2 s p hs hb
    | succ m ih =>
      intro i hi hj
      have hik : i < k := by omega
      refine bk_142_2 _ _ I J (i_le k i rfl rfl (fun c => by omega) (fun _ => x_i i rfl ?_))
      have inner : ∀ (r c : Nat), c + r = k → (∀ s p, s < c → ito o (s + 1) i = some p → ¬ B p i) → ∀ q, ito o (c + 1) i = q → am_To (am_XX L xs) (d + 1) 142 17 [some (.ref 95), some (.int (nI k)), some (.int (nI i)), some (.int (nI c)), some (.int (oI q))] [] I J P := by
        intro r
        induction r with
        | zero =>
          intro c hc hno q hq
          cases q with
          | none =>
            refine bk_142_17 _ _ _ _ I J (i_t rfl ?_)
            rw [nI_1]
            refine ih (i + 1) (by omega) (fun j hj2 => ?_)
            by_cases e : j = i
            · subst e
              refine ⟨⟨c + 1, hq⟩, fun s p hs => ?_⟩
              rcases Nat.lt_or_ge s c with z | z
              · exact hno s p z hs
              · exfalso
                have key : ∀ t, ito o (c + 1 + t) j = none := fun t => by
                  induction t with
                  | zero => exact hq
                  | succ t iht =>
                    rw [show c + 1 + (t + 1) = (c + 1 + t) + 1 by omega, ito_s, iht]
                    rfl
                have := key (s - c)
                rw [show c + 1 + (s - c) = s + 1 by omega, hs] at this
                cases this
            · exact hj j (by omega)
          | some t =>
            have ht : t < k := by
              rw [ito_s] at hq
              cases hz : ito o c i with
              | none =>
                rw [hz] at hq
                cases hq
              | some z =>
                rw [hz] at hq
                exact (hr z t hq).2
            refine bk_142_17 _ _ _ _ I J (i_f (nI_m1 (by omega)) (i_t (by rw [nI_1]; exact nI_lt (by omega) (by omega)) (h0 ?_)))
            rintro ⟨ab, hF, -⟩
            have a1 := (ito_ab hF c i t hq).2
            have a2 := dep_k ab hF i
            omega
        | succ r ihr =>
          intro c hc hno q hq
          cases q with
          | none =>
            refine bk_142_17 _ _ _ _ I J (i_t rfl ?_)
            rw [nI_1]
            refine ih (i + 1) (by omega) (fun j hj2 => ?_)
            by_cases e : j = i
            · subst e
              refine ⟨⟨c + 1, hq⟩, fun s p hs => ?_⟩
              rcases Nat.lt_or_ge s c with z | z
              · exact hno s p z hs
              · exfalso
                have key : ∀ t, ito o (c + 1 + t) j = none := fun t => by
                  induction t with
                  | zero => exact hq
                  | succ t iht =>
                    rw [show c + 1 + (t + 1) = (c + 1 + t) + 1 by omega, ito_s, iht]
                    rfl
                have := key (s - c)
                rw [show c + 1 + (s - c) = s + 1 by omega, hs] at this
                cases this
            · exact hj j (by omega)
          | some t =>
            have ht : t < k := by
              rw [ito_s] at hq
              cases hz : ito o c i with
              | none =>
                rw [hz] at hq
                cases hq
              | some z =>
                rw [hz] at hq
                exact (hr z t hq).2
            refine bk_142_17 _ _ _ _ I J (i_f (nI_m1 (by omega)) ?_)
            rw [nI_1]
            refine i_lt k (c + 1) rfl rfl (fun z => by omega) (fun _ => x_i t rfl (x_i i rfl ?_))
            rw [hM t ht, hM i hik]
            refine isbarred_m hw hsn hSy hY (hm24 t ht) (hm24 i hik) (fun z => ?_) (fun z => ?_)
            · refine bk_142_48 _ _ _ _ 1 I J (i_f (by decide) (h0 ?_))
              rintro ⟨ab, hF, hb⟩
              exact hb i t (ito_ab hF c i t hq).1 ((hB t i ht hik).mpr z)
            · refine bk_142_48 _ _ _ _ 0 I J (i_t rfl (x_i t rfl ?_))
              rw [hO t ht]
              refine ihr (c + 1) (by omega) (fun s p hs hsp => ?_) (o t) (by rw [ito_s, hq]; rfl)
              by_cases e : s = c
              · rw [e, hq] at hsp
                cases hsp
                exact fun y => z ((hB t i ht hik).mp y)
              · exact hno s p (by omega) hsp
      rw [hO i hik]
      exact inner k 0 (by omega) (fun s p hs => absurd hs (Nat.not_lt_zero s)) (o i) (by rw [ito_s]; rfl)
  exact bk_142_0 _ I J (lp k 0 (by omega) (fun j hj => absurd hj (Nat.not_lt_zero j)))
end
