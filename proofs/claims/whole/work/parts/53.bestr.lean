/-! BEST of the reference: all choices -/
theorem pow6 : ∀ k, k ≤ 6 → ∀ m, m ≤ k → k ^ m ≤ 46656 := by decide
section
variable {L : Nat} {xs : Nat → Int32} {d : Nat} {P : Option Value → am_I → am_J → Prop} {n w : Nat} {b v : Nat → Nat} {th : Nat → Bool} {sn : Nat → Nat} {S : Nat → Nat → Nat → Nat} {kp : KP} {I : am_I} {J : am_J} {x1 : Int32} {u : Nat}
theorem sh_bit (hu : u < 2 ^ 31) {i : Nat} (hi : i < 32) : ((nI u >>> (nI i &&& 31)) &&& (1 : Int32)) = 0 ↔ u.testBit i = false := by
  rw [pk_shrN hu (nI i &&& 31) i (s_l i hi), show (1 : Int32) = nI (2 ^ 1 - 1) from rfl, fa_mask, show (0 : Int32) = nI 0 from rfl, nI_eq (by omega) (by omega), Nat.testBit_eq_decide_div_mod_eq]
  simp only [decide_eq_false_iff_not]
  omega
/-- the members are found; or they are too many -/
theorem few_m (hw : w ≤ 24) (hW : I 95 2 = nI w) (hu : u < 2 ^ w) (h1 : cb u ≤ 6 → ∀ I', (∀ g, g ≠ 119 → I' g = I g) → (∀ i, i < cb u → I' 119 i = nI (mmb u i)) → am_To (am_XX L xs) (d + 1) 124 0 [some (.ref 95), none, none] [] I' J (fun r I2 J2 => am_To (am_XX L xs) (d + 2) 141 66 [some (.ref 95), none, some (.int (nI (cb u))), none, none, none, none, none, none, none, none] (r.toList ++ []) I2 J2 P)) (h0 : ¬ cb u ≤ 6 → ∀ I', (∀ g, g ≠ 119 → I' g = I g) → P (some (.int (-1))) I' J) : am_To (am_XX L xs) (d + 2) 141 0 [some (.ref 95), some (.int (nI u)), none, none, none, none, none, none, none, none, none] [] I J P := by
  have h2w : 2 ^ w ≤ 2 ^ 24 := Nat.pow_le_pow_right (by decide) hw
  have hbw : ∀ z, u.testBit z = true → z < w := fun z hz => by
    rcases Nat.lt_or_ge z w with c | c
    · exact c
    · rw [Nat.testBit_lt_two_pow (Nat.lt_of_lt_of_le hu (Nat.pow_le_pow_right (by decide) c))] at hz
      cases hz
  have ecb : cb u = fb_ct (fun z => u.testBit z) w := ct_w hw hbw
  have lp : ∀ (m i : Nat) (I1 : am_I), i + m = w → (∀ g, g ≠ 119 → I1 g = I g) → fb_ct (fun z => u.testBit z) i ≤ 6 → (∀ j, j < fb_ct (fun z => u.testBit z) i → I1 119 j = nI (mmb u j)) → am_To (am_XX L xs) (d + 2) 141 19 [some (.ref 95), some (.int (nI u)), some (.int (nI (fb_ct (fun z => u.testBit z) i))), some (.int (nI i)), none, none, none, none, none, none, none] [] I1 J P := by
    intro m
    induction m with
    | zero =>
      intro i I1 hi f1 f2 f3
      have e : i = w := by omega
      subst e
      refine bk_141_19 _ _ _ I1 J (i_t (by rw [f1 95 (by decide), hW]; exact nI_le (Nat.le_refl _) (by omega)) ?_)
      rw [← ecb]
      exact h1 (by omega) I1 f1 (fun j hj => f3 j (by omega))
    | succ m ih =>
      intro i I1 hi f1 f2 f3
      have hcs := fb_ct_succ (fun z => u.testBit z) i
      refine bk_141_19 _ _ _ I1 J (i_le w i (by rw [f1 95 (by decide)]; exact hW) rfl (fun c => by omega) (fun _ => i_c (sh_bit (by omega) (by omega)) (fun z => ?_) (fun z => ?_)))
      · rw [z] at hcs
        rw [nI_1]
        have e := ih (i + 1) I1 (by omega) f1 (by rw [hcs]; exact f2) (fun j hj => f3 j (by rw [hcs] at hj; exact hj))
        rw [hcs] at e
        exact e
      · have z' : u.testBit i = true := by simpa using z
        rw [if_pos z'] at hcs
        have hm := fb_ct_mono (fun z => u.testBit z) (show i + 1 ≤ w by omega)
        refine i_eq (fb_ct (fun z => u.testBit z) i) 6 rfl rfl (fun c => h0 (by omega) I1 f1) (fun c => x_i _ rfl ?_)
        rw [nI_1, nI_1]
        have e := ih (i + 1) (am_up I1 119 (fb_ct (fun z => u.testBit z) i) (nI i)) (by omega) (fun g hg => by rw [am_up_row hg]; exact f1 g hg) (by omega) (fun j hj => ?_)
        · rw [hcs] at e
          exact e
        · by_cases q : j = fb_ct (fun z => u.testBit z) i
          · rw [q, am_up_s, mmb_z (by omega) z']
          · rw [am_up_k q]
            exact f3 j (by omega)
  have e0 : nI u >>> (I 95 2 &&& 31) = 0 := by
    rw [hW, pk_shrN (by omega) (nI w &&& 31) w (s_l w (by omega)), Nat.div_eq_of_lt hu]
    rfl
  exact bk_141_0 _ I J (i_f (nI_pos (by omega)) (i_t e0 (lp w 0 I (by omega) (fun _ _ => rfl) (Nat.zero_le 6) (fun j hj => absurd hj (Nat.not_lt_zero j)))))
theorem best_M0 (hA : AVv n b w v th sn S kp) (hM : MO n b w v th sn S kp I J) (hno : ∀ u, ¬ SetA w x1 u) (h : ∀ I', FM I J I' J → MO n b w v th sn S kp I' J → P (some (.int (-1))) I' J) : am_To (am_XX L xs) (d + 2) 141 0 [some (.ref 95), some (.int x1), none, none, none, none, none, none, none, none, none] [] I J P := by
  have hw := hA.2.1.1
  have h2w : 2 ^ w ≤ 2 ^ 24 := Nat.pow_le_pow_right (by decide) hw
  have hq := h I FM_rf hM
  by_cases c : x1 < 0
  · exact bk_141_0 _ I J (i_t c hq)
  · obtain ⟨u, hu, rfl⟩ := nI_of c
    by_cases c2 : u < 2 ^ w
    · refine few_m hw hM.2.1.1 c2 (fun c6 => absurd ⟨rfl, c2, c6⟩ (hno u)) (fun c6 I1 f1 => h I1 (fun g hg => ⟨f1 g (by omega), rfl⟩) ?_)
      obtain ⟨c1, c2', c3, c4⟩ := hM
      refine ⟨?_, ?_, EVm_fr c3 (by rw [f1 95 (by decide)]) (fun g a1 a2 => f1 g (by omega)), ?_⟩
      · unfold TPm at *
        rw [f1 95 (by decide), f1 96 (by decide)]
        exact c1
      · unfold WCm at *
        rw [f1 95 (by decide)]
        exact c2'
      · unfold PIm at *
        rw [f1 95 (by decide), f1 121 (by decide)]
        exact c4
    · have e : nI u >>> (I 95 2 &&& 31) = nI (u / 2 ^ w) := by
        rw [hM.2.1.1]
        exact pk_shrN hu (nI w &&& 31) w (s_l w (by omega))
      refine bk_141_0 _ I J (i_f c (i_f ?_ hq))
      rw [e]
      have hd := Nat.div_pos (Nat.le_of_not_lt c2) (Nat.two_pow_pos w)
      exact nI_ne0 hd (Nat.lt_of_le_of_lt (Nat.div_le_self _ _) hu)
theorem best_M (hA : AVv n b w v th sn S kp) (hM : MO n b w v th sn S kp I J) (hSA : SetA w x1 u) (h : ∀ g I', BestIs (cb u) (Vf sn S u) (Bf sn S u) g → FM I J I' J → MO n b w v th sn S kp I' J → P (some (.int (nI g))) I' J) : am_To (am_XX L xs) (d + 2) 141 0 [some (.ref 95), some (.int x1), none, none, none, none, none, none, none, none, none] [] I J P := by
  have hw := hA.2.1.1
  have hWv := WT_v hA.2.2.1 hw
  obtain ⟨rfl, hu, h6⟩ := hSA
  refine few_m hw hM.2.1.1 hu (fun _ I1 f1 f2 => ?_) (fun c => absurd h6 c)
  obtain ⟨c1, c2, c3, c4⟩ := hM
  have hE1 : EVm th sn S I1 := EVm_fr c3 (by rw [f1 95 (by decide)]) (fun g a1 a2 => f1 g (by omega))
  refine weighs_m hA.2.2.1 hw hE1 (fun I2 g1 hG => bk_141_66 _ I2 J ?_)
  have f2' : ∀ i, i < cb u → I2 119 i = nI (mmb u i) := fun i hi => by
    rw [g1 119 (by decide) (by decide)]
    exact f2 i hi
  have hE2 : EVm th sn S I2 := EVm_fr hE1 (by rw [g1 95 (by decide) (by decide)]) (fun g a1 a2 => g1 g (by omega) (by omega))
  have hV20 : ∀ x y, Vf sn S u x y < 2 ^ 20 := fun x y => by
    unfold Vf
    split
    · exact hWv.1 _
    · decide
  have hVw : ∀ x y, x < cb u → y < cb u → I2 113 (24 * mmb u x + mmb u y) = nI (Vf sn S u x y) := fun x y hx hy => by
    have a1 := (mmb_in hx).1
    have a2 := (mmb_in hy).1
    rw [hG.1 _ (by omega)]
    unfold Vf
    rw [if_pos ⟨hx, hy⟩]
  have hk := h6
  generalize hkk : cb u = k at *
  have hV0 : ∀ x, Vf sn S u x x = 0 := fun x => by
    unfold Vf
    split
    · rename_i q
      exact hWv.2 _ (mmb_in q.1).1
    · rfl
  generalize hVV : Vf sn S u = V at *
  have hBk : ∀ p i, Bf sn S u p i → p < k ∧ i < k := fun p i q => by
    rw [← hkk]
    exact ⟨q.1, q.2.1⟩
  have hBn : ∀ p i, p < k → i < k → (Bf sn S u p i ↔ nt sn S (mmb u p) (mmb u i)) := fun p i hp hi => by
    rw [← hkk] at hp hi
    exact ⟨fun q => q.2.2, fun q => ⟨hp, hi, q⟩⟩
  have hm24 : ∀ i, i < k → mmb u i < 24 := fun i hi => by
    rw [← hkk] at hi
    exact (mmb_in hi).1
  generalize hBB : Bf sn S u = B at *
  -- what stays
  have keep : ∀ I3 : am_I, (∀ g, g ≠ 120 → I3 g = I2 g) → FM I J I3 J ∧ MO n b w v th sn S kp I3 J := fun I3 k1 => by
    have k2 : ∀ g, g ≠ 120 → g ≠ 113 → g ≠ 114 → g ≠ 119 → I3 g = I g := fun g b1 b2 b3 b4 => by
      rw [k1 g b1, g1 g b2 b3, f1 g b4]
    refine ⟨fun g hg => ⟨k2 g (by omega) (by omega) (by omega) (by omega), rfl⟩, ?_, ?_, EVm_fr c3 (by rw [k2 95 (by decide) (by decide) (by decide) (by decide)]) (fun g a1 a2 => k2 g (by omega) (by omega) (by omega) (by omega)), ?_⟩
    · unfold TPm at *
      rw [k2 95 (by decide) (by decide) (by decide) (by decide), k2 96 (by decide) (by decide) (by decide) (by decide)]
      exact c1
    · unfold WCm at *
      rw [k2 95 (by decide) (by decide) (by decide) (by decide)]
      exact c2
    · unfold PIm at *
      rw [k2 95 (by decide) (by decide) (by decide) (by decide), k2 121 (by decide) (by decide) (by decide) (by decide)]
      exact c4
  have hp6 := pow6 k hk
  have hoxr : ∀ x y z, oxo x k y = some z → y < k ∧ z < k ∧ z ≠ y := fun x y z q => by
    unfold oxo at q
    by_cases a1 : y < k
    · rw [if_pos a1] at q
      by_cases a2 : dgo x k y = y
      · rw [if_pos a2] at q
        cases q
      · rw [if_neg a2] at q
        cases q
        exact ⟨a1, Nat.mod_lt _ (by omega), a2⟩
    · rw [if_neg a1] at q
      cases q
  have hsb : ∀ x m, fb_sm (gn V (oxo x k)) m ≤ m * 2 ^ 20 := fun x m => fb_sm_bound (fun i _ => by
    unfold gn
    cases oxo x k i with
    | none => exact Nat.zero_le _
    | some z => exact Nat.le_of_lt (hV20 z i))
  -- all numbers
  have lp : ∀ (r x g : Nat) (I3 : am_I), x + r = k ^ k → (∀ t, t ≠ 120 → I3 t = I2 t) → g < 2 ^ 25 → (∀ x', x' < x → VALo k V B (oxo x' k) → fb_sm (gn V (oxo x' k)) k ≤ g) → (g = 0 ∨ ∃ o, VALo k V B o ∧ fb_sm (gn V o) k = g) → am_To (am_XX L xs) (d + 2) 141 93 [some (.ref 95), none, some (.int (nI k)), some (.int (nI (k ^ k))), some (.int (nI g)), some (.int (nI x)), none, none, none, none, none] [] I3 J P := by
    intro r
    induction r with
    | zero =>
      intro x g I3 hx k1 k2 k3 k4
      have e : x = k ^ k := by omega
      subst e
      have hpk := hp6 k (Nat.le_refl k)
      obtain ⟨q1, q2⟩ := keep I3 k1
      refine bk_141_93 _ _ _ _ I3 J (i_t (nI_le (Nat.le_refl _) (by omega)) (h g I3 ⟨fun o ho => ?_, k4⟩ q1 q2))
      -- each choice is spelled by a number
      have ho' := ho
      obtain ⟨ab, hF, hr, hb⟩ := ho'
      obtain ⟨x, hx1, hx2⟩ := enc_ex (n := k) (dd := fun i => match o i with
        | none => i
        | some z => z) k (fun i hi => by
          cases hq : o i with
          | none => exact hi
          | some z => exact (hr i z hq).2.1)
      have eo : oxo x k = o := funext fun i => by
        unfold oxo
        by_cases a1 : i < k
        · rw [if_pos a1]
          have e1 : dgo x k i = (match o i with
            | none => i
            | some z => z) := hx2 i a1
          rw [e1]
          cases hq : o i with
          | none => rw [if_pos rfl]
          | some z =>
            dsimp only
            rw [if_neg]
            intro e2
            subst e2
            have := ((hF.1 z z hq).2.2 z).mpr (Or.inl rfl)
            rw [hF.2.2.1 z] at this
            cases this
        · rw [if_neg a1]
          cases hq : o i with
          | none => rfl
          | some z => exact absurd (hr i z hq).1 a1
      have := k3 x hx1
      rw [eo] at this
      exact this ho
    | succ r ih =>
      intro x g I3 hx k1 k2 k3 k4
      have hpk := hp6 k (Nat.le_refl k)
      refine bk_141_93 _ _ _ _ I3 J (i_le (k ^ k) x rfl rfl (fun c => by omega) (fun _ => ?_))
      -- on to the next number
      have nxt : ∀ (g' : Nat) (I4 : am_I), (∀ t, t ≠ 120 → I4 t = I2 t) → g' < 2 ^ 25 → g ≤ g' → (VALo k V B (oxo x k) → fb_sm (gn V (oxo x k)) k ≤ g') → (g' = 0 ∨ ∃ o, VALo k V B o ∧ fb_sm (gn V o) k = g') → am_To (am_XX L xs) (d + 2) 141 93 [some (.ref 95), none, some (.int (nI k)), some (.int (nI (k ^ k))), some (.int (nI g')), some (.int (nI x + 1)), none, none, none, none, none] [] I4 J P := fun g' I4 l1 l2 l3 l4 l5 => by
        rw [nI_1]
        refine ih (x + 1) g' I4 (by omega) l1 l2 (fun x' hx' hv' => ?_) l5
        by_cases e : x' = x
        · rw [e] at hv' ⊢
          exact l4 hv'
        · have := k3 x' (by omega) hv'
          omega
      have inner : ∀ (s m : Nat) (f : Bool) (I4 : am_I), m + s = k → (∀ t, t ≠ 120 → I4 t = I2 t) → (∀ i, i < m → I4 120 i = oI (oxo x k i)) → (f = true ↔ ∀ i z, i < m → oxo x k i = some z → 0 < V z i) → am_To (am_XX L xs) (d + 2) 141 112 [some (.ref 95), none, some (.int (nI k)), some (.int (nI (k ^ k))), some (.int (nI g)), some (.int (nI x)), some (.int (nI (x / k ^ m))), some (.int (nI (fb_sm (gn V (oxo x k)) m))), some (.int (bI f)), some (.int (nI m)), none] [] I4 J P := by
        intro s
        induction s with
        | zero =>
          intro m f I4 hm l1 l2 l3
          have e : m = k := by omega
          subst e
          have hs := hsb x m
          refine bk_141_112 _ _ _ _ _ _ _ _ I4 J (i_t (nI_le (Nat.le_refl _) (by omega)) (i_c bI_0 (fun z => nxt g I4 l1 k2 (Nat.le_refl g) (fun hv => ?_) k4) (fun z => i_le _ g rfl rfl (fun c => nxt g I4 l1 k2 (Nat.le_refl g) (fun _ => c) k4) (fun c => ?_))))
          · obtain ⟨ab, hF, hr, hb⟩ := hv
            have := l3.mpr (fun i z' hi q => (hr i z' q).2.2)
            rw [z] at this
            cases this
          · have hall := l3.mp (by simpa using z)
            refine holds_m (o := oxo x m) (B := B) (mm := mmb u) hk (fun y z' q => ⟨(hoxr x y z' q).1, (hoxr x y z' q).2.1⟩) l2 (fun i hi => by rw [l1 119 (by decide)]; exact f2' i hi) hm24 hBn hBk hw hA.2.2.1.2.1 hA.2.2.1.2.2 (Sm_fr hE2.2 (by rw [l1 95 (by decide)]) (fun t a1 a2 => l1 t (by omega))) (fun hv => ?_) (fun hv => ?_)
            · obtain ⟨ab, hF, hb⟩ := hv
              have hval : VALo m V B (oxo x m) := ⟨ab, hF, fun y z' q => ⟨(hoxr x y z' q).1, (hoxr x y z' q).2.1, hall y z' (hoxr x y z' q).1 q⟩, hb⟩
              exact bk_141_251 _ _ _ _ _ 1 I4 J (i_f (by decide) (nxt _ I4 l1 (by omega) (by omega) (fun _ => Nat.le_refl _) (Or.inr ⟨_, hval, rfl⟩)))
            · refine bk_141_251 _ _ _ _ _ 0 I4 J (i_t rfl (nxt g I4 l1 k2 (Nat.le_refl g) (fun hv2 => ?_) k4))
              obtain ⟨ab, hF, hr, hb⟩ := hv2
              exact absurd ⟨ab, hF, hb⟩ hv
        | succ s ihs =>
          intro m f I4 hm l1 l2 l3
          have hmk : m < k := by omega
          have hk0 : 0 < k := by omega
          have hle : x / k ^ m ≤ x := Nat.div_le_self _ _
          have hkne : ¬ nI k = 0 := nI_ne0 hk0 (by omega)
          have erem : nI (x / k ^ m) - nI (x / k ^ m) / nI k * nI k = nI (dgo x k m) := pk_rem (by omega) hk0 (by omega)
          have ediv : nI (x / k ^ m) / nI k = nI (x / k ^ (m + 1)) := by
            rw [pk_div (by omega) hk0 (by omega), Nat.div_div_eq_div_mul, ← Nat.pow_succ]
          have hdg : dgo x k m < k := Nat.mod_lt _ hk0
          have alu1 : ∀ st : List Value, am_alu .irem (.int (nI k) :: .int (nI (x / k ^ m)) :: st) = some (.int (nI (dgo x k m)) :: st) := fun st => by
            show (if nI k = 0 then none else some (Value.int (nI (x / k ^ m) - nI (x / k ^ m) / nI k * nI k) :: st)) = _
            rw [if_neg hkne, erem]
          have alu2 : am_alu .idiv [.int (nI k), .int (nI (x / k ^ m))] = some [.int (nI (x / k ^ (m + 1)))] := by
            show (if nI k = 0 then none else some [Value.int (nI (x / k ^ m) / nI k)]) = _
            rw [if_neg hkne, ediv]
          have hsm := hsb x m
          -- behind the digit
          have g141 : am_To (am_XX L xs) (d + 2) 141 141 [some (.ref 95), none, some (.int (nI k)), some (.int (nI (k ^ k))), some (.int (nI g)), some (.int (nI x)), some (.int (nI (x / k ^ m))), some (.int (nI (fb_sm (gn V (oxo x k)) m))), some (.int (bI f)), some (.int (nI m)), none] [.int (oI (oxo x k m)), .int (nI m), .ref 120] I4 J P := by
            refine bk_141_141 _ _ _ _ _ _ _ _ _ _ I4 J (x_i m rfl ⟨_, alu2, ?_⟩)
            have hl2 : ∀ i, i < m + 1 → am_up I4 120 m (oI (oxo x k m)) 120 i = oI (oxo x k i) := fun i hi => by
              by_cases e : i = m
              · rw [e, am_up_s]
              · rw [am_up_k e]
                exact l2 i (by omega)
            have hl1 : ∀ t, t ≠ 120 → am_up I4 120 m (oI (oxo x k m)) t = I2 t := fun t ht => by
              rw [am_up_row ht]
              exact l1 t ht
            -- sum and whether all weigh
            have tail : ∀ (q : Nat) (f' : Bool), q = gn V (oxo x k) m → (f' = true ↔ ∀ i z, i < m + 1 → oxo x k i = some z → 0 < V z i) → am_To (am_XX L xs) (d + 2) 141 219 [some (.ref 95), none, some (.int (nI k)), some (.int (nI (k ^ k))), some (.int (nI g)), some (.int (nI x)), some (.int (nI (x / k ^ (m + 1)))), some (.int (nI (fb_sm (gn V (oxo x k)) m))), none, some (.int (nI m)), some (.int (nI q))] [.int (bI f')] (am_up I4 120 m (oI (oxo x k m))) J P := fun q f' hq hf' => by
              refine bk_141_219 _ _ _ _ _ _ _ _ _ _ J ?_
              rw [nI_1, nI_add, hq]
              exact ihs (m + 1) f' _ (by omega) hl1 hl2 hf'
            have hzb : ∀ z, oxo x k m = some z → z < 2 ^ 31 := fun z q => by
              have := (hoxr x m z q).2.1
              omega
            refine bk_141_146 _ _ _ _ _ _ _ _ _ J (x_i m rfl ?_)
            rw [am_up_s]
            refine i_c (oI_m1 hzb) (fun c => ?_) (fun c => x_i m rfl ?_)
            · have eg : gn V (oxo x k) m = 0 := by
                unfold gn
                rw [c]
              refine bk_141_191 _ _ _ _ _ _ _ _ _ _ J (i_c bI_0 (fun z => bk_141_218 _ _ _ _ _ _ _ _ _ J (tail 0 false eg.symm ⟨fun q => (by cases q), fun q => ?_⟩)) (fun z => x_i m rfl (i_t (by rw [am_up_s, c]; rfl) (bk_141_214 _ _ _ _ _ _ _ _ _ J (tail 0 true eg.symm ⟨fun _ i z' hi q => ?_, fun _ => rfl⟩)))))
              · have := l3.mpr (fun i z' hi q2 => q i z' (by omega) q2)
                rw [z] at this
                cases this
              · by_cases e : i = m
                · rw [e, c] at q
                  cases q
                · exact l3.mp (by simpa using z) i z' (by omega) q
            · cases hz : oxo x k m with
              | none => exact absurd hz c
              | some z =>
                have hzr := hoxr x m z hz
                have eg : gn V (oxo x k) m = V z m := by
                  unfold gn
                  rw [hz]
                have hVz := hV20 z m
                rw [hz] at tail hl1 hl2
                rw [am_up_s]
                refine x_i z rfl (x_i m rfl ?_)
                have e119 : ∀ i, i < k → am_up I4 120 m (oI (some z)) 119 i = nI (mmb u i) := fun i hi => by
                  rw [hl1 119 (by decide)]
                  exact f2' i hi
                rw [e119 z hzr.2.1, e119 m hmk]
                have a1 := hm24 z hzr.2.1
                have a2 := hm24 m hmk
                refine x_i (24 * mmb u z + mmb u m) ix24 ?_
                rw [hl1 113 (by decide), hVw z m hzr.2.1 hmk]
                refine bk_141_191 _ _ _ _ _ _ _ _ _ _ J (i_c bI_0 (fun y => bk_141_218 _ _ _ _ _ _ _ _ _ J (tail _ false eg.symm ⟨fun q => (by cases q), fun q => ?_⟩)) (fun y => x_i m rfl (i_f (by rw [am_up_s]; exact nI_m1 (by omega)) (i_le (V z m) 0 rfl rfl (fun c2 => bk_141_218 _ _ _ _ _ _ _ _ _ J (tail _ false eg.symm ⟨fun q => (by cases q), fun q => ?_⟩)) (fun c2 => bk_141_214 _ _ _ _ _ _ _ _ _ J (tail _ true eg.symm ⟨fun _ i z' hi q => ?_, fun _ => rfl⟩))))))
                · have := l3.mpr (fun i z' hi q2 => q i z' (by omega) q2)
                  rw [y] at this
                  cases this
                · have := q m z (by omega) hz
                  omega
                · by_cases e : i = m
                  · rw [e, hz] at q
                    cases q
                    rw [e]
                    exact c2
                  · exact l3.mp (by simpa using y) i z' (by omega) q
          refine bk_141_112 _ _ _ _ _ _ _ _ I4 J (i_le k m rfl rfl (fun c => by omega) (fun _ => ⟨_, alu1 _, ?_⟩))
          refine bk_141_128 _ _ _ _ _ _ _ _ _ _ I4 J (i_eq (dgo x k m) m rfl rfl (fun c => ?_) (fun c => ⟨_, alu1 _, ?_⟩))
          · have eo : oxo x k m = none := by
              unfold oxo
              rw [if_pos hmk, if_pos c]
            rw [eo] at g141
            exact g141
          · have eo : oxo x k m = some (dgo x k m) := by
              unfold oxo
              rw [if_pos hmk, if_neg c]
            rw [eo] at g141
            exact g141
      have e := inner k 0 true I3 (by omega) k1 (fun i hi => absurd hi (Nat.not_lt_zero i)) ⟨fun _ i z hi => absurd hi (Nat.not_lt_zero i), fun _ => rfl⟩
      rw [Nat.pow_zero, Nat.div_one] at e
      exact e
  -- how many numbers
  have lw : ∀ (r m : Nat), m + r = k → am_To (am_XX L xs) (d + 2) 141 71 [some (.ref 95), none, some (.int (nI k)), some (.int (nI (k ^ m))), some (.int (nI m)), none, none, none, none, none, none] [] I2 J P := by
    intro r
    induction r with
    | zero =>
      intro m hm
      have e : m = k := by omega
      subst e
      exact bk_141_71 _ _ _ I2 J (i_t (nI_le (Nat.le_refl _) (by omega)) (lp (m ^ m) 0 0 I2 (by omega) (fun _ _ => rfl) (by decide) (fun x' hx' => absurd hx' (Nat.not_lt_zero x')) (Or.inl rfl)))
    | succ r ih =>
      intro m hm
      refine bk_141_71 _ _ _ I2 J (i_le k m rfl rfl (fun c => by omega) (fun _ => ?_))
      rw [nI_1, pk_mul, ← Nat.pow_succ]
      exact ih (m + 1) (by omega)
  exact lw k 0 (by omega)
end
