/-! SENSES of both -/
/-- come to from a by neighbours, staying among the members -/
def Rch (Nb : Nat → Prop) (E : Nat → Nat → Prop) (a c : Nat) : Prop := ∀ C : Nat → Prop, C a → (∀ x y, C x → Nb x → Nb y → E x y → C y) → C c
theorem Rch_rf {Nb : Nat → Prop} {E : Nat → Nat → Prop} {a : Nat} : Rch Nb E a a := fun _ h _ => h
theorem Rch_tr {Nb : Nat → Prop} {E : Nat → Nat → Prop} {a b c : Nat} (h1 : Rch Nb E a b) (h2 : Rch Nb E b c) : Rch Nb E a c := fun C ha hs => h2 C (h1 C ha hs) hs
theorem Rch_1 {Nb : Nat → Prop} {E : Nat → Nat → Prop} {x y : Nat} (hx : Nb x) (hy : Nb y) (h : E x y) : Rch Nb E x y := fun _ ha hs => hs x y ha hx hy h
theorem Rch_sy {Nb : Nat → Prop} {E : Nat → Nat → Prop} (hE : ∀ x y, E x y → E y x) {a c : Nat} (h : Rch Nb E a c) : Rch Nb E c a := h (fun z => Rch Nb E z a) Rch_rf (fun x y hx nx ny e => Rch_tr (Rch_1 ny nx (hE x y e)) hx)
theorem Rch_nb {Nb : Nat → Prop} {E : Nat → Nat → Prop} {a c : Nat} (ha : Nb a) (h : Rch Nb E a c) : Nb c := h Nb ha (fun _ _ _ _ hy _ => hy)
/-- the least of its part -/
def isRep (Nb : Nat → Prop) (E : Nat → Nat → Prop) (z : Nat) : Prop := Nb z ∧ ∀ i, i < z → Nb i → ¬ Rch Nb E i z
theorem ct_strict {u u' : Nat} (hs : ∀ z, u.testBit z = true → u'.testBit z = true) (hne : u ≠ u') (h' : u' < 2 ^ 24) : fb_ct (fun z => u.testBit z) 24 < fb_ct (fun z => u'.testBit z) 24 := by
  have h1 := ct_spl (fun z => u'.testBit z) (fun z => u.testBit z) 24
  have h2 : fb_ct (fun z => u'.testBit z && u.testBit z) 24 = fb_ct (fun z => u.testBit z) 24 := fb_ct_cong (fun z _ => by
    cases hb : u.testBit z with
    | false => rw [Bool.and_false]
    | true => rw [hs z hb]; rfl)
  have h3 : 0 < fb_ct (fun z => u'.testBit z && !u.testBit z) 24 := by
    rw [fb_ct_pos]
    apply Classical.byContradiction
    intro hno
    refine hne (Nat.eq_of_testBit_eq (fun z => ?_))
    cases hb : u.testBit z with
    | true => rw [hs z hb]
    | false =>
      cases hb' : u'.testBit z with
      | false => rfl
      | true => exact absurd ⟨z, bit_24 h' hb', by rw [hb', hb]; rfl⟩ hno
  omega
section
variable {L : Nat} {xs : Nat → Int32} {d : Nat} {P : Option Value → am_I → am_J → Prop} {n w m : Nat} {b v : Nat → Nat} {th : Nat → Bool} {sn : Nat → Nat} {S : Nat → Nat → Nat → Nat} {kp : KP} {I : am_I} {J : am_J} {x1 : Int32} {x y i j u0 : Nat} {o : Nat → Nat} {E : Nat → Nat → Prop} {Nb : Nat → Prop}
theorem partof_c (hR : NRr E I) (hE : ∀ x y, E x y → y < 24) (hN : u0 < 2 ^ 24) (hNb : ∀ z, u0.testBit z = true ↔ Nb z) (hi : Nb i) (h : ∀ u, u < 2 ^ 24 → (∀ z, u.testBit z = true ↔ Rch Nb E i z) → P (some (.int (nI u))) I J) : am_To (am_XX L xs) (d + 1) 81 0 [some (.ref 66), some (.int (nI i)), some (.int (nI u0)), none, none, none, none] [] I J P := by
  have hi24 : i < 24 := bit_24 hN ((hNb i).mpr hi)
  -- a round
  have rnd : ∀ (m r u : Nat), r + m = 24 → u < 2 ^ 24 → u.testBit i = true → (∀ z, u.testBit z = true → Rch Nb E i z) → r + 1 ≤ fb_ct (fun z => u.testBit z) 24 → am_To (am_XX L xs) (d + 1) 81 7 [some (.ref 66), none, some (.int (nI u0)), some (.int (nI u)), some (.int (nI r)), none, none] [] I J P := by
    intro m
    induction m with
    | zero =>
      intro r u hr hu h1 h2 h3
      have := fb_ct_le (fun z => u.testBit z) 24
      omega
    | succ m ih =>
      intro r u hr hu h1 h2 h3
      refine bk_81_7 _ _ _ I J (i_le 24 r rfl rfl (fun c => by omega) (fun _ => ?_))
      have lp : ∀ (k c u1 : Nat), c + k = 24 → u1 < 2 ^ 24 → (∀ z, u.testBit z = true → u1.testBit z = true) → (∀ z, u1.testBit z = true → Rch Nb E i z) → (∀ x y, x < c → u.testBit x = true → Nb y → E x y → u1.testBit y = true) → am_To (am_XX L xs) (d + 1) 81 20 [some (.ref 66), none, some (.int (nI u0)), some (.int (nI u1)), some (.int (nI r)), some (.int (nI u)), some (.int (nI c))] [] I J P := by
        intro k
        induction k with
        | zero =>
          intro c u1 hc g1 g2 g3 g4
          have e : c = 24 := by omega
          subst e
          refine bk_81_20 _ _ _ _ _ I J (i_t (by decide) (i_eq u1 u rfl rfl (fun q => ?_) (fun q => ?_)))
          · subst q
            refine h u1 g1 (fun z => ⟨g3 z, fun hz => ?_⟩)
            exact hz (fun z => u1.testBit z = true) h1 (fun x y hx nx ny e => g4 x y (bit_24 g1 hx) hx ny e)
          · rw [nI_1]
            have := ct_strict g2 (fun q2 => q q2.symm) g1
            exact ih (r + 1) u1 (by omega) g1 (g2 i h1) g3 (by omega)
        | succ k ihk =>
          intro c u1 hc g1 g2 g3 g4
          obtain ⟨p, p1, p2, p3⟩ := hR c (by omega)
          refine bk_81_20 _ _ _ _ _ I J (i_le 24 c rfl rfl (fun q => by omega) (fun _ => hasbit_c rfl rfl (by omega) (by omega) (fun z => ?_) (fun z => ?_)))
          · refine bk_81_33 _ _ _ _ _ 0 I J (i_t rfl ?_)
            rw [nI_1]
            refine ihk (c + 1) u1 (by omega) g1 g2 g3 (fun x y hx hux ny e => ?_)
            by_cases q : x = c
            · rw [q] at hux
              have := g2 c hux
              rw [z] at this
              cases this
            · exact g4 x y (by omega) hux ny e
          · refine bk_81_33 _ _ _ _ _ 1 I J (i_f (by decide) (x_i c rfl ?_))
            rw [p2, fa_and, fa_or, nI_1]
            have hc' := g3 c z
            refine ihk (c + 1) _ (by omega) (Nat.or_lt_two_pow g1 (Nat.lt_of_le_of_lt Nat.and_le_left p1)) (fun t ht => by rw [Nat.testBit_or, g2 t ht]; rfl) (fun t ht => ?_) (fun x y hx hux ny e => ?_)
            · rw [Nat.testBit_or, Bool.or_eq_true, Nat.testBit_and, Bool.and_eq_true] at ht
              rcases ht with ht | ⟨ht1, ht2⟩
              · exact g3 t ht
              · exact Rch_tr hc' (Rch_1 (Rch_nb hi hc') ((hNb t).mp ht2) ((p3 t).mp ht1))
            · rw [Nat.testBit_or, Bool.or_eq_true, Nat.testBit_and, Bool.and_eq_true]
              by_cases q : x = c
              · rw [q] at e
                exact Or.inr ⟨(p3 y).mpr e, (hNb y).mpr ny⟩
              · exact Or.inl (g4 x y (by omega) hux ny e)
      exact lp 24 0 u (by omega) hu (fun _ q => q) h2 (fun x y hx => absurd hx (Nat.not_lt_zero x))
  refine bk_81_0 _ _ I J ?_
  rw [one_shl (by omega)]
  refine rnd 24 0 (2 ^ i) (by omega) (Nat.pow_lt_pow_right (by decide) hi24) Nat.testBit_two_pow_self (fun z hz => ?_) ?_
  · rw [Nat.testBit_two_pow, decide_eq_true_iff] at hz
    rw [← hz]
    exact Rch_rf
  · have : 0 < fb_ct (fun z => (2 ^ i).testBit z) 24 := fb_ct_pos.mpr ⟨i, hi24, Nat.testBit_two_pow_self⟩
    omega
theorem parts_c (hR : NRr E I) (hE : ∀ x y, E x y → y < 24) (hx : x < 24) (h : P (some (.int (nI (fb_ct (pB (isRep (E x) E)) 24)))) I J) : am_To (am_XX L xs) (d + 2) 80 0 [some (.ref 66), some (.int (nI x)), none, none, none] [] I J P := by
  obtain ⟨u0, p1, p2, p3⟩ := hR x hx
  have lp : ∀ (k c l : Nat), c + k = 24 → l < 2 ^ 24 → (∀ z, l.testBit z = true ↔ E x z ∧ ∀ i, i < c → E x i → ¬ Rch (E x) E i z) → am_To (am_XX L xs) (d + 2) 80 12 [some (.ref 66), some (.int (nI x)), some (.int (nI l)), some (.int (nI (fb_ct (pB (isRep (E x) E)) c))), some (.int (nI c))] [] I J P := by
    intro k
    induction k with
    | zero =>
      intro c l hc hl hz
      have e : c = 24 := by omega
      subst e
      exact bk_80_12 _ _ _ _ I J (i_t (by decide) h)
    | succ k ih =>
      intro c l hc hl hz
      have hcs := fb_ct_succ (pB (isRep (E x) E)) c
      refine bk_80_12 _ _ _ _ I J (i_le 24 c rfl rfl (fun q => by omega) (fun _ => hasbit_c rfl rfl (by omega) (by omega) (fun z => ?_) (fun z => ?_)))
      · have hno : ¬ isRep (E x) E c := fun q => by
          have := (hz c).mpr ⟨q.1, q.2⟩
          rw [z] at this
          cases this
        refine bk_80_25 _ _ _ _ 0 I J (i_t rfl ?_)
        rw [nI_1]
        have e := ih (c + 1) l (by omega) hl (fun t => ?_)
        · rw [hcs, pB_f.mpr hno] at e
          exact e
        · rw [hz t]
          constructor
          · rintro ⟨q1, q2⟩
            refine ⟨q1, fun i hi hxi hr => ?_⟩
            by_cases e : i = c
            · subst e
              -- a lesser one has its part already
              apply Classical.byContradiction
              intro _
              refine hno ⟨hxi, fun i' hi' hxi' hr' => ?_⟩
              exact q2 i' hi' hxi' (Rch_tr hr' hr)
            · exact q2 i (by omega) hxi hr
          · rintro ⟨q1, q2⟩
            exact ⟨q1, fun i hi => q2 i (by omega)⟩
      · obtain ⟨r1, r2⟩ := (hz c).mp z
        refine bk_80_25 _ _ _ _ 1 I J (i_f (by decide) (x_i x rfl ?_))
        rw [p2]
        refine partof_c hR hE p1 p3 r1 (fun u hu hur => bk_80_41 _ _ _ _ _ I J ?_)
        have e1 : nI l &&& (nI u ^^^ (-1 : Int32)) = nI (l &&& (u ^^^ (2 ^ 32 - 1))) := by
          rw [show (-1 : Int32) = nI (2 ^ 32 - 1) by decide]
          have : nI u ^^^ nI (2 ^ 32 - 1) = nI (u ^^^ (2 ^ 32 - 1)) := by
            apply Int32.toBitVec_inj.1
            show BitVec.ofNat 32 u ^^^ BitVec.ofNat 32 (2 ^ 32 - 1) = BitVec.ofNat 32 (u ^^^ (2 ^ 32 - 1))
            apply BitVec.eq_of_getLsbD_eq
            intro i hi
            simp only [BitVec.getLsbD_xor, BitVec.getLsbD_ofNat, Nat.testBit_xor, hi, decide_true, Bool.true_and]
          rw [this, fa_and]
        rw [e1, nI_1, nI_1]
        have e := ih (c + 1) (l &&& (u ^^^ (2 ^ 32 - 1))) (by omega) (Nat.lt_of_le_of_lt Nat.and_le_left hl) (fun t => ?_)
        · rw [hcs, if_pos (pB_t.mpr ⟨r1, r2⟩)] at e
          exact e
        · rw [Nat.testBit_and, Bool.and_eq_true, Nat.testBit_xor, hz t, Nat.testBit_two_pow_sub_one]
          constructor
          · rintro ⟨⟨q1, q2⟩, q3⟩
            refine ⟨q1, fun i hi hxi hr => ?_⟩
            by_cases e : i = c
            · rw [e] at hr
              rw [(hur t).mpr hr, decide_eq_true (by have := hE x t q1; omega)] at q3
              cases q3
            · exact q2 i (by omega) hxi hr
          · rintro ⟨q1, q2⟩
            refine ⟨⟨q1, fun i hi => q2 i (by omega)⟩, ?_⟩
            have hut : u.testBit t = false := by
              rw [← Bool.not_eq_true, hur t]
              exact q2 c (by omega) r1
            rw [hut, decide_eq_true (by have := hE x t q1; omega)]
            rfl
  refine bk_80_0 _ I J (x_i x rfl ?_)
  rw [p2]
  exact lp 24 0 u0 (by omega) p1 (fun z => by
    rw [p3 z]
    exact ⟨fun q => ⟨q, fun i hi => absurd hi (Nat.not_lt_zero i)⟩, fun q => q.1⟩)
theorem senses_C (hA : AVv n b w v th sn S kp) (hC : CL n b w v th sn S kp I J) (h0 : (∀ j, j < w → x1 ≠ nI j) → P (some (.int (-1))) I J) (h1 : ∀ j I' m o, j < w → x1 = nI j → Srt (WT sn S) 576 m o → FC I J I' J → CL n b w v th sn S kp I' J → P (some (.int (nI (fb_ct (pB (isRep (nbr (tP (trr (WT sn S) (nt sn S) o m)) (ALf sn S) j) (nbr (tP (trr (WT sn S) (nt sn S) o m)) (ALf sn S)))) 24)))) I' J) : am_To (am_XX L xs) (d + 6) 79 0 [some (.ref 0), some (.int x1)] [] I J P := by
  have hw := hA.2.1.1
  refine bk_79_0 _ I J (has_c hC.2.1.1 hw (fun z => ?_) (fun j hj ej => ?_))
  · exact bk_79_8 _ 0 I J (i_t rfl (h0 z))
  · subst ej
    refine bk_79_8 _ 1 I J (i_f (by decide) (cur_C hA hC (fun I1 m o hS hv hT h5 hR hf hC1 _ => bk_79_15 _ I1 J ?_)))
    exact parts_c hR (fun x y e => e.2.2.1) (by omega) (bk_79_19 _ I1 J (h1 j I1 m o hj rfl hS hf hC1))
end
