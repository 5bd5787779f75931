/-! OVER, COUNT of both -/
def ovB (p par : Nat → Option Nat) (ab : Nat → Nat) (q : Nat) : Nat → Bool := fun y => match q with
  | 0 => (p y).isSome && decide (p y = par y)
  | 1 => (p y).isSome && !decide (p y = par y)
  | 2 => (par y).isSome && !decide (p y = par y)
  | _ => match p y with
    | some x => (ab x).testBit y
    | none => false
theorem ct_spl (A B : Nat → Bool) : ∀ n, fb_ct A n = fb_ct (fun y => A y && B y) n + fb_ct (fun y => A y && !B y) n := by
  intro n
  induction n with
  | zero => rfl
  | succ n ih =>
    rw [fb_ct_succ, fb_ct_succ, fb_ct_succ, ih]
    cases A n <;> cases B n <;> simp <;> omega
theorem oI_inj {a c : Option Nat} (ha : ∀ z, a = some z → z < 2 ^ 31) (hc : ∀ z, c = some z → z < 2 ^ 31) : oI a = oI c ↔ a = c := by
  cases c with
  | none => exact oI_m1 ha
  | some z => exact oI_eq ha (hc z rfl)
theorem sw95 : am_sw 101 (nI 0) [(0, 44), (1, 63), (2, 82)] = 44 ∧ am_sw 101 (nI 1) [(0, 44), (1, 63), (2, 82)] = 63 ∧ am_sw 101 (nI 2) [(0, 44), (1, 63), (2, 82)] = 82 ∧ am_sw 101 (nI 3) [(0, 44), (1, 63), (2, 82)] = 101 := by decide
theorem srt_ct {W : Nat → Nat} : ∀ (c n : Nat) (o : Nat → Nat), Srt W c n o → n = fb_ct (fun e => decide (0 < W e)) c := by
  intro c
  induction c with
  | zero =>
    intro n o h
    have := srt_n h
    show n = 0
    omega
  | succ c ih =>
    intro n o h
    obtain ⟨s1, s2, s3⟩ := h
    rw [fb_ct_succ]
    by_cases hc : 0 < W c
    · rw [if_pos (decide_eq_true hc)]
      obtain ⟨i, hi, ei⟩ := s3 c (by omega) hc
      have h2 := ih (n - 1) (fun k => if k < i then o k else o (k + 1)) ⟨fun a e hae he => ?_, fun a ha => ?_, fun e he hw => ?_⟩
      · omega
      · dsimp only
        by_cases q1 : a < i
        · rw [if_pos q1]
          by_cases q2 : e < i
          · rw [if_pos q2]
            exact s1 a e hae (by omega)
          · rw [if_neg q2]
            exact s1 a (e + 1) (by omega) (by omega)
        · rw [if_neg q1, if_neg (by omega)]
          exact s1 (a + 1) (e + 1) (by omega) (by omega)
      · dsimp only
        have key : ∀ k, k < n → k ≠ i → o k < c ∧ 0 < W (o k) := fun k hk hne => by
          have a1 := s2 k hk
          have a2 : o k ≠ c := fun e => by
            rcases Nat.lt_or_ge k i with q | q
            · have := s1 k i q hi
              rw [e, ei] at this
              unfold bf at this
              omega
            · have := s1 i k (by omega) hk
              rw [e, ei] at this
              unfold bf at this
              omega
          omega
        by_cases q1 : a < i
        · rw [if_pos q1]
          exact key a (by omega) (by omega)
        · rw [if_neg q1]
          exact key (a + 1) (by omega) (by omega)
      · obtain ⟨k, hk, ek⟩ := s3 e (by omega) hw
        have hki : k ≠ i := fun q => by
          rw [q, ei] at ek
          omega
        rcases Nat.lt_or_ge k i with q | q
        · exact ⟨k, by omega, by dsimp only; rw [if_pos q]; exact ek⟩
        · refine ⟨k - 1, by omega, ?_⟩
          dsimp only
          rw [if_neg (by omega), show k - 1 + 1 = k by omega]
          exact ek
    · rw [if_neg (by simpa using hc), Nat.add_zero]
      refine ih n o ⟨s1, fun i hi => ?_, fun e he hw => s3 e (by omega) hw⟩
      have a1 := s2 i hi
      have a2 : o i ≠ c := fun e => by
        rw [e] at a1
        omega
      omega
section
variable {L : Nat} {xs : Nat → Int32} {d : Nat} {P : Option Value → am_I → am_J → Prop} {n w m q : Nat} {b v : Nat → Nat} {th : Nat → Bool} {sn : Nat → Nat} {S : Nat → Nat → Nat → Nat} {kp : KP} {I : am_I} {J : am_J} {x1 x2 : Int32} {x y i j : Nat} {p par : Nat → Option Nat} {ab o : Nat → Nat}
theorem isone_c (hF : FV par ab) (hpv : ∀ y x, p y = some x → x < 24) (hp : ∀ y, y < 24 → I 74 y = oI (p y)) (ht : ∀ y, y < 24 → I 69 y = oI (par y)) (ha : ∀ y, y < 24 → I 68 y = nI (ab y)) (hq : q ≤ 3) (hy : y < 24) (h : P (some (.int (bI (ovB p par ab q y)))) I J) : am_To (am_XX L xs) (d + 1) 95 0 [some (.ref 73), some (.ref 66), some (.int (nI q)), some (.int (nI y)), none, none] [] I J P := by
  have b1 : ∀ z, p y = some z → z < 2 ^ 31 := fun z e => by have := hpv y z e; omega
  have b2 : ∀ z, par y = some z → z < 2 ^ 31 := fun z e => by have := (hF.1 y z e).2.1; omega
  refine bk_95_0 _ _ I J (x_i y rfl (x_i y rfl ?_))
  rw [hp y hy, ht y hy]
  have s0 : ∀ o : Option Nat, o = none → o.isSome = false := fun o e => by rw [e]; rfl
  have s1 : ∀ o : Option Nat, o ≠ none → o.isSome = true := fun o e => by
    cases o with
    | none => exact absurd rfl e
    | some z => rfl
  unfold ovB at h
  match q, hq with
  | 0, _ =>
    rw [sw95.1]
    refine am_wk (am_ln (am_ln (am_ln (am_ln (am_lv (am_lv am_l0)))))) (bk_95_44 (oI (p y)) (oI (par y)) I J (i_c (oI_m1 b1) (fun c => ?_) (fun c => i_c (oI_inj b1 b2) (fun e => ?_) (fun e => ?_))))
    · rw [s0 _ c] at h
      exact h
    · rw [s1 _ c, decide_eq_true e] at h
      exact h
    · rw [s1 _ c, decide_eq_false e] at h
      exact h
  | 1, _ =>
    rw [sw95.2.1]
    refine am_wk (am_ln (am_ln (am_ln (am_ln (am_lv (am_lv am_l0)))))) (bk_95_63 (oI (p y)) (oI (par y)) I J (i_c (oI_m1 b1) (fun c => ?_) (fun c => i_c (oI_inj b1 b2) (fun e => ?_) (fun e => ?_))))
    · rw [s0 _ c] at h
      exact h
    · rw [s1 _ c, decide_eq_true e] at h
      exact h
    · rw [s1 _ c, decide_eq_false e] at h
      exact h
  | 2, _ =>
    rw [sw95.2.2.1]
    refine am_wk (am_ln (am_ln (am_ln (am_ln (am_lv (am_lv am_l0)))))) (bk_95_82 (oI (p y)) (oI (par y)) I J (i_c (oI_m1 b2) (fun c => ?_) (fun c => i_c (oI_inj b1 b2) (fun e => ?_) (fun e => ?_))))
    · rw [s0 _ c] at h
      exact h
    · rw [s1 _ c, decide_eq_true e] at h
      exact h
    · rw [s1 _ c, decide_eq_false e] at h
      exact h
  | 3, _ =>
    rw [sw95.2.2.2]
    refine am_wk (am_ln (am_lv (am_ln (am_lv (am_lv (am_ln am_l0)))))) (bk_95_101 (nI y) (oI (p y)) I J (i_c (oI_m1 b1) (fun c => ?_) (fun c => ?_)))
    · rw [c] at h
      exact h
    · cases hx : p y with
      | none => exact absurd hx c
      | some x =>
        rw [hx] at h
        dsimp only at h
        have hx24 := hpv y x hx
        have := hF.2.2.2 x
        refine x_i x rfl (hasbit_c (ha x hx24) rfl (by omega) (by omega) (fun z => ?_) (fun z => ?_))
        · rw [z] at h
          exact bk_95_121 0 I J (i_t rfl h)
        · rw [z] at h
          exact bk_95_121 1 I J (i_f (by decide) h)
  | q + 4, hq => exact absurd hq (by omega)
theorem over_C (hA : AVv n b w v th sn S kp) (hC : CL n b w v th sn S kp I J) (hN : kp = none → P (some (.int (-1))) I J) (h0 : ∀ p, kp = some p → (∀ j, j ≤ 3 → x1 ≠ nI j) → ∀ I', FC I J I' J → CL n b w v th sn S kp I' J → P (some (.int (-1))) I' J) (h1 : ∀ p q I' m o, kp = some p → q ≤ 3 → x1 = nI q → Srt (WT sn S) 576 m o → FC I J I' J → CL n b w v th sn S kp I' J → P (some (.int (nI (fb_ct (ovB p (tP (trr (WT sn S) (nt sn S) o m)) (tA (trr (WT sn S) (nt sn S) o m)) q) 24)))) I' J) : am_To (am_XX L xs) (d + 6) 93 0 [some (.ref 0), some (.int x1)] [] I J P := by
  have hw := hA.2.1.1
  cases hk : kp with
  | none =>
    have hP := hC.2.2.2.2.2.2
    rw [hk] at hP
    exact bk_93_0 _ I J (i_t hP (hN hk))
  | some p =>
    have hP := hC.2.2.2.2.2.2
    rw [hk] at hP
    have hK := hA.2.2.2 p hk
    refine bk_93_0 _ I J (i_f (by rw [hP.1]; decide) (cur_C hA hC (fun I1 m o hS hv hT h5 hR hf hC1 _ => bk_93_18 _ I1 J ?_)))
    have hP1 := hC1.2.2.2.2.2.2
    rw [hk] at hP1
    refine bk_94_0 _ I1 J ⟨fun c => bk_93_22 _ I1 J (h0 p hk (fun j hj e => ?_) I1 hf hC1), fun c => ⟨fun c2 => ?_, fun c2 => bk_93_22 _ I1 J (h0 p hk (fun j hj e => ?_) I1 hf hC1)⟩⟩
    · rw [e] at c
      exact nI_pos (by omega) c
    · obtain ⟨q, hq, eq⟩ := nI_of2 (M := 3) (n := 3) (by decide) c c2
      subst eq
      have hans := h1 p q I1 m o hk hq rfl hS hf hC1
      generalize hs : trr (WT sn S) (nt sn S) o m = s at *
      have lp : ∀ (k i : Nat), i + k = 24 → am_To (am_XX L xs) (d + 5) 94 16 [some (.ref 73), some (.ref 66), some (.int (nI q)), some (.int (nI (fb_ct (ovB p (tP s) (tA s) q) i))), some (.int (nI i))] [] I1 J (fun r I2 J2 => am_To (am_XX L xs) (d + 6) 93 22 [none, none] (r.toList ++ []) I2 J2 P) := by
        intro k
        induction k with
        | zero =>
          intro i hi
          have e : i = 24 := by omega
          subst e
          exact bk_94_16 _ _ _ I1 J (i_t (by decide) (bk_93_22 _ I1 J hans))
        | succ k ih =>
          intro i hi
          have e := ih (i + 1) (by omega)
          rw [fb_ct_succ] at e
          refine bk_94_16 _ _ _ I1 J (i_le 24 i rfl rfl (fun c => by omega) (fun _ => isone_c hv.1 (fun y x z => by have := (hK y x z).2.1; omega) hP1.2 hT.1 hT.2.1 hq (by omega) ?_))
          cases hb : ovB p (tP s) (tA s) q i with
          | false =>
            rw [hb] at e
            refine bk_94_31 _ _ _ 0 I1 J (i_t rfl ?_)
            rw [nI_1]
            exact e
          | true =>
            rw [hb, if_pos rfl] at e
            refine bk_94_31 _ _ _ 1 I1 J (i_f (by decide) ?_)
            rw [nI_1, nI_1]
            exact e
      exact lp 24 0 (by omega)
    · rw [e] at c2
      exact c2 (nI_le hj (by decide))
theorem over_M (hA : AVv n b w v th sn S kp) (hM : MO n b w v th sn S kp I J) (hk : kp = some p) (hq : q ≤ 3) (hS : Srt (WT sn S) 576 m o) (h : ∀ I', FM I J I' J → MO n b w v th sn S kp I' J → P (some (.int (nI (fb_ct (ovB p (tP (trr (WT sn S) (nt sn S) o m)) (tA (trr (WT sn S) (nt sn S) o m)) q) 24)))) I' J) : am_To (am_XX L xs) (d + 3) 145 0 [some (.ref 95), some (.int (nI q)), none, none, none] [] I J P := by
  have hw := hA.2.1.1
  have hv := trr_v (NT := nt sn S) (WT_v hA.2.2.1 hw) hS m (Nat.le_refl m)
  have hP := hM.2.2.2
  rw [hk] at hP
  have hK := hA.2.2.2 p hk
  refine bk_145_0 _ I J (i_f (by rw [hP.1]; decide) (isin_n (m := 3) (by omega) rfl (fun z => absurd rfl (z q hq)) (fun _ _ _ => bk_145_13 _ 1 I J (i_f (by decide) (grows_M hA hM hS (fun I1 f1 hM1 hG hT => bk_145_22 _ I1 J ?_))))))
  have hans := h I1 f1 hM1
  have hP1 := hM1.2.2.2
  rw [hk] at hP1
  have htw : ∀ y x, tP (trr (WT sn S) (nt sn S) o m) y = some x → y < w := fun y x z => (tr_w hA hS z).1
  generalize hs : trr (WT sn S) (nt sn S) o m = s at *
  have e0 : ∀ y, ovB p (tP s) (tA s) 0 y = true → y < w := fun y hy => by
    replace hy : ((p y).isSome && decide (p y = tP s y)) = true := hy
    rw [Bool.and_eq_true, Option.isSome_iff_exists] at hy
    obtain ⟨⟨x, hx⟩, -⟩ := hy
    exact (hK y x hx).1
  have e3 : ∀ y, ovB p (tP s) (tA s) 3 y = true → y < w := fun y hy => by
    replace hy : (match p y with
      | some x => (tA s x).testBit y
      | none => false) = true := hy
    cases hx : p y with
    | none =>
      rw [hx] at hy
      cases hy
    | some x => exact (hK y x hx).1
  have b1 : ∀ y z, p y = some z → z < 2 ^ 31 := fun y z e => by have := (hK y z e).2.1; omega
  have b2 : ∀ y z, tP s y = some z → z < 2 ^ 31 := fun y z e => by have := (hv.1.1 y z e).2.1; omega
  have lp : ∀ (k i : Nat), i + k = w → am_To (am_XX L xs) (d + 3) 145 29 [some (.ref 95), some (.int (nI q)), some (.int (nI (fb_ct (ovB p (tP s) (tA s) 0) i))), some (.int (nI (fb_ct (ovB p (tP s) (tA s) 3) i))), some (.int (nI i))] [] I1 J P := by
    intro k
    induction k with
    | zero =>
      intro i hi
      have e : i = w := by omega
      subst e
      have c0 := ct_w hw e0
      have c3 := ct_w hw e3
      refine bk_145_29 _ _ _ _ I1 J (i_t (by rw [hM1.2.1.1]; exact nI_le (Nat.le_refl _) (by omega)) (i_eq q 0 rfl rfl (fun c => ?_) (fun n0 => i_eq q 1 rfl rfl (fun c => ?_) (fun n1 => i_eq q 2 rfl rfl (fun c => ?_) (fun n2 => ?_)))))
      · rw [c, c0] at hans
        exact hans
      · rw [c] at hans
        have hsp := ct_spl (fun y => (p y).isSome) (fun y => decide (p y = tP s y)) 24
        rw [hP1.2.1, ← c0, pk_sub (by rw [hsp]; exact Nat.le_add_right _ _)]
        rw [show fb_ct (fun y => (p y).isSome) 24 - fb_ct (ovB p (tP s) (tA s) 0) 24 = fb_ct (ovB p (tP s) (tA s) 1) 24 by
          rw [hsp]
          exact Nat.add_sub_cancel_left _ _]
        exact hans
      · rw [c] at hans
        have hsp := ct_spl (fun y => (tP s y).isSome) (fun y => decide (p y = tP s y)) 24
        have ecomm : fb_ct (fun y => (tP s y).isSome && decide (p y = tP s y)) 24 = fb_ct (ovB p (tP s) (tA s) 0) 24 := fb_ct_cong (fun y _ => by
          show _ = ((p y).isSome && decide (p y = tP s y))
          by_cases z : p y = tP s y
          · rw [z]
          · rw [decide_eq_false z, Bool.and_false, Bool.and_false])
        rw [ecomm] at hsp
        rw [hT.2.2.1, hv.2.2.1, ← c0, pk_sub (by rw [hsp]; exact Nat.le_add_right _ _)]
        rw [show fb_ct (fun y => (tP s y).isSome) 24 - fb_ct (ovB p (tP s) (tA s) 0) 24 = fb_ct (ovB p (tP s) (tA s) 2) 24 by
          rw [hsp]
          exact Nat.add_sub_cancel_left _ _]
        exact hans
      · have e3' : q = 3 := by omega
        rw [e3', c3] at hans
        exact hans
    | succ k ih =>
      intro i hi
      have e := ih (i + 1) (by omega)
      rw [fb_ct_succ, fb_ct_succ] at e
      refine bk_145_29 _ _ _ _ I1 J (i_le w i hM1.2.1.1 rfl (fun c => by omega) (fun _ => x_i i rfl ?_))
      rw [hP1.2.2 i (by omega)]
      refine i_c (oI_m1 (b1 i)) (fun c => ?_) (fun c => x_i i rfl (x_i i rfl ?_))
      · have z0 : ovB p (tP s) (tA s) 0 i = false := by
          show ((p i).isSome && decide (p i = tP s i)) = false
          rw [c]
          rfl
        have z3 : ovB p (tP s) (tA s) 3 i = false := by
          show (match p i with
            | some x => (tA s x).testBit i
            | none => false) = false
          rw [c]
        rw [z0, z3] at e
        rw [nI_1]
        exact e
      · rw [hP1.2.2 i (by omega), hT.1 i (by omega)]
        cases hx : p i with
        | none => exact absurd hx c
        | some x =>
          obtain ⟨k1, k2, k3⟩ := hK i x hx
          have z3 : ovB p (tP s) (tA s) 3 i = (tA s x).testBit i := by
            show (match p i with
              | some x => (tA s x).testBit i
              | none => false) = _
            rw [hx]
          have tail : ∀ r : Int32, nI (fb_ct (ovB p (tP s) (tA s) 0) i) + r = nI (fb_ct (ovB p (tP s) (tA s) 0) i + if ovB p (tP s) (tA s) 0 i = true then 1 else 0) → am_To (am_XX L xs) (d + 3) 145 78 [some (.ref 95), some (.int (nI q)), none, some (.int (nI (fb_ct (ovB p (tP s) (tA s) 3) i))), some (.int (nI i))] [.int r, .int (nI (fb_ct (ovB p (tP s) (tA s) 0) i))] I1 J P := fun r hr => by
            refine bk_145_78 _ _ _ _ _ I1 J (x_i i rfl ?_)
            rw [hP1.2.2 i (by omega), hx, hr]
            refine isover_m hv.1 hT.1 (by omega) (by omega) (fun z => ?_) (fun z => ?_)
            · have zb : (tA s x).testBit i = true := by
                rcases z with z | z
                · exact absurd z.symm k3
                · exact z
              rw [z3, if_pos zb] at e
              refine bk_145_94 _ _ _ _ _ I1 J (one_m (bk_145_97 _ _ _ _ _ I1 J ?_))
              rw [if_neg (show ¬ (1 : Int32) = 0 by decide), nI_1, nI_1]
              exact e
            · have zb : (tA s x).testBit i = false := by
                rw [← Bool.not_eq_true]
                exact fun q => z (Or.inr q)
              rw [z3, zb] at e
              refine bk_145_94 _ _ _ _ _ I1 J (one_m (bk_145_97 _ _ _ _ _ I1 J ?_))
              rw [if_pos rfl, Int32.add_zero, nI_1]
              exact e
          refine i_c (oI_inj (a := some x) (fun z hz => b1 i z (by rw [hx]; exact hz)) (b2 i)) (fun z => ?_) (fun z => ?_)
          · refine bk_145_75 _ _ _ _ _ I1 J (one_m (tail _ ?_))
            rw [if_neg (by decide), if_pos (by
              show ((p i).isSome && decide (p i = tP s i)) = true
              rw [hx, decide_eq_true z]
              rfl), nI_1]
          · refine bk_145_75 _ _ _ _ _ I1 J (one_m (tail _ ?_))
            rw [if_pos rfl, if_neg (by
              show ¬ ((p i).isSome && decide (p i = tP s i)) = true
              rw [hx, decide_eq_false z]
              simp), Int32.add_zero]
            rfl
  exact lp w 0 (by omega)
theorem over_M0 (hA : AVv n b w v th sn S kp) (hM : MO n b w v th sn S kp I J) (h : kp = none ∨ (∀ j, j ≤ 3 → x1 ≠ nI j)) (hq : P (some (.int (-1))) I J) : am_To (am_XX L xs) (d + 1) 145 0 [some (.ref 95), some (.int x1), none, none, none] [] I J P := by
  have hP := hM.2.2.2
  cases hk : kp with
  | none =>
    rw [hk] at hP
    exact bk_145_0 _ I J (i_t hP hq)
  | some p =>
    rw [hk] at hP
    refine bk_145_0 _ I J (i_f (by rw [hP.1]; decide) (isin_n (m := 3) (by omega) rfl (fun z => bk_145_13 _ 0 I J (i_t rfl hq)) (fun j hj e => ?_)))
    rcases h with h | h
    · rw [hk] at h
      cases h
    · exact absurd e (h j hj)
/-- count -/
theorem sw96 (a : Int32) : (∃ q, q ≤ 5 ∧ a = nI q) ∨ ((∀ q, q ≤ 5 → a ≠ nI q) ∧ am_sw 91 a [(0, 40), (1, 48), (2, 56), (3, 67), (4, 75), (5, 83)] = 91 ∧ am_sw 133 a [(0, 40), (1, 45), (2, 73), (3, 78), (4, 83), (5, 92)] = 133) := by
  by_cases h : ∃ q, q ≤ 5 ∧ a = nI q
  · exact Or.inl h
  · have h' : ∀ q, q ≤ 5 → a ≠ nI q := fun q hq e => h ⟨q, hq, e⟩
    have h0 : ¬ a = 0 := h' 0 (by omega)
    have h1 : ¬ a = 1 := h' 1 (by omega)
    have h2 : ¬ a = 2 := h' 2 (by omega)
    have h3 : ¬ a = 3 := h' 3 (by omega)
    have h4 : ¬ a = 4 := h' 4 (by omega)
    have h5 : ¬ a = 5 := h' 5 (by omega)
    refine Or.inr ⟨h', ?_, ?_⟩
    · simp only [am_sw, if_neg h0, if_neg h1, if_neg h2, if_neg h3, if_neg h4, if_neg h5]
    · simp only [am_sw, if_neg h0, if_neg h1, if_neg h2, if_neg h3, if_neg h4, if_neg h5]
theorem sw96e : (am_sw 91 (nI 0) [(0, 40), (1, 48), (2, 56), (3, 67), (4, 75), (5, 83)] = 40 ∧ am_sw 91 (nI 1) [(0, 40), (1, 48), (2, 56), (3, 67), (4, 75), (5, 83)] = 48 ∧ am_sw 91 (nI 2) [(0, 40), (1, 48), (2, 56), (3, 67), (4, 75), (5, 83)] = 56) ∧ (am_sw 91 (nI 3) [(0, 40), (1, 48), (2, 56), (3, 67), (4, 75), (5, 83)] = 67 ∧ am_sw 91 (nI 4) [(0, 40), (1, 48), (2, 56), (3, 67), (4, 75), (5, 83)] = 75 ∧ am_sw 91 (nI 5) [(0, 40), (1, 48), (2, 56), (3, 67), (4, 75), (5, 83)] = 83) := by decide
theorem sw146e : (am_sw 133 (nI 0) [(0, 40), (1, 45), (2, 73), (3, 78), (4, 83), (5, 92)] = 40 ∧ am_sw 133 (nI 1) [(0, 40), (1, 45), (2, 73), (3, 78), (4, 83), (5, 92)] = 45 ∧ am_sw 133 (nI 2) [(0, 40), (1, 45), (2, 73), (3, 78), (4, 83), (5, 92)] = 73) ∧ (am_sw 133 (nI 3) [(0, 40), (1, 45), (2, 73), (3, 78), (4, 83), (5, 92)] = 78 ∧ am_sw 133 (nI 4) [(0, 40), (1, 45), (2, 73), (3, 78), (4, 83), (5, 92)] = 83 ∧ am_sw 133 (nI 5) [(0, 40), (1, 45), (2, 73), (3, 78), (4, 83), (5, 92)] = 92) := by decide
def cnA (n w : Nat) (th : Nat → Bool) (sn : Nat → Nat) (q : Nat) : Nat := match q with
  | 0 => w
  | 1 => fb_ct th 12
  | 2 => sn 12
  | _ => n
theorem count_C (hA : AVv n b w v th sn S kp) (hC : CL n b w v th sn S kp I J) (h0 : (∀ q, q ≤ 5 → x1 ≠ nI q) → P (some (.int (-1))) I J) (h1 : ∀ q, q < 4 → x1 = nI q → P (some (.int (nI (cnA n w th sn q)))) I J) (h4 : x1 = nI 4 → ∀ I' m o, Srt (WT sn S) 576 m o → FC I J I' J → CL n b w v th sn S kp I' J → P (some (.int (nI (tK (trr (WT sn S) (nt sn S) o m))))) I' J) (h5 : x1 = nI 5 → ∀ I' m o, Srt (WT sn S) 576 m o → FC I J I' J → CL n b w v th sn S kp I' J → P (some (.int (nI m))) I' J) : am_To (am_XX L xs) (d + 6) 96 0 [some (.ref 0), some (.int x1)] [] I J P := by
  refine bk_96_0 _ I J ?_
  rcases sw96 x1 with ⟨q, hq, e⟩ | ⟨hno, e, -⟩
  · match q, hq, e with
    | 0, _, e =>
      have hq := h1 0 (by decide) e
      rw [e, sw96e.1.1]
      refine bk_96_40 I J ?_
      rw [hC.2.1.1]
      exact hq
    | 1, _, e =>
      have hq := h1 1 (by decide) e
      rw [e, sw96e.1.2.1]
      refine bk_96_48 I J (bk_97_0 I J ?_)
      have lp : ∀ (k i : Nat), i + k = 12 → am_To (am_XX L xs) (d + 5) 97 13 [none, some (.int (nI (fb_ct th i))), some (.ref 59), some (.int (nI 12)), some (.int (nI i)), none] [] I J (fun r I2 J2 => am_To (am_XX L xs) (d + 6) 96 55 [none, none] (r.toList ++ []) I2 J2 P) := by
        intro k
        induction k with
        | zero =>
          intro i hi
          have e : i = 12 := by omega
          subst e
          exact bk_97_13 _ _ _ I J (i_t (nI_le (Nat.le_refl _) (by omega)) (bk_96_55 _ I J hq))
        | succ k ih =>
          intro i hi
          have e := ih (i + 1) (by omega)
          rw [fb_ct_succ] at e
          refine bk_97_13 _ _ _ I J (i_le 12 i rfl rfl (fun c => by omega) (fun _ => x_i i rfl ?_))
          rw [(hC.2.2.1.1 i (by omega)).2]
          refine i_c bI_0 (fun z => ?_) (fun z => ?_)
          · rw [z] at e
            rw [nI_1]
            exact e
          · rw [if_pos (by simpa using z)] at e
            rw [nI_1, nI_1]
            exact e
      exact lp 12 0 (by omega)
    | 2, _, e =>
      have hq := h1 2 (by decide) e
      rw [e, sw96e.1.2.2]
      refine bk_96_56 I J ?_
      rw [show I 60 3 = nI (sn 12) from hC.2.2.1.2.1]
      exact hq
    | 3, _, e =>
      have hq := h1 3 (by decide) e
      rw [e, sw96e.2.1]
      refine bk_96_67 I J ?_
      rw [hC.1.1]
      exact hq
    | 4, _, e =>
      have hq := h4 e
      rw [e, sw96e.2.2.1]
      refine bk_96_75 I J (cur_C hA hC (fun I1 m o hS hv hT h5 hR hf hC1 _ => bk_96_79 I1 J ?_))
      rw [hT.2.2.2.1]
      exact hq I1 m o hS hf hC1
    | 5, _, e =>
      have hq := h5 e
      rw [e, sw96e.2.2.2]
      refine bk_96_83 I J (cur_C hA hC (fun I1 m o hS hv hT h5 hR hf hC1 _ => bk_96_87 I1 J ?_))
      rw [h5]
      exact hq I1 m o hS hf hC1
    | q + 6, hq, _ => exact absurd hq (by omega)
  · rw [e]
    exact am_wk (am_ln (am_ln am_l0)) (bk_96_91 I J (h0 hno))
theorem count_M0 (h : ∀ q, q ≤ 5 → x1 ≠ nI q) (hq : P (some (.int (-1))) I J) : am_To (am_XX L xs) (d + 3) 146 0 [some (.ref 95), some (.int x1), none, none] [] I J P := by
  refine bk_146_0 _ I J ?_
  rcases sw96 x1 with ⟨q, hq, e⟩ | ⟨hno, -, e⟩
  · exact absurd e (h q hq)
  · rw [e]
    exact am_wk (am_ln (am_ln (am_ln (am_ln am_l0)))) (bk_146_133 I J hq)
theorem count_M1 (hM : MO n b w v th sn S kp I J) (hq4 : q < 4) (hq : P (some (.int (nI (cnA n w th sn q)))) I J) : am_To (am_XX L xs) (d + 3) 146 0 [some (.ref 95), some (.int (nI q)), none, none] [] I J P := by
  refine bk_146_0 _ I J ?_
  match q, hq4 with
  | 0, _ =>
    rw [sw146e.1.1]
    refine am_wk (am_lv (am_ln (am_ln (am_ln am_l0)))) (bk_146_40 I J ?_)
    rw [hM.2.1.1]
    exact hq
  | 1, _ =>
    rw [sw146e.1.2.1]
    refine bk_146_45 _ I J ?_
    have lp : ∀ (k i : Nat), i + k = 12 → am_To (am_XX L xs) (d + 3) 146 47 [some (.ref 95), none, some (.int (nI (fb_ct th i))), some (.int (nI i))] [] I J P := by
      intro k
      induction k with
      | zero =>
        intro i hi
        have e : i = 12 := by omega
        subst e
        exact bk_146_47 _ _ I J (i_t (by decide) hq)
      | succ k ih =>
        intro i hi
        have e := ih (i + 1) (by omega)
        rw [fb_ct_succ] at e
        refine bk_146_47 _ _ I J (i_le 12 i rfl rfl (fun c => by omega) (fun _ => x_i i rfl (one_m (bk_146_63 _ _ _ I J ?_))))
        rw [(hM.2.2.1.1 i (by omega)).1]
        cases hb : th i with
        | false =>
          rw [hb] at e
          rw [nI_1]
          show am_To _ _ _ _ [_, _, some (.int (nI (fb_ct th i) + 0)), _] _ _ _ _
          rw [Int32.add_zero]
          exact e
        | true =>
          rw [hb, if_pos rfl] at e
          rw [nI_1]
          show am_To _ _ _ _ [_, _, some (.int (nI (fb_ct th i) + 1)), _] _ _ _ _
          rw [nI_1]
          exact e
    exact lp 12 0 (by omega)
  | 2, _ =>
    rw [sw146e.1.2.2]
    refine am_wk (am_lv (am_ln (am_ln (am_ln am_l0)))) (bk_146_73 I J ?_)
    rw [hM.2.2.1.2.1]
    exact hq
  | 3, _ =>
    rw [sw146e.2.1]
    refine am_wk (am_lv (am_ln (am_ln (am_ln am_l0)))) (bk_146_78 I J ?_)
    rw [hM.1.1]
    exact hq
  | q + 4, hq4 => exact absurd hq4 (by omega)
theorem count_M4 (hA : AVv n b w v th sn S kp) (hM : MO n b w v th sn S kp I J) (hS : Srt (WT sn S) 576 m o) (h : ∀ I', FM I J I' J → MO n b w v th sn S kp I' J → P (some (.int (nI (tK (trr (WT sn S) (nt sn S) o m))))) I' J) : am_To (am_XX L xs) (d + 3) 146 0 [some (.ref 95), some (.int (nI 4)), none, none] [] I J P := by
  refine bk_146_0 _ I J ?_
  rw [sw146e.2.2.1]
  refine am_wk (am_lv (am_ln (am_ln (am_ln am_l0)))) (bk_146_83 I J (grows_M hA hM hS (fun I1 f1 hM1 hG hT => bk_146_87 I1 J ?_)))
  rw [hT.2.2.1]
  exact h I1 f1 hM1
theorem count_M5 (hA : AVv n b w v th sn S kp) (hM : MO n b w v th sn S kp I J) (hS : Srt (WT sn S) 576 m o) (h : ∀ I', FM I J I' J → MO n b w v th sn S kp I' J → P (some (.int (nI m))) I' J) : am_To (am_XX L xs) (d + 3) 146 0 [some (.ref 95), some (.int (nI 5)), none, none] [] I J P := by
  have hw := hA.2.1.1
  have hW := WT_v hA.2.2.1 hw
  refine bk_146_0 _ I J ?_
  rw [sw146e.2.2.2]
  obtain ⟨c1, c2, c3, c4⟩ := hM
  refine bk_146_92 _ I J (weighs_m hA.2.2.1 hw c3 (fun I1 f1 hG => bk_146_96 _ I1 J ?_))
  have hq := h I1 (fun g hg => ⟨f1 g (by omega) (by omega), rfl⟩) ⟨?_, ?_, EVm_fr c3 (by rw [f1 95 (by decide) (by decide)]) (fun g a1 a2 => f1 g (by omega) (by omega)), ?_⟩
  · rw [srt_ct 576 m o hS] at hq
    have lp : ∀ (k i : Nat), i + k = 576 → am_To (am_XX L xs) (d + 3) 146 98 [some (.ref 95), none, some (.int (nI (fb_ct (fun e => decide (0 < WT sn S e)) i))), some (.int (nI i))] [] I1 J P := by
      intro k
      induction k with
      | zero =>
        intro i hi
        have e : i = 576 := by omega
        subst e
        exact bk_146_98 _ _ I1 J (i_t (by decide) hq)
      | succ k ih =>
        intro i hi
        have e := ih (i + 1) (by omega)
        rw [fb_ct_succ] at e
        have hWi := hW.1 i
        refine bk_146_98 _ _ I1 J (i_le 576 i rfl rfl (fun c => by omega) (fun _ => x_i i rfl (i_le (WT sn S i) 0 (hG.1 i (by omega)) rfl (fun z => ?_) (fun z => ?_))))
        · rw [if_neg (by simpa using z)] at e
          refine bk_146_120 _ _ _ I1 J (one_m (bk_146_123 _ _ _ I1 J ?_))
          rw [if_pos rfl, Int32.add_zero, nI_1]
          exact e
        · rw [if_pos (decide_eq_true z)] at e
          refine bk_146_120 _ _ _ I1 J (one_m (bk_146_123 _ _ _ I1 J ?_))
          rw [if_neg (by decide), nI_1, nI_1]
          exact e
    exact lp 576 0 (by omega)
  · unfold TPm at *
    rw [f1 95 (by decide) (by decide), f1 96 (by decide) (by decide)]
    exact c1
  · unfold WCm at *
    rw [f1 95 (by decide) (by decide)]
    exact c2
  · unfold PIm at *
    rw [f1 95 (by decide) (by decide), f1 121 (by decide) (by decide)]
    exact c4
end
