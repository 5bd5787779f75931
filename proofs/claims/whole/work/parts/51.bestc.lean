/-! BEST of the class -/
theorem kth_ct {p : Nat → Bool} {j : Nat} : ∀ (m i k : Nat), kth p i m k = some j → fb_ct p j = k + fb_ct p i := by
  intro m
  induction m with
  | zero => intro i k h; cases h
  | succ m ih =>
    intro i k h
    have hs := fb_ct_succ p i
    rw [kth_s] at h
    by_cases c : p i = true
    · rw [if_pos c] at h hs
      cases k with
      | zero =>
        cases h
        omega
      | succ k =>
        have := ih _ _ h
        omega
    · rw [if_neg c] at h hs
      have := ih _ _ h
      omega
/-- the i-th member of a set of bits -/
def mmb (u i : Nat) : Nat := match kth (fun z => u.testBit z) 0 24 i with
  | some z => z
  | none => 0
def cb (u : Nat) : Nat := fb_ct (fun z => u.testBit z) 24
theorem mmb_z {u z : Nat} (hz : z < 24) (hb : u.testBit z = true) : mmb u (fb_ct (fun z => u.testBit z) z) = z := by
  have h1 := kth_none (p := fun z => u.testBit z) 24 0 (fb_ct (fun z => u.testBit z) z)
  have h2 := fb_ct_succ (fun z => u.testBit z) z
  rw [if_pos hb] at h2
  have h3 := fb_ct_mono (fun z => u.testBit z) (show z + 1 ≤ 24 by omega)
  unfold mmb
  cases hk : kth (fun z => u.testBit z) 0 24 (fb_ct (fun z => u.testBit z) z) with
  | none =>
    have h4 := h1.mp hk
    rw [Nat.zero_add, show fb_ct (fun z => u.testBit z) 0 = 0 from rfl] at h4
    omega
  | some j =>
    have h4 := kth_ct _ _ _ hk
    obtain ⟨-, -, h5⟩ := kth_some _ _ _ hk
    rw [show fb_ct (fun z => u.testBit z) 0 = 0 from rfl, Nat.add_zero] at h4
    exact fb_ct_kth_one (p := fun z => u.testBit z) h5 hb h4
theorem mmb_in {u i : Nat} (hi : i < cb u) : mmb u i < 24 ∧ u.testBit (mmb u i) = true ∧ fb_ct (fun z => u.testBit z) (mmb u i) = i := by
  obtain ⟨z, h1, h2, h3⟩ := fb_ct_kth hi
  have e := mmb_z h1 h2
  rw [h3] at e
  rw [e]
  exact ⟨h1, h2, h3⟩
theorem mmb_inj {u i j : Nat} (hi : i < cb u) (hj : j < cb u) (h : mmb u i = mmb u j) : i = j := by
  have h1 := (mmb_in hi).2.2
  have h2 := (mmb_in hj).2.2
  rw [h] at h1
  omega
def Vf (sn : Nat → Nat) (S : Nat → Nat → Nat → Nat) (u x y : Nat) : Nat := if x < cb u ∧ y < cb u then WT sn S (24 * mmb u x + mmb u y) else 0
def Bf (sn : Nat → Nat) (S : Nat → Nat → Nat → Nat) (u x y : Nat) : Prop := x < cb u ∧ y < cb u ∧ nt sn S (mmb u x) (mmb u y)
theorem nI_z {a : Nat} (h : a < 2 ^ 32) : nI a = 0 ↔ a = 0 := by
  constructor
  · intro e
    have h1 := congrArg (fun t : Int32 => t.toBitVec.toNat) e
    simp only [pk_tn h] at h1
    exact h1
  · intro e
    rw [e]
    rfl
theorem xor_m1 (u : Nat) : nI u ^^^ (-1 : Int32) = nI (u ^^^ (2 ^ 32 - 1)) := by
  rw [show (-1 : Int32) = nI (2 ^ 32 - 1) by decide]
  apply Int32.toBitVec_inj.1
  show BitVec.ofNat 32 u ^^^ BitVec.ofNat 32 (2 ^ 32 - 1) = BitVec.ofNat 32 (u ^^^ (2 ^ 32 - 1))
  apply BitVec.eq_of_getLsbD_eq
  intro i hi
  simp only [BitVec.getLsbD_xor, BitVec.getLsbD_ofNat, Nat.testBit_xor, hi, decide_true, Bool.true_and]
/-- a set that may be asked for -/
def SetA (w : Nat) (a : Int32) (u : Nat) : Prop := a = nI u ∧ u < 2 ^ w ∧ cb u ≤ 6
section
variable {L : Nat} {xs : Nat → Int32} {d : Nat} {P : Option Value → am_I → am_J → Prop} {n w : Nat} {b v : Nat → Nat} {th : Nat → Bool} {sn : Nat → Nat} {S : Nat → Nat → Nat → Nat} {kp : KP} {I : am_I} {J : am_J} {x1 : Int32} {u k : Nat} {V : Nat → Nat → Nat}
theorem choose_c (hu : u < 2 ^ 24) (h6 : cb u ≤ 6) (h : ∀ I', (∀ g, g ≠ 75 → g ≠ 76 → I' g = I g) → I' 75 5 = nI (cb u) → (∀ i, i < cb u → I' 76 i = nI (mmb u i)) → P none I' J) : am_To (am_XX L xs) (d + 1) 86 0 [some (.ref 75), some (.int (nI u)), none] [] I J P := by
  have lp : ∀ (m i : Nat) (I1 : am_I), i + m = 24 → (∀ g, g ≠ 75 → g ≠ 76 → I1 g = I g) → I1 75 5 = nI (fb_ct (fun z => u.testBit z) i) → (∀ j, j < fb_ct (fun z => u.testBit z) i → I1 76 j = nI (mmb u j)) → am_To (am_XX L xs) (d + 1) 86 7 [some (.ref 75), some (.int (nI u)), some (.int (nI i))] [] I1 J P := by
    intro m
    induction m with
    | zero =>
      intro i I1 hi f1 f2 f3
      have e : i = 24 := by omega
      subst e
      exact bk_86_7 _ _ I1 J (i_t (by decide) (h I1 f1 f2 f3))
    | succ m ih =>
      intro i I1 hi f1 f2 f3
      have hcs := fb_ct_succ (fun z => u.testBit z) i
      refine bk_86_7 _ _ I1 J (i_le 24 i rfl rfl (fun c => by omega) (fun _ => hasbit_c rfl rfl (by omega) (by omega) (fun z => ?_) (fun z => ?_)))
      · rw [z] at hcs
        refine bk_86_18 _ _ 0 I1 J (i_t rfl ?_)
        rw [nI_1]
        exact ih (i + 1) I1 (by omega) f1 (by rw [hcs]; exact f2) (fun j hj => f3 j (by rw [hcs] at hj; exact hj))
      · rw [if_pos z] at hcs
        have hm := fb_ct_mono (fun z => u.testBit z) (show i + 1 ≤ 24 by omega)
        have h6' : fb_ct (fun z => u.testBit z) 24 ≤ 6 := h6
        refine bk_86_18 _ _ 1 I1 J (i_f (by decide) (i_le 6 _ rfl f2 (fun c => by omega) (fun _ => x_i _ f2 ?_)))
        rw [am_up_h (by decide), f2, nI_1, nI_1]
        refine ih (i + 1) _ (by omega) (fun g a1 a2 => by rw [am_up_row a1, am_up_row a2]; exact f1 g a1 a2) (by rw [hcs]; exact am_up_s) (fun j hj => ?_)
        rw [am_up_h (by decide)]
        by_cases e : j = fb_ct (fun z => u.testBit z) i
        · rw [e, am_up_s, mmb_z (by omega) z]
        · rw [am_up_k e]
          exact f3 j (by omega)
  exact bk_86_0 _ I J (lp 24 0 _ (by omega) (fun g a1 _ => am_up_row a1) am_up_s (fun j hj => absurd hj (Nat.not_lt_zero j)))
theorem hope_c (hk : k ≤ 6) (h5 : I 75 5 = nI k) (hV : ∀ x y, x < k → y < k → I 77 (6 * x + y) = nI (V x y)) (hB : ∀ x y, V x y < 2 ^ 20) (h : ∀ I', (∀ g, g ≠ 79 → I' g = I g) → (∀ y, y ≤ k → I' 79 y = nI (hpv V k (k - y))) → P none I' J) : am_To (am_XX L xs) (d + 1) 87 0 [some (.ref 75), none, none, none] [] I J P := by
  have lp : ∀ (q m : Nat) (I1 : am_I), m + q = k → (∀ g, g ≠ 79 → I1 g = I g) → (∀ y, k - m ≤ y → y ≤ k → I1 79 y = nI (hpv V k (k - y))) → am_To (am_XX L xs) (d + 1) 87 17 [some (.ref 75), some (.int (nI (k - m) - 1)), none, none] [] I1 J P := by
    intro q
    induction q with
    | zero =>
      intro m I1 hm f1 f2
      have e : m = k := by omega
      subst e
      refine bk_87_17 _ I1 J (i_t (by rw [Nat.sub_self]; decide) (h I1 f1 (fun y hy => f2 y (by omega) hy)))
    | succ q ih =>
      intro m I1 hm f1 f2
      have e1 : nI (k - m) - 1 = nI (k - (m + 1)) := by
        rw [show (1 : Int32) = nI 1 from rfl, pk_sub (by omega)]
        congr 1
      rw [e1]
      refine bk_87_17 _ I1 J (i_f (nI_pos (by omega)) ?_)
      have inner : ∀ (r x : Nat), x + r = k → am_To (am_XX L xs) (d + 1) 87 25 [some (.ref 75), some (.int (nI (k - (m + 1)))), some (.int (nI (mx (fun x => V x (k - (m + 1))) x))), some (.int (nI x))] [] I1 J P := by
        intro r
        induction r with
        | zero =>
          intro x hx
          have e : x = k := by omega
          subst e
          refine bk_87_25 _ _ _ I1 J (i_t (by rw [f1 75 (by decide), h5]; exact nI_le (Nat.le_refl _) (by omega)) (x_i (x - (m + 1) + 1) (nI_1 _) (x_i (x - (m + 1)) rfl ?_)))
          rw [f2 (x - (m + 1) + 1) (by omega) (by omega), nI_add]
          have e2 : nI (x - (m + 1)) + (-1) = nI (x - (m + 1)) - 1 := by
            rw [Int32.sub_eq_add_neg]
          rw [e2]
          refine ih (m + 1) _ (by omega) (fun g hg => by rw [am_up_row hg]; exact f1 g hg) (fun y hy1 hy2 => ?_)
          by_cases e : y = x - (m + 1)
          · subst e
            rw [am_up_s, show x - (x - (m + 1) + 1) = m by omega, show x - (x - (m + 1)) = m + 1 by omega]
            rfl
          · rw [am_up_k e]
            exact f2 y (by omega) hy2
        | succ r ihr =>
          intro x hx
          have e77 : I1 77 (6 * x + (k - (m + 1))) = nI (V x (k - (m + 1))) := by
            rw [f1 77 (by decide)]
            exact hV x _ (by omega) (by omega)
          refine bk_87_25 _ _ _ I1 J (i_le k x (by rw [f1 75 (by decide)]; exact h5) rfl (fun c => by omega) (fun _ => x_i (6 * x + (k - (m + 1))) i6 ?_))
          rw [e77, nI_1]
          have hb1 := hB x (k - (m + 1))
          have hb2 := mx_b (f := fun x => V x (k - (m + 1))) (fun x => Nat.le_of_lt (hB x (k - (m + 1)))) x
          have e := ihr (x + 1) (by omega)
          have em : (if nI (mx (fun x => V x (k - (m + 1))) x) < nI (V x (k - (m + 1))) then nI (V x (k - (m + 1))) else nI (mx (fun x => V x (k - (m + 1))) x)) = nI (mx (fun x => V x (k - (m + 1))) (x + 1)) := by
            show _ = nI (if mx (fun x => V x (k - (m + 1))) x < V x (k - (m + 1)) then V x (k - (m + 1)) else mx (fun x => V x (k - (m + 1))) x)
            by_cases c : mx (fun x => V x (k - (m + 1))) x < V x (k - (m + 1))
            · rw [if_pos c, if_pos (nI_lt c (by omega))]
            · rw [if_neg c, if_neg (fun z => c ((nI_ltI (by omega) (by omega)).mp z))]
          rw [em]
          exact e
      exact inner k 0 (by omega)
  refine bk_87_0 I J (x_i k h5 ?_)
  rw [am_up_h (by decide), h5]
  refine lp k 0 _ (by omega) (fun g hg => am_up_row hg) (fun y hy1 hy2 => ?_)
  have e : y = k := by omega
  rw [e, am_up_s, Nat.sub_self]
  rfl
theorem best_C (hA : AVv n b w v th sn S kp) (hC : CL n b w v th sn S kp I J) (h0 : (∀ u, ¬ SetA w x1 u) → P (some (.int (-1))) I J) (h1 : ∀ u g I', SetA w x1 u → BestIs (cb u) (Vf sn S u) (Bf sn S u) g → FC I J I' J → CL n b w v th sn S kp I' J → P (some (.int (nI g))) I' J) : am_To (am_XX L xs) (d + 12) 83 0 [some (.ref 0), some (.int x1), none] [] I J P := by
  have hw := hA.2.1.1
  have hWv := WT_v hA.2.2.1 hw
  obtain ⟨u, hu32, rfl⟩ := nI_any x1
  refine bk_83_0 _ I J (bk_84_0 I J ?_)
  rw [hC.2.1.1, one_shl (by omega), show nI (2 ^ w) - (1 : Int32) = nI (2 ^ w - 1) from pk_sub (b := 1) (Nat.two_pow_pos w)]
  have h2w : 2 ^ w ≤ 2 ^ 24 := Nat.pow_le_pow_right (by decide) hw
  have e1 : nI u &&& (nI (2 ^ w - 1) ^^^ (-1 : Int32)) = nI (u &&& ((2 ^ w - 1) ^^^ (2 ^ 32 - 1))) := by
    rw [xor_m1, fa_and]
  have key : u &&& ((2 ^ w - 1) ^^^ (2 ^ 32 - 1)) = 0 ↔ u < 2 ^ w := by
    constructor
    · intro e
      rcases Nat.lt_or_ge u (2 ^ w) with c | c
      · exact c
      · obtain ⟨i, hi1, hi2⟩ := Nat.exists_ge_and_testBit_of_ge_two_pow c
        have h32 : i < 32 := by
          rcases Nat.lt_or_ge i 32 with q | q
          · exact q
          · rw [Nat.testBit_lt_two_pow (Nat.lt_of_lt_of_le hu32 (Nat.pow_le_pow_right (by decide) q))] at hi2
            cases hi2
        have hb : (u &&& ((2 ^ w - 1) ^^^ (2 ^ 32 - 1))).testBit i = true := by
          rw [Nat.testBit_and, hi2, Nat.testBit_xor, Nat.testBit_two_pow_sub_one, Nat.testBit_two_pow_sub_one, decide_eq_false (by omega), decide_eq_true h32]
          rfl
        rw [e, Nat.zero_testBit] at hb
        cases hb
    · intro c
      apply Nat.eq_of_testBit_eq
      intro i
      rw [Nat.zero_testBit, Nat.testBit_and, Nat.testBit_xor, Nat.testBit_two_pow_sub_one, Nat.testBit_two_pow_sub_one]
      rcases Nat.lt_or_ge i w with q | q
      · rw [decide_eq_true q, decide_eq_true (show i < 32 by omega)]
        simp
      · rw [Nat.testBit_lt_two_pow (Nat.lt_of_lt_of_le c (Nat.pow_le_pow_right (by decide) q))]
        rfl
  have hlt32 : u &&& ((2 ^ w - 1) ^^^ (2 ^ 32 - 1)) < 2 ^ 32 := Nat.lt_of_le_of_lt Nat.and_le_left hu32
  refine bk_83_8 _ _ _ I J ?_
  rw [e1]
  refine i_c ((nI_z hlt32).trans key) (fun c => ?_) (fun c => ?_)
  · have hu24 : u < 2 ^ 24 := by omega
    refine bk_83_19 _ 0 I J (i_t rfl (bitcount_c hu24 (bk_83_28 _ _ I J ?_)))
    have hct := fb_ct_le (fun z => u.testBit z) 24
    refine i_le (cb u) 6 rfl rfl (fun c6 => ?_) (fun c6 => h0 (fun u' hS => ?_)) (show cb u < 2 ^ 31 by unfold cb; omega) (by omega)
    · have hSA : SetA w (nI u) u := ⟨rfl, c, c6⟩
      have hV20 : ∀ x y, Vf sn S u x y < 2 ^ 20 := fun x y => by
        unfold Vf
        split
        · exact hWv.1 _
        · decide
      have hV0 : ∀ x, Vf sn S u x x = 0 := fun x => by
        unfold Vf
        split
        · rename_i q
          exact hWv.2 _ (mmb_in q.1).1
        · rfl
      -- what the class keeps
      have keepC : ∀ I1 : am_I, (∀ g, (g < 75 ∨ 94 < g) → I1 g = I g) → FC I J I1 J ∧ CL n b w v th sn S kp I1 J := fun I1 f => by
        refine ⟨fun g hg => ⟨f g (by omega), rfl⟩, ?_⟩
        obtain ⟨c1, c2, c3, c4, c5, c6', c7⟩ := hC
        refine ⟨?_, ?_, EVc_fr c3 (fun g _ q => f g (by omega)), ?_, BNc_fr c5 (f 65 (by omega)), ?_, PIc_fr c7 (f 73 (by omega)) (f 74 (by omega))⟩
        · unfold TPc at *
          rw [f 1 (by omega), f 2 (by omega)]
          exact c1
        · unfold WCc at *
          rw [f 3 (by omega)]
          exact c2
        · rw [f 64 (by omega)]
          exact c4
        · rw [f 0 (by omega)]
          exact fun q => TFc_fr (c6' q) (fun g _ q2 => f g (by omega))
      refine bk_85_0 _ I J (choose_c hu24 c6 (fun I1 f1 f2 f3 => bk_85_5 I1 J (fill_c (t := 4) (by decide) (fun I2 g1 g2 => bk_85_13 I2 J ?_))))
      have g1' : ∀ g, g ≠ 78 → I2 g = I1 g := g1
      have g2' : ∀ i, i < 6 → I2 78 i = 0 := g2
      -- behind the tables
      have fin : ∀ (I3 : am_I), (∀ g, g ≠ 77 → g ≠ 78 → I3 g = I2 g) → (∀ x y, x < cb u → y < cb u → I3 77 (6 * x + y) = nI (Vf sn S u x y)) → (∀ c', c' < 6 → ∃ t, t < 2 ^ 24 ∧ I3 78 c' = nI t ∧ ∀ a, t.testBit a = true ↔ Bf sn S u a c') → am_To (am_XX L xs) (d + 10) 87 0 [some (.ref 75), none, none, none] [] I3 J (fun r I2 J2 => am_To (am_XX L xs) (d + 11) 85 122 [some (.ref 75), none, none, none, none] (r.toList ++ []) I2 J2 (fun r I2 J2 => am_To (am_XX L xs) (d + 12) 83 47 [none, none, none] (r.toList ++ []) I2 J2 P)) := fun I3 k1 k2 k3 => by
        have k5 : I3 75 5 = nI (cb u) := by
          rw [k1 75 (by decide) (by decide), g1' 75 (by decide)]
          exact f2
        refine hope_c c6 k5 k2 hV20 (fun I4 l1 l2 => bk_85_122 I4 J (bk_57_0 I4 J 0 (by decide) (fill_c (t := 5) (by decide) (fun I5 m1 m2 => bk_57_8 I5 J (bk_85_131 I5 J ?_)))))
        have m1' : ∀ g, g ≠ 82 → I5 g = I4 g := m1
        have m2' : ∀ i, i < 6 → I5 82 i = 0 := m2
        have kf : ∀ c', ∃ t, t < 2 ^ 24 ∧ (c' < 6 → I3 78 c' = nI t ∧ ∀ a, t.testBit a = true ↔ Bf sn S u a c') ∧ (¬ c' < 6 → t = 0) := fun c' => by
          by_cases q : c' < 6
          · obtain ⟨t, t1, t2, t3⟩ := k3 c' q
            exact ⟨t, t1, fun _ => ⟨t2, t3⟩, fun q2 => absurd q q2⟩
          · exact ⟨0, by decide, fun q2 => absurd q2 q, fun _ => rfl⟩
        obtain ⟨bn, hbn⟩ := Classical.axiomOfChoice kf
        have hS5 : SRC (cb u) (Vf sn S u) bn (am_up I5 75 6 0) := by
          refine ⟨?_, fun x y hx hy => ?_, fun i hi => ?_, fun y hy => ?_⟩
          · rw [am_up_k (by decide), m1' 75 (by decide), l1 75 (by decide)]
            exact k5
          · rw [am_up_h (by decide), m1' 77 (by decide), l1 77 (by decide)]
            exact k2 x y hx hy
          · rw [am_up_h (by decide), m1' 78 (by decide), l1 78 (by decide)]
            exact ((hbn i).2.1 hi).1
          · rw [am_up_h (by decide), m1' 79 (by decide)]
            exact l2 y hy
        have hbB : ∀ i p, (bn i).testBit p = true → Bf sn S u p i := fun i p hp => by
          by_cases q : i < 6
          · exact (((hbn i).2.1 q).2 p).mp hp
          · rw [(hbn i).2.2 q, Nat.zero_testBit] at hp
            cases hp
        have hd : d + 10 = (d + 7 - cb u) + cb u + 3 := by omega
        rw [hd]
        refine descend_c (B := Bf sn S u) c6 hV0 hV20 (fun i => (hbn i).1) hbB (fun i p hi hp hb => (((hbn i).2.1 (by omega)).2 p).mpr hb) (cb u) 0 (d + 7 - cb u) _ 0 (fun _ => none) (fun _ => 0) _ (by omega) hS5 (fun i hi => ?_) am_up_s (by decide) fv_0 (fun y' x' q => by cases q) (fun i p q => by rw [Nat.zero_testBit] at q; cases q) (fun I6 g6 n1 n2 n3 n4 n5 n6 n7 => bk_85_142 I6 J (bk_83_47 _ I6 J ?_))
        · show am_up I5 75 6 0 82 i = nI 0
          rw [am_up_h (by decide)]
          exact m2' i hi
        · rw [n3]
          have hfr : ∀ g, (g < 75 ∨ 94 < g) → I6 g = I g := fun g hg => by
            rw [n1 g (by omega) (by have : fA 0 = 82 := rfl; omega), am_up_row (by omega), m1' g (by omega), l1 g (by omega), k1 g (by omega) (by omega), g1' g (by omega), f1 g (by omega) (by omega)]
          obtain ⟨q1, q2⟩ := keepC I6 hfr
          refine h1 u g6 I6 hSA ⟨fun o ho => n6 o ho (fun i hi => absurd hi (Nat.not_lt_zero i)), ?_⟩ q1 q2
          rcases n7 with n7 | ⟨o', v1, v2, v3⟩
          · exact Or.inl n7
          · exact Or.inr ⟨o', v1, v3⟩
      -- the tables
      have hBN : BNc (nt sn S) I := hC.2.2.2.2.1
      have hWr : ∀ c, c < 1728 → I 64 c = nI (WT sn S c) := hC.2.2.2.1
      have lp : ∀ (q x : Nat) (I3 : am_I), x + q = cb u → (∀ g, g ≠ 77 → g ≠ 78 → I3 g = I2 g) → (∀ a c', a < cb u → c' < cb u → a < x → I3 77 (6 * a + c') = nI (Vf sn S u a c')) → (∀ c', c' < 6 → ∃ t, t < 2 ^ 24 ∧ I3 78 c' = nI t ∧ ∀ a, t.testBit a = true ↔ a < x ∧ Bf sn S u a c') → am_To (am_XX L xs) (d + 11) 85 15 [some (.ref 75), none, some (.ref 9), some (.int (nI x)), none] [] I3 J (fun r I2 J2 => am_To (am_XX L xs) (d + 12) 83 47 [none, none, none] (r.toList ++ []) I2 J2 P) := by
        intro q
        induction q with
        | zero =>
          intro x I3 hx k1 k2 k3
          have e : x = cb u := by omega
          refine bk_85_15 _ I3 J (i_t (by rw [k1 75 (by decide) (by decide), g1' 75 (by decide), f2]; exact nI_le (by omega) (by omega)) (fin I3 k1 (fun a c' ha hc => k2 a c' ha hc (by omega)) (fun c' hc => ?_)))
          obtain ⟨t, t1, t2, t3⟩ := k3 c' hc
          refine ⟨t, t1, t2, fun a => (t3 a).trans ⟨fun z => z.2, fun z => ⟨by have := z.1; omega, z⟩⟩⟩
        | succ q ih =>
          intro x I3 hx k1 k2 k3
          have hxk : x < cb u := by omega
          have mx24 := (mmb_in hxk).1
          refine bk_85_15 _ I3 J (i_le (cb u) x (by rw [k1 75 (by decide) (by decide), g1' 75 (by decide)]; exact f2) rfl (fun z => by omega) (fun _ => ?_))
          have inner : ∀ (r y : Nat) (I4 : am_I), y + r = cb u → (∀ g, g ≠ 77 → g ≠ 78 → I4 g = I2 g) → (∀ a c', a < cb u → c' < cb u → (a < x ∨ (a = x ∧ c' < y)) → I4 77 (6 * a + c') = nI (Vf sn S u a c')) → (∀ c', c' < 6 → ∃ t, t < 2 ^ 24 ∧ I4 78 c' = nI t ∧ ∀ a, t.testBit a = true ↔ (a < x ∨ (a = x ∧ c' < y)) ∧ Bf sn S u a c') → am_To (am_XX L xs) (d + 11) 85 26 [some (.ref 75), none, some (.ref 9), some (.int (nI x)), some (.int (nI y))] [] I4 J (fun r I2 J2 => am_To (am_XX L xs) (d + 12) 83 47 [none, none, none] (r.toList ++ []) I2 J2 P) := by
            intro r
            induction r with
            | zero =>
              intro y I4 hy r1 r2 r3
              refine bk_85_26 _ _ I4 J (i_t (by rw [r1 75 (by decide) (by decide), g1' 75 (by decide), f2]; exact nI_le (by omega) (by omega)) ?_)
              rw [nI_1]
              refine ih (x + 1) I4 (by omega) r1 (fun a c' ha hc hax => r2 a c' ha hc (by omega)) (fun c' hc => ?_)
              obtain ⟨t, t1, t2, t3⟩ := r3 c' hc
              refine ⟨t, t1, t2, fun a => (t3 a).trans ⟨fun z => ⟨by omega, z.2⟩, fun z => ⟨?_, z.2⟩⟩⟩
              have := z.2.2.1
              have := z.1
              omega
            | succ r ihr =>
              intro y I4 hy r1 r2 r3
              have hyk : y < cb u := by omega
              have my24 := (mmb_in hyk).1
              have e75 : I4 75 5 = nI (cb u) := by
                rw [r1 75 (by decide) (by decide), g1' 75 (by decide)]
                exact f2
              have e76 : ∀ i, i < cb u → I4 76 i = nI (mmb u i) := fun i hi => by
                rw [r1 76 (by decide) (by decide), g1' 76 (by decide)]
                exact f3 i hi
              have eb : ∀ g, g ≠ 75 → g ≠ 76 → g ≠ 77 → g ≠ 78 → I4 g = I g := fun g b1 b2 b3 b4 => by
                rw [r1 g b3 b4, g1' g b4, f1 g b1 b2]
              refine bk_85_26 _ _ I4 J (i_le (cb u) y e75 rfl (fun z => by omega) (fun _ => x_i x rfl (x_i y rfl ?_)))
              rw [e76 x hxk, e76 y hyk]
              refine cellof_c (k := 0) rfl rfl rfl (by omega) mx24 my24 ?_
              have ecl : cl 0 (mmb u x) (mmb u y) = 24 * mmb u x + mmb u y := by
                unfold cl
                rw [if_neg (by omega)]
                omega
              have e64 : I4 64 (24 * mmb u x + mmb u y) = nI (Vf sn S u x y) := by
                rw [eb 64 (by decide) (by decide) (by decide) (by decide), hWr _ (by omega)]
                unfold Vf
                rw [if_pos ⟨hxk, hyk⟩]
              rw [ecl]
              refine bk_85_67 _ _ _ _ I4 J (x_i (24 * mmb u x + mmb u y) rfl (x_i (6 * x + y) i6 (x_i y rfl (x_i (mmb u y) (by rw [am_up_h (by decide)]; exact e76 y hyk) (x_i x rfl ?_)))))
              rw [e64, am_up_h (show (65 : Nat) ≠ 77 by decide), am_up_h (show (76 : Nat) ≠ 77 by decide), e76 x hxk]
              obtain ⟨t0, p1, p2, p3⟩ := hBN (mmb u y) my24
              have p2' : I4 65 (mmb u y) = nI t0 := by
                rw [eb 65 (by decide) (by decide) (by decide) (by decide)]
                exact p2
              have r2' : ∀ (K : am_I), K 77 = am_up I4 77 (6 * x + y) (nI (Vf sn S u x y)) 77 → ∀ a c', a < cb u → c' < cb u → (a < x ∨ (a = x ∧ c' < y + 1)) → K 77 (6 * a + c') = nI (Vf sn S u a c') := fun K hK a c' ha hc hac => by
                rw [hK]
                by_cases e : 6 * a + c' = 6 * x + y
                · have e1 : a = x := by omega
                  have e2 : c' = y := by omega
                  rw [e1, e2, am_up_s]
                · rw [am_up_k e]
                  exact r2 a c' ha hc (by omega)
              refine hasbit_c p2' rfl (by omega) (by omega) (fun z => ?_) (fun z => ?_)
              · have hnB : ¬ Bf sn S u x y := fun q => by
                  have := (p3 (mmb u x)).mpr q.2.2
                  rw [z] at this
                  cases this
                refine bk_85_90 _ _ 0 _ J (i_t rfl ?_)
                rw [nI_1]
                refine ihr (y + 1) _ (by omega) (fun g b1 b2 => by rw [am_up_row b1]; exact r1 g b1 b2) (r2' _ rfl) (fun c' hc => ?_)
                obtain ⟨t, t1, t2, t3⟩ := r3 c' hc
                refine ⟨t, t1, by rw [am_up_h (by decide)]; exact t2, fun a => (t3 a).trans ⟨fun q => ⟨by omega, q.2⟩, fun q => ⟨?_, q.2⟩⟩⟩
                rcases q.1 with q1 | ⟨q1, q2⟩
                · exact Or.inl q1
                · refine Or.inr ⟨q1, ?_⟩
                  rcases Nat.lt_or_ge c' y with q3 | q3
                  · exact q3
                  · have e2 : c' = y := by omega
                    rw [q1, e2] at q
                    exact absurd q.2 hnB
              · have hB : Bf sn S u x y := ⟨hxk, hyk, (p3 (mmb u x)).mp z⟩
                obtain ⟨t, t1, t2, t3⟩ := r3 y (by omega)
                refine bk_85_90 _ _ 1 _ J (i_f (by decide) (x_i y rfl (x_i y rfl ?_)))
                rw [am_up_h (show (78 : Nat) ≠ 77 by decide), t2, one_shl (by omega), fa_or, nI_1]
                refine ihr (y + 1) _ (by omega) (fun g b1 b2 => by rw [am_up_row b2, am_up_row b1]; exact r1 g b1 b2) (r2' _ (by rw [am_up_row (by decide)])) (fun c' hc => ?_)
                by_cases e : c' = y
                · subst e
                  refine ⟨t ||| 2 ^ x, Nat.or_lt_two_pow t1 (Nat.pow_lt_pow_right (by decide) (by omega)), am_up_s, fun a => ?_⟩
                  rw [fb_bit_set, Bool.or_eq_true, decide_eq_true_iff, t3 a]
                  constructor
                  · rintro (⟨q1, q2⟩ | q1)
                    · exact ⟨by omega, q2⟩
                    · rw [q1]
                      exact ⟨by omega, hB⟩
                  · rintro ⟨q1, q2⟩
                    by_cases e2 : a = x
                    · exact Or.inr e2
                    · exact Or.inl ⟨by omega, q2⟩
                · obtain ⟨t', t1', t2', t3'⟩ := r3 c' hc
                  refine ⟨t', t1', by rw [am_up_k e, am_up_h (by decide)]; exact t2', fun a => (t3' a).trans ⟨fun q => ⟨by omega, q.2⟩, fun q => ⟨by omega, q.2⟩⟩⟩
          exact inner (cb u) 0 I3 (by omega) k1 (fun a c' ha hc hac => k2 a c' ha hc (by omega)) (fun c' hc => by
            obtain ⟨t, t1, t2, t3⟩ := k3 c' hc
            exact ⟨t, t1, t2, fun a => (t3 a).trans ⟨fun z => ⟨by omega, z.2⟩, fun z => ⟨by omega, z.2⟩⟩⟩)
      exact lp (cb u) 0 I2 (by omega) (fun _ _ _ => rfl) (fun a c' _ _ ha => absurd ha (Nat.not_lt_zero a)) (fun c' hc => ⟨0, by decide, g2' c' hc, fun a => by
        rw [Nat.zero_testBit]
        exact ⟨fun q => (by cases q), fun q => absurd q.1 (Nat.not_lt_zero a)⟩⟩)
    · obtain ⟨q1, q2, q3⟩ := hS
      have : u' = u := by
        have hh := congrArg (fun t : Int32 => t.toBitVec.toNat) q1
        simp only [pk_tn hu32, pk_tn (show u' < 2 ^ 32 by omega)] at hh
        exact hh.symm
      rw [this] at q3
      omega
  · refine bk_83_19 _ 1 I J (i_f (by decide) (h0 (fun u' hS => ?_)))
    obtain ⟨q1, q2, q3⟩ := hS
    have : u' = u := by
      have hh := congrArg (fun t : Int32 => t.toBitVec.toNat) q1
      simp only [pk_tn hu32, pk_tn (show u' < 2 ^ 32 by omega)] at hh
      exact hh.symm
    rw [this] at q2
    exact c q2
end
