/-! SENSES of the reference: labels that sink -/
abbrev PT : Type := Nat → Option Nat
def mn (a c : Nat) : Nat := if c < a then c else a
noncomputable def sp (E : Nat → Nat → Prop) (a c : Nat) (pt : PT) : PT := match pt a, pt c with
  | some la, some lc => @ite PT (E a c) (Classical.propDecidable _) (upf pt a (some (mn la lc))) pt
  | _, _ => pt
noncomputable def rb (E : Nat → Nat → Prop) (a : Nat) : Nat → PT → PT
  | 0, pt => pt
  | k + 1, pt => sp E a k (rb E a k pt)
noncomputable def ra (E : Nat → Nat → Prop) (w : Nat) : Nat → PT → PT
  | 0, pt => pt
  | k + 1, pt => rb E k w (ra E w k pt)
noncomputable def rk (E : Nat → Nat → Prop) (w : Nat) (pt : PT) : Nat → PT
  | 0 => pt
  | k + 1 => ra E w w (rk E w pt k)
def LEp (pt' pt : PT) : Prop := (∀ z, pt z = none → pt' z = none) ∧ ∀ z l, pt z = some l → ∃ l', pt' z = some l' ∧ l' ≤ l
theorem LEp_rf {pt : PT} : LEp pt pt := ⟨fun _ h => h, fun _ l h => ⟨l, h, Nat.le_refl l⟩⟩
theorem LEp_tr {p q r : PT} (h1 : LEp p q) (h2 : LEp q r) : LEp p r := ⟨fun z h => h1.1 z (h2.1 z h), fun z l h => by
  obtain ⟨l1, a1, a2⟩ := h2.2 z l h
  obtain ⟨l2, b1, b2⟩ := h1.2 z l1 a1
  exact ⟨l2, b1, by omega⟩⟩
theorem sp_p {E : Nat → Nat → Prop} {a c la lc : Nat} {pt : PT} (h1 : pt a = some la) (h2 : pt c = some lc) (he : E a c) : sp E a c pt = upf pt a (some (mn la lc)) := by
  unfold sp
  rw [h1, h2]
  exact if_pos he
theorem sp_n {E : Nat → Nat → Prop} {a c : Nat} {pt : PT} (h : pt a = none ∨ pt c = none ∨ ¬ E a c) : sp E a c pt = pt := by
  unfold sp
  cases h1 : pt a with
  | none => rfl
  | some la =>
    cases h2 : pt c with
    | none => rfl
    | some lc =>
      rcases h with h | h | h
      · rw [h1] at h
        cases h
      · rw [h2] at h
        cases h
      · exact if_neg h
theorem mn_le (a c : Nat) : mn a c ≤ a ∧ mn a c ≤ c ∧ (mn a c = a ∨ mn a c = c) := by
  unfold mn
  split <;> omega
theorem sp_le {E : Nat → Nat → Prop} {a c : Nat} {pt : PT} : LEp (sp E a c pt) pt := by
  by_cases h : pt a = none ∨ pt c = none ∨ ¬ E a c
  · rw [sp_n h]
    exact LEp_rf
  · cases h1 : pt a with
    | none => exact absurd (Or.inl h1) h
    | some la =>
      cases h2 : pt c with
      | none => exact absurd (Or.inr (Or.inl h2)) h
      | some lc =>
        rw [sp_p h1 h2 (Classical.byContradiction (fun q => h (Or.inr (Or.inr q))))]
        have hm := mn_le la lc
        refine ⟨fun z hz => ?_, fun z l hz => ?_⟩
        · by_cases e : z = a
          · rw [e, h1] at hz
            cases hz
          · rw [upf_n e]
            exact hz
        · by_cases e : z = a
          · rw [e, h1] at hz
            cases hz
            rw [e, upf_s]
            exact ⟨_, rfl, hm.1⟩
          · rw [upf_n e]
            exact ⟨l, hz, Nat.le_refl l⟩
theorem rb_le {E : Nat → Nat → Prop} {a : Nat} {pt : PT} : ∀ k, LEp (rb E a k pt) pt := by
  intro k
  induction k with
  | zero => exact LEp_rf
  | succ k ih => exact LEp_tr sp_le ih
theorem rb_mono {E : Nat → Nat → Prop} {a : Nat} {pt : PT} : ∀ m k, LEp (rb E a (k + m) pt) (rb E a k pt) := by
  intro m k
  induction m with
  | zero => exact LEp_rf
  | succ m ih => exact LEp_tr sp_le ih
theorem ra_le {E : Nat → Nat → Prop} {w : Nat} {pt : PT} : ∀ k, LEp (ra E w k pt) pt := by
  intro k
  induction k with
  | zero => exact LEp_rf
  | succ k ih => exact LEp_tr (rb_le w) ih
theorem ra_mono {E : Nat → Nat → Prop} {w : Nat} {pt : PT} : ∀ m k, LEp (ra E w (k + m) pt) (ra E w k pt) := by
  intro m k
  induction m with
  | zero => exact LEp_rf
  | succ m ih => exact LEp_tr (rb_le w) ih
theorem rk_le {E : Nat → Nat → Prop} {w : Nat} {pt : PT} : ∀ k, LEp (rk E w pt k) pt := by
  intro k
  induction k with
  | zero => exact LEp_rf
  | succ k ih => exact LEp_tr (ra_le w) ih
/-- behind a round each has sunk to what its neighbours had -/
theorem ra_step {E : Nat → Nat → Prop} {w a c la lc : Nat} {pt : PT} (ha : a < w) (hc : c < w) (he : E a c) (h1 : pt a = some la) (h2 : pt c = some lc) : ∃ l, ra E w w pt a = some l ∧ l ≤ lc := by
  have q0 := ra_le (E := E) (w := w) (pt := pt) a
  have q1 := LEp_tr (rb_le (E := E) (a := a) c) q0
  obtain ⟨l1, b1, b2⟩ := q1.2 a la h1
  obtain ⟨l2, c1, c2⟩ := q1.2 c lc h2
  have q2 : sp E a c (rb E a c (ra E w a pt)) a = some (mn l1 l2) := by
    rw [sp_p b1 c1 he, upf_s]
  have q3 := rb_mono (E := E) (a := a) (pt := ra E w a pt) (w - (c + 1)) (c + 1)
  rw [show c + 1 + (w - (c + 1)) = w by omega] at q3
  obtain ⟨l3, d1, d2⟩ := q3.2 a _ q2
  have q4 := ra_mono (E := E) (w := w) (pt := pt) (w - (a + 1)) (a + 1)
  rw [show a + 1 + (w - (a + 1)) = w by omega] at q4
  obtain ⟨l4, e1, e2⟩ := q4.2 a l3 d1
  have hm := mn_le l1 l2
  exact ⟨l4, e1, by omega⟩
def Vp (Nb : Nat → Prop) (E : Nat → Nat → Prop) (pt : PT) : Prop := ∀ z l, pt z = some l → Nb z ∧ Nb l ∧ Rch Nb E l z
theorem sp_v {Nb : Nat → Prop} {E : Nat → Nat → Prop} (hE : ∀ x y, E x y → E y x) {a c : Nat} {pt : PT} (h : Vp Nb E pt) : Vp Nb E (sp E a c pt) := by
  by_cases q : pt a = none ∨ pt c = none ∨ ¬ E a c
  · rw [sp_n q]
    exact h
  · cases h1 : pt a with
    | none => exact absurd (Or.inl h1) q
    | some la =>
      cases h2 : pt c with
      | none => exact absurd (Or.inr (Or.inl h2)) q
      | some lc =>
        have he : E a c := Classical.byContradiction (fun z => q (Or.inr (Or.inr z)))
        rw [sp_p h1 h2 he]
        intro z l hz
        by_cases e : z = a
        · subst e
          rw [upf_s] at hz
          cases hz
          obtain ⟨a1, a2, a3⟩ := h z la h1
          obtain ⟨c1, c2, c3⟩ := h c lc h2
          rcases (mn_le la lc).2.2 with m | m
          · rw [m]
            exact ⟨a1, a2, a3⟩
          · rw [m]
            exact ⟨a1, c2, Rch_tr c3 (Rch_1 c1 a1 (hE _ _ he))⟩
        · rw [upf_n e] at hz
          exact h z l hz
theorem rb_v {Nb : Nat → Prop} {E : Nat → Nat → Prop} (hE : ∀ x y, E x y → E y x) {a : Nat} {pt : PT} (h : Vp Nb E pt) : ∀ k, Vp Nb E (rb E a k pt) := by
  intro k
  induction k with
  | zero => exact h
  | succ k ih => exact sp_v hE ih
theorem ra_v {Nb : Nat → Prop} {E : Nat → Nat → Prop} (hE : ∀ x y, E x y → E y x) {w : Nat} {pt : PT} (h : Vp Nb E pt) : ∀ k, Vp Nb E (ra E w k pt) := by
  intro k
  induction k with
  | zero => exact h
  | succ k ih => exact rb_v hE ih w
theorem rk_v {Nb : Nat → Prop} {E : Nat → Nat → Prop} (hE : ∀ x y, E x y → E y x) {w : Nat} {pt : PT} (h : Vp Nb E pt) : ∀ k, Vp Nb E (rk E w pt k) := by
  intro k
  induction k with
  | zero => exact h
  | succ k ih => exact ra_v hE ih w
noncomputable def pt0 (Nb : Nat → Prop) : PT := fun z => @ite (Option Nat) (Nb z) (Classical.propDecidable _) (some z) none
theorem pt0_p {Nb : Nat → Prop} {z : Nat} (h : Nb z) : pt0 Nb z = some z := if_pos h
theorem pt0_n {Nb : Nat → Prop} {z : Nat} (h : ¬ Nb z) : pt0 Nb z = none := if_neg h
theorem pt0_v {Nb : Nat → Prop} {E : Nat → Nat → Prop} : Vp Nb E (pt0 Nb) := fun z l h => by
  by_cases q : Nb z
  · rw [pt0_p q] at h
    cases h
    exact ⟨q, q, Rch_rf⟩
  · rw [pt0_n q] at h
    cases h
theorem ct_lt {p q : Nat → Bool} {w z : Nat} (hs : ∀ k, k < w → p k = true → q k = true) (hz : z < w) (h1 : q z = true) (h2 : p z = false) : fb_ct p w < fb_ct q w := by
  have e1 := ct_spl q p w
  have e2 : fb_ct (fun y => q y && p y) w = fb_ct p w := fb_ct_cong (fun k hk => by
    cases hb : p k with
    | false => rw [Bool.and_false]
    | true => rw [hs k hk hb]; rfl)
  have e3 : 0 < fb_ct (fun y => q y && !p y) w := fb_ct_pos.mpr ⟨z, hz, by rw [h1, h2]; rfl⟩
  omega
/-- a least one's part has its label behind as many rounds as there are words -/
theorem rk_done {Nb : Nat → Prop} {E : Nat → Nat → Prop} (hE : ∀ x y, E x y → E y x) {w l : Nat} (hNw : ∀ z, Nb z → z < w) (hl : isRep Nb E l) : ∀ z, Rch Nb E l z → rk E w (pt0 Nb) w z = some l := by
  have hv := fun k => rk_v (w := w) hE (pt0_v (Nb := Nb) (E := E)) k
  have least : ∀ k z l', rk E w (pt0 Nb) k z = some l' → Rch Nb E l z → l ≤ l' := fun k z l' h hr => by
    obtain ⟨a1, a2, a3⟩ := hv k z l' h
    rcases Nat.lt_or_ge l' l with q | q
    · exact absurd (Rch_tr a3 (Rch_sy hE hr)) (hl.2 l' q a2)
    · exact q
  have step : ∀ k z, rk E w (pt0 Nb) k z = some l → Rch Nb E l z → rk E w (pt0 Nb) (k + 1) z = some l := fun k z h hr => by
    obtain ⟨l', b1, b2⟩ := (ra_le (E := E) (w := w) w).2 z l h
    have b1' : rk E w (pt0 Nb) (k + 1) z = some l' := b1
    have := least (k + 1) z l' b1' hr
    rw [b1', show l' = l by omega]
  have key : ∀ k, (∀ z, Rch Nb E l z → rk E w (pt0 Nb) k z = some l) ∨ k + 1 ≤ fb_ct (pB (fun z => rk E w (pt0 Nb) k z = some l)) w := by
    intro k
    induction k with
    | zero =>
      refine Or.inr ?_
      have : 0 < fb_ct (pB (fun z => rk E w (pt0 Nb) 0 z = some l)) w := fb_ct_pos.mpr ⟨l, hNw l hl.1, pB_t.mpr (pt0_p hl.1)⟩
      omega
    | succ k ih =>
      rcases ih with ih | ih
      · exact Or.inl (fun z hr => step k z (ih z hr) hr)
      · by_cases q : ∀ z, rk E w (pt0 Nb) (k + 1) z = some l → rk E w (pt0 Nb) k z = some l
        · refine Or.inl (fun z hr => step k z ?_ hr)
          refine hr (fun z => rk E w (pt0 Nb) k z = some l) ?_ (fun x y hx nx ny e => ?_)
          · -- l keeps its own
            have : ∀ k, rk E w (pt0 Nb) k l = some l := fun k => by
              induction k with
              | zero => exact pt0_p hl.1
              | succ k ihk => exact step k l ihk Rch_rf
            exact this k
          · obtain ⟨ly, hy, -⟩ := (rk_le (E := E) (w := w) (pt := pt0 Nb) k).2 y y (pt0_p ny)
            obtain ⟨l', c1, c2⟩ := ra_step (hNw y ny) (hNw x nx) (hE x y e) hy hx
            have c1' : rk E w (pt0 Nb) (k + 1) y = some l' := c1
            have hrx : Rch Nb E l x := (hv k x l hx).2.2
            have := least (k + 1) y l' c1' (Rch_tr hrx (Rch_1 nx ny e))
            refine q y ?_
            rw [c1', show l' = l by omega]
        · refine Or.inr ?_
          have q2 : ∃ z, rk E w (pt0 Nb) (k + 1) z = some l ∧ ¬ rk E w (pt0 Nb) k z = some l := Classical.byContradiction (fun hno => q (fun z h1 => Classical.byContradiction (fun h2 => hno ⟨z, h1, h2⟩)))
          obtain ⟨z, z1, z2⟩ := q2
          have hz := (hv (k + 1) z l z1).1
          have := ct_lt (p := pB (fun z => rk E w (pt0 Nb) k z = some l)) (q := pB (fun z => rk E w (pt0 Nb) (k + 1) z = some l)) (fun t _ ht => pB_t.mpr (step k t (pB_t.mp ht) (hv k t l (pB_t.mp ht)).2.2)) (hNw z hz) (pB_t.mpr z1) (pB_f.mpr z2)
          omega
  rcases key w with h | h
  · exact h
  · have := fb_ct_le (pB (fun z => rk E w (pt0 Nb) w z = some l)) w
    omega
theorem rk_rep {Nb : Nat → Prop} {E : Nat → Nat → Prop} (hE : ∀ x y, E x y → E y x) {w z : Nat} (hNw : ∀ z, Nb z → z < w) : rk E w (pt0 Nb) w z = some z ↔ isRep Nb E z := by
  constructor
  · intro h
    have hz := (rk_v (w := w) hE (pt0_v (Nb := Nb) (E := E)) w z z h).1
    obtain ⟨l, ⟨h1, h2⟩, h3⟩ := pk_least (fun i => Nb i ∧ Rch Nb E i z) ⟨z, hz, Rch_rf⟩
    have hl : isRep Nb E l := ⟨h1, fun i hi ni hr => h3 i hi ⟨ni, Rch_tr hr h2⟩⟩
    have hd := rk_done hE hNw hl z h2
    rw [h] at hd
    cases hd
    exact hl
  · intro h
    exact rk_done hE hNw h z Rch_rf
section
variable {L : Nat} {xs : Nat → Int32} {d : Nat} {P : Option Value → am_I → am_J → Prop} {n w m : Nat} {b v : Nat → Nat} {th : Nat → Bool} {sn : Nat → Nat} {S : Nat → Nat → Nat → Nat} {kp : KP} {I : am_I} {J : am_J} {x1 : Int32} {j : Nat} {o : Nat → Nat}
theorem senses_M (hA : AVv n b w v th sn S kp) (hM : MO n b w v th sn S kp I J) (hS : Srt (WT sn S) 576 m o) (hj : j < w) (h : ∀ I', FM I J I' J → MO n b w v th sn S kp I' J → P (some (.int (nI (fb_ct (pB (isRep (nbr (tP (trr (WT sn S) (nt sn S) o m)) (ALf sn S) j) (nbr (tP (trr (WT sn S) (nt sn S) o m)) (ALf sn S)))) 24)))) I' J) : am_To (am_XX L xs) (d + 3) 138 0 [some (.ref 95), some (.int (nI j)), none, none, none, none] [] I J P := by
  have hw := hA.2.1.1
  have hW := WT_v hA.2.2.1 hw
  have hW31 : ∀ c, WT sn S c < 2 ^ 31 := fun c => by have := hW.1 c; omega
  have hv := trr_v (NT := nt sn S) hW hS m (Nat.le_refl m)
  refine bk_138_0 _ I J (isword_m hM.2.1.1 hw (fun z => absurd rfl (z j hj)) (fun _ _ _ => ?_))
  refine bk_138_5 _ 1 I J (i_f (by decide) (grows_M hA hM hS (fun I1 f1 hM1 hG hT => bk_138_14 _ I1 J ?_)))
  have hNw : ∀ z, nbr (tP (trr (WT sn S) (nt sn S) o m)) (ALf sn S) j z → z < w := fun z hz => (nb_w hA hS hz).2
  generalize hs : trr (WT sn S) (nt sn S) o m = s at *
  have hE : ∀ x y, nbr (tP s) (ALf sn S) x y → nbr (tP s) (ALf sn S) y x := fun x y e => by
    obtain ⟨e1, e2, e3, e4⟩ := e
    refine ⟨fun q => e1 q.symm, e3, e2, ?_⟩
    rcases e4 with e4 | e4 | e4
    · exact Or.inr (Or.inl e4)
    · exact Or.inl e4
    · rw [ALf_s] at e4
      exact Or.inr (Or.inr e4)
  generalize hEd : nbr (tP s) (ALf sn S) = E at *
  have hpt : ∀ pt : PT, Vp (E j) E pt → ∀ z l, pt z = some l → l < 2 ^ 31 := fun pt hp z l e => by
    have := hNw l (hp z l e).2.1
    omega
  -- what isNeighbour needs stays
  have nb : ∀ (I2 : am_I), (∀ g, g ≠ 118 → I2 g = I1 g) → ∀ (x y : Nat) (P' : Option Value → am_I → am_J → Prop), x < 24 → y < 24 → (E x y → P' (some (.int 1)) I2 J) → (¬ E x y → P' (some (.int 0)) I2 J) → am_To (am_XX L xs) (d + 2) 137 0 [some (.ref 95), some (.int (nI x)), some (.int (nI y))] [] I2 J P' := fun I2 f2 x y P' hx hy h1 h0 => by
    rw [← hEd] at h1 h0
    refine isnb_m hv.1 (fun i hi => ?_) (HAv_fr hG (f2 113 (by decide)) (f2 114 (by decide))) hW31 hx hy h1 h0
    rw [f2 115 (by decide)]
    exact hT.1 i hi
  have hM2 : ∀ (I2 : am_I), (∀ g, g ≠ 118 → I2 g = I1 g) → MO n b w v th sn S kp I2 J := fun I2 f2 => by
    obtain ⟨c1, c2, c3, c4⟩ := hM1
    refine ⟨?_, ?_, EVm_fr c3 (by rw [f2 95 (by decide)]) (fun g a1 a2 => f2 g (by omega)), ?_⟩
    · unfold TPm at *
      rw [f2 95 (by decide), f2 96 (by decide)]
      exact c1
    · unfold WCm at *
      rw [f2 95 (by decide)]
      exact c2
    · unfold PIm at *
      rw [f2 95 (by decide), f2 121 (by decide)]
      exact c4
  have hw95 : ∀ (I2 : am_I), (∀ g, g ≠ 118 → I2 g = I1 g) → I2 95 2 = nI w := fun I2 f2 => by
    rw [f2 95 (by decide)]
    exact hM1.2.1.1
  -- counting
  have l4 : ∀ (k i : Nat) (I2 : am_I), i + k = w → (∀ g, g ≠ 118 → I2 g = I1 g) → (∀ z, z < w → I2 118 z = oI (rk E w (pt0 (E j)) w z)) → am_To (am_XX L xs) (d + 3) 138 163 [some (.ref 95), none, some (.int (nI (fb_ct (pB (isRep (E j) E)) i))), some (.int (nI i)), none, none] [] I2 J P := by
    intro k
    induction k with
    | zero =>
      intro i I2 hi f2 hp
      have e : i = w := by omega
      subst e
      refine bk_138_163 _ _ I2 J (i_t (by rw [hw95 I2 f2]; exact nI_le (Nat.le_refl _) (by omega)) ?_)
      have hq := h I2 (fun g hg => ⟨(f2 g (by omega)).trans (f1 g hg).1, rfl⟩) (hM2 I2 f2)
      rw [ct_w hw (fun z hz => hNw z (pB_t.mp hz).1)] at hq
      exact hq
    | succ k ih =>
      intro i I2 hi f2 hp
      have e := ih (i + 1) I2 (by omega) f2 hp
      rw [fb_ct_succ] at e
      refine bk_138_163 _ _ I2 J (i_le w i (hw95 I2 f2) rfl (fun c => by omega) (fun _ => x_i i rfl ?_))
      rw [hp i (by omega)]
      have hvv := rk_v (w := w) hE (pt0_v (Nb := E j) (E := E)) w
      refine i_c ((oI_eq (fun z hz => hpt _ hvv i z hz) (by omega)).trans (rk_rep hE hNw)) (fun c => ?_) (fun c => ?_)
      · rw [if_pos (pB_t.mpr c)] at e
        refine bk_138_187 _ _ _ I2 J (one_m (bk_138_190 _ _ _ I2 J ?_))
        rw [if_neg (by decide), nI_1, nI_1]
        exact e
      · rw [pB_f.mpr c] at e
        refine bk_138_187 _ _ _ I2 J (one_m (bk_138_190 _ _ _ I2 J ?_))
        rw [if_pos rfl, Int32.add_zero, nI_1]
        exact e
  -- one a: all its c
  have l1 : ∀ (r a : Nat) (pt : PT), a < w → Vp (E j) E pt → (∀ (I2 : am_I), (∀ g, g ≠ 118 → I2 g = I1 g) → (∀ z, z < w → I2 118 z = oI (rb E a w pt z)) → am_To (am_XX L xs) (d + 3) 138 65 [some (.ref 95), none, some (.int 0), some (.int (nI r)), some (.int (nI (a + 1))), none] [] I2 J P) → ∀ (k c : Nat) (I2 : am_I), c + k = w → (∀ g, g ≠ 118 → I2 g = I1 g) → (∀ z, z < w → I2 118 z = oI (rb E a c pt z)) → am_To (am_XX L xs) (d + 3) 138 77 [some (.ref 95), none, some (.int 0), some (.int (nI r)), some (.int (nI a)), some (.int (nI c))] [] I2 J P := by
    intro r a pt ha hV hend k
    induction k with
    | zero =>
      intro c I2 hc f2 hp
      have e : c = w := by omega
      subst e
      refine bk_138_77 _ _ _ _ I2 J (i_t (by rw [hw95 I2 f2]; exact nI_le (Nat.le_refl _) (by omega)) ?_)
      rw [nI_1]
      exact hend I2 f2 hp
    | succ k ih =>
      intro c I2 hc f2 hp
      have hVc := rb_v (a := a) hE hV c
      have hno : (rb E a c pt a = none ∨ rb E a c pt c = none ∨ ¬ E a c) → am_To (am_XX L xs) (d + 3) 138 77 [some (.ref 95), none, some (.int 0), some (.int (nI r)), some (.int (nI a)), some (.int (nI c + 1))] [] I2 J P := fun q => by
        rw [nI_1]
        refine ih (c + 1) I2 (by omega) f2 (fun z hz => ?_)
        show _ = oI (sp E a c (rb E a c pt) z)
        rw [sp_n q]
        exact hp z hz
      refine bk_138_77 _ _ _ _ I2 J (i_le w c (hw95 I2 f2) rfl (fun q => by omega) (fun _ => x_i a rfl ?_))
      rw [hp a ha]
      refine i_c (oI_m1 (hpt _ hVc a)) (fun q => hno (Or.inl q)) (fun q1 => x_i c rfl ?_)
      rw [hp c (by omega)]
      refine i_c (oI_m1 (hpt _ hVc c)) (fun q => hno (Or.inr (Or.inl q))) (fun q2 => nb I2 f2 a c _ (by omega) (by omega) (fun e => ?_) (fun e => ?_))
      · cases h1 : rb E a c pt a with
        | none => exact absurd h1 q1
        | some la =>
          cases h2 : rb E a c pt c with
          | none => exact absurd h2 q2
          | some lc =>
            have b1 := hpt _ hVc a la h1
            have b2 := hpt _ hVc c lc h2
            refine bk_138_116 _ _ _ _ 1 I2 J (i_f (by decide) (x_i a rfl (x_i c rfl (x_i a rfl ?_))))
            rw [hp a ha, hp c (by omega), h1, h2, nI_1]
            have em : (if oI (some lc) < oI (some la) then oI (some lc) else oI (some la)) = nI (mn la lc) := by
              show (if nI lc < nI la then nI lc else nI la) = nI (if lc < la then lc else la)
              by_cases q : lc < la
              · rw [if_pos q, if_pos (nI_lt q b1)]
              · rw [if_neg q, if_neg (fun z => q ((nI_ltI b2 b1).mp z))]
            rw [em]
            refine ih (c + 1) _ (by omega) (fun g hg => by rw [am_up_row hg]; exact f2 g hg) (fun z hz => ?_)
            show _ = oI (sp E a c (rb E a c pt) z)
            rw [sp_p h1 h2 e]
            by_cases q : z = a
            · rw [q, am_up_s, upf_s]
              rfl
            · rw [am_up_k q, upf_n q]
              exact hp z hz
      · exact bk_138_116 _ _ _ _ 0 I2 J (i_t rfl (hno (Or.inr (Or.inr e))))
  -- a round
  have l2 : ∀ (r : Nat) (pt : PT), Vp (E j) E pt → (∀ (I2 : am_I), (∀ g, g ≠ 118 → I2 g = I1 g) → (∀ z, z < w → I2 118 z = oI (ra E w w pt z)) → am_To (am_XX L xs) (d + 3) 138 54 [some (.ref 95), none, some (.int 0), some (.int (nI (r + 1))), none, none] [] I2 J P) → ∀ (k a : Nat) (I2 : am_I), a + k = w → (∀ g, g ≠ 118 → I2 g = I1 g) → (∀ z, z < w → I2 118 z = oI (ra E w a pt z)) → am_To (am_XX L xs) (d + 3) 138 65 [some (.ref 95), none, some (.int 0), some (.int (nI r)), some (.int (nI a)), none] [] I2 J P := by
    intro r pt hV hend k
    induction k with
    | zero =>
      intro a I2 ha f2 hp
      have e : a = w := by omega
      subst e
      refine bk_138_65 _ _ _ I2 J (i_t (by rw [hw95 I2 f2]; exact nI_le (Nat.le_refl _) (by omega)) ?_)
      rw [nI_1]
      exact hend I2 f2 hp
    | succ k ih =>
      intro a I2 ha f2 hp
      refine bk_138_65 _ _ _ I2 J (i_le w a (hw95 I2 f2) rfl (fun q => by omega) (fun _ => ?_))
      exact l1 r a (ra E w a pt) (by omega) (ra_v hE hV a) (fun I3 f3 hp3 => ih (a + 1) I3 (by omega) f3 hp3) w 0 I2 (by omega) f2 hp
  -- all rounds
  have l3 : ∀ (k r : Nat) (I2 : am_I), r + k = w → (∀ g, g ≠ 118 → I2 g = I1 g) → (∀ z, z < w → I2 118 z = oI (rk E w (pt0 (E j)) r z)) → am_To (am_XX L xs) (d + 3) 138 54 [some (.ref 95), none, some (.int 0), some (.int (nI r)), none, none] [] I2 J P := by
    intro k
    induction k with
    | zero =>
      intro r I2 hr f2 hp
      have e : r = w := by omega
      subst e
      exact bk_138_54 _ _ I2 J (i_t (by rw [hw95 I2 f2]; exact nI_le (Nat.le_refl _) (by omega)) (l4 r 0 I2 (by omega) f2 hp))
    | succ k ih =>
      intro r I2 hr f2 hp
      refine bk_138_54 _ _ I2 J (i_le w r (hw95 I2 f2) rfl (fun q => by omega) (fun _ => ?_))
      exact l2 r (rk E w (pt0 (E j)) r) (rk_v hE pt0_v r) (fun I3 f3 hp3 => ih (r + 1) I3 (by omega) f3 hp3) w 0 I2 (by omega) f2 hp
  -- the labels
  have l0 : ∀ (k i : Nat) (I2 : am_I), i + k = w → (∀ g, g ≠ 118 → I2 g = I1 g) → (∀ z, z < i → I2 118 z = oI (pt0 (E j) z)) → am_To (am_XX L xs) (d + 3) 138 18 [some (.ref 95), some (.int (nI j)), some (.int 0), some (.int (nI i)), none, none] [] I2 J P := by
    intro k
    induction k with
    | zero =>
      intro i I2 hi f2 hp
      have e : i = w := by omega
      subst e
      exact bk_138_18 _ _ _ I2 J (i_t (by rw [hw95 I2 f2]; exact nI_le (Nat.le_refl _) (by omega)) (l3 i 0 I2 (by omega) f2 hp))
    | succ k ih =>
      intro i I2 hi f2 hp
      have go : ∀ x : Int32, x = oI (pt0 (E j) i) → am_To (am_XX L xs) (d + 3) 138 18 [some (.ref 95), some (.int (nI j)), some (.int 0), some (.int (nI i + 1)), none, none] [] (am_up I2 118 i x) J P := fun x hx => by
        rw [nI_1]
        refine ih (i + 1) _ (by omega) (fun g hg => by rw [am_up_row hg]; exact f2 g hg) (fun z hz => ?_)
        by_cases q : z = i
        · rw [q, am_up_s]
          exact hx
        · rw [am_up_k q]
          exact hp z (by omega)
      refine bk_138_18 _ _ _ I2 J (i_le w i (hw95 I2 f2) rfl (fun q => by omega) (fun _ => nb I2 f2 j i _ (by omega) (by omega) (fun e => ?_) (fun e => ?_)))
      · exact bk_138_37 _ _ _ _ 1 I2 J (i_f (by decide) (x_i i rfl (go _ (by rw [pt0_p e]; rfl))))
      · exact bk_138_37 _ _ _ _ 0 I2 J (i_t rfl (x_i i rfl (go _ (by rw [pt0_n e]; rfl))))
  exact l0 w 0 I1 (by omega) (fun _ _ => rfl) (fun z hz => absurd hz (Nat.not_lt_zero z))
end
