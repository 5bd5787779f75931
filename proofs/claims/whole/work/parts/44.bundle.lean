/-! THE TWO STATES, whole; answers of the tree as functions -/
def ALf (sn : Nat → Nat) (S : Nat → Nat → Nat → Nat) (a b : Nat) : Nat := if a ≠ b ∧ a < 24 ∧ b < 24 then WT sn S (cl 2 a b) else 0
abbrev KP : Type := Option (Nat → Option Nat)
def PIc (kp : KP) (I : am_I) : Prop := match kp with
  | none => I 73 1 = 0
  | some p => I 73 1 = 1 ∧ ∀ y, y < 24 → I 74 y = oI (p y)
def PIm (kp : KP) (I : am_I) : Prop := match kp with
  | none => I 95 33 = 0
  | some p => I 95 33 = 1 ∧ I 95 32 = nI (fb_ct (fun y => (p y).isSome) 24) ∧ ∀ y, y < 24 → I 121 y = oI (p y)
def KPv (w : Nat) (kp : KP) : Prop := ∀ p, kp = some p → ∀ y x, p y = some x → y < w ∧ x < w ∧ x ≠ y
/-- all that is known of the abstract state -/
def AVv (n : Nat) (b : Nat → Nat) (w : Nat) (v : Nat → Nat) (th : Nat → Bool) (sn : Nat → Nat) (S : Nat → Nat → Nat → Nat) (kp : KP) : Prop := TPv n b ∧ WV w v ∧ EVv w th sn S ∧ KPv w kp
def CL (n : Nat) (b : Nat → Nat) (w : Nat) (v : Nat → Nat) (th : Nat → Bool) (sn : Nat → Nat) (S : Nat → Nat → Nat → Nat) (kp : KP) (I : am_I) (J : am_J) : Prop := TPc n b I ∧ WCc w v I J ∧ EVc th sn S I ∧ (∀ c, c < 1728 → I 64 c = nI (WT sn S c)) ∧ BNc (nt sn S) I ∧ (I 0 7 = 0 → TFc (WT sn S) (nt sn S) (ALf sn S) I) ∧ PIc kp I
def MO (n : Nat) (b : Nat → Nat) (w : Nat) (v : Nat → Nat) (th : Nat → Bool) (sn : Nat → Nat) (S : Nat → Nat → Nat → Nat) (kp : KP) (I : am_I) (J : am_J) : Prop := TPm n b I ∧ WCm w v I J ∧ EVm th sn S I ∧ PIm kp I
/-- what the class leaves of the reference, the reference of the class -/
def FC (I : am_I) (J : am_J) (I' : am_I) (J' : am_J) : Prop := ∀ g, 95 ≤ g → I' g = I g ∧ J' g = J g
def FM (I : am_I) (J : am_J) (I' : am_I) (J' : am_J) : Prop := ∀ g, g < 95 → I' g = I g ∧ J' g = J g
section
variable {n w : Nat} {b v : Nat → Nat} {th : Nat → Bool} {sn : Nat → Nat} {S : Nat → Nat → Nat → Nat} {kp : KP} {I I' : am_I} {J J' : am_J}
theorem PIc_fr (h : PIc kp I) (h1 : I' 73 = I 73) (h2 : I' 74 = I 74) : PIc kp I' := by
  unfold PIc at *
  rw [h1, h2]
  exact h
theorem EVc_fr (h : EVc th sn S I) (hf : ∀ g, 11 ≤ g → g ≤ 63 → I' g = I g) : EVc th sn S I' := by
  refine ⟨fun T hT => ?_, Gr_fr h.2 (fun g a b => hf g (by rw [gH12] at a; omega) (by rw [gH12] at b; omega))⟩
  have hg := gH_e T hT
  refine ⟨Gr_fr (h.1 T hT).1 (fun g a b => hf g (by omega) (by omega)), ?_⟩
  rw [hf 59 (by decide) (by decide)]
  exact (h.1 T hT).2
theorem TFc_fr {W : Nat → Nat} {NT : Nat → Nat → Prop} {AL : Nat → Nat → Nat} (h : TFc W NT AL I) (hf : ∀ g, 66 ≤ g → g ≤ 71 → I' g = I g) : TFc W NT AL I' := by
  obtain ⟨m, o, q1, q2, q3, q4⟩ := h
  exact ⟨m, o, q1, TRr_fr q2 (hf 69 (by decide) (by decide)) (hf 68 (by decide) (by decide)) (hf 70 (by decide) (by decide)) (by rw [hf 66 (by decide) (by decide)]) (by rw [hf 66 (by decide) (by decide)]), by rw [hf 66 (by decide) (by decide)]; exact q3, NRr_fr q4 (hf 71 (by decide) (by decide))⟩
theorem BNc_fr {NT : Nat → Nat → Prop} (h : BNc NT I) (h1 : I' 65 = I 65) : BNc NT I' := by
  unfold BNc at *
  rw [h1]
  exact h
theorem CL_fm (h : CL n b w v th sn S kp I J) (hf : FM I J I' J') : CL n b w v th sn S kp I' J' := by
  have f : ∀ g, g < 95 → I' g = I g := fun g hg => (hf g hg).1
  obtain ⟨h1, h2, h3, h4, h5, h6, h7⟩ := h
  refine ⟨?_, ?_, EVc_fr h3 (fun g _ c => f g (by omega)), ?_, BNc_fr h5 (f 65 (by decide)), ?_, PIc_fr h7 (f 73 (by decide)) (f 74 (by decide))⟩
  · unfold TPc at *
    rw [f 1 (by decide), f 2 (by decide)]
    exact h1
  · unfold WCc at *
    rw [f 3 (by decide), (hf 4 (by decide)).2]
    exact h2
  · rw [f 64 (by decide)]
    exact h4
  · rw [f 0 (by decide)]
    exact fun q => TFc_fr (h6 q) (fun g _ c => f g (by omega))
theorem MO_fc (h : MO n b w v th sn S kp I J) (hf : FC I J I' J') : MO n b w v th sn S kp I' J' := by
  have f : ∀ g, 95 ≤ g → I' g = I g := fun g hg => (hf g hg).1
  obtain ⟨h1, h2, h3, h4⟩ := h
  refine ⟨?_, ?_, EVm_fr h3 (by rw [f 95 (by decide)]) (fun g c _ => f g (by omega)), ?_⟩
  · unfold TPm at *
    rw [f 95 (by decide), f 96 (by decide)]
    exact h1
  · unfold WCm at *
    rw [f 95 (by decide), (hf 97 (by decide)).2]
    exact h2
  · unfold PIm at *
    rw [f 95 (by decide), f 121 (by decide)]
    exact h4
theorem FC_rf : FC I J I J := fun _ _ => ⟨rfl, rfl⟩
theorem FM_rf : FM I J I J := fun _ _ => ⟨rfl, rfl⟩
theorem ALf_s (a c : Nat) : ALf sn S a c = ALf sn S c a := by
  unfold ALf
  by_cases h : a ≠ c ∧ a < 24 ∧ c < 24
  · rw [if_pos h, if_pos (by omega), (cl2_e h.2.1 h.2.2 h.2.2 h.2.1).mpr (Or.inr ⟨rfl, rfl⟩)]
  · rw [if_neg h, if_neg (by omega)]
theorem nt_lt (hv : EVv w th sn S) (hw : w ≤ 24) {p q : Nat} (h : nt sn S p q) : p < w ∧ q < w ∧ p ≠ q := by
  obtain ⟨k, k1, k2, k3, k4⟩ := h
  obtain ⟨a1, a2, a3, a4, a5, a6⟩ := hv.2.2 k k1
  subst k3
  subst k4
  exact ⟨a2, a3, a4⟩
/-- the tree is asked for -/
theorem cur_C {L : Nat} {xs : Nat → Int32} {d : Nat} {P : Option Value → am_I → am_J → Prop} (hA : AVv n b w v th sn S kp) (hC : CL n b w v th sn S kp I J) (h : ∀ I' m o, Srt (WT sn S) 576 m o → TSv (WT sn S) (trr (WT sn S) (nt sn S) o m) → TRr (trr (WT sn S) (nt sn S) o m) I' → I' 66 5 = nI m → NRr (nbr (tP (trr (WT sn S) (nt sn S) o m)) (ALf sn S)) I' → FC I J I' J → CL n b w v th sn S kp I' J → I' 0 7 = 0 → P (some (.ref 66)) I' J) : am_To (am_XX L xs) (d + 5) 54 0 [some (.ref 0)] [] I J P := by
  obtain ⟨a1, a2, a3, a4⟩ := hA
  obtain ⟨h1, h2, h3, h4, h5, h6, h7⟩ := hC
  have hW := WT_v a3 a2.1
  refine cur_c hW (fun p q z => by have := nt_lt a3 a2.1 z; have := a2.1; omega) h5 (fun c hc => h4 c (by omega)) (fun x y hx hy hxy => ?_) ALf_s (fun x y => ?_) h6 (fun I1 f1 h07 hT => ?_)
  · unfold ALf
    rw [if_pos ⟨hxy, hx, hy⟩]
    refine h4 _ ?_
    unfold cl
    split <;> omega
  · unfold ALf
    split
    · have := hW.1 (cl 2 x y)
      omega
    · decide
  · obtain ⟨m, o, q1, q2, q3, q4⟩ := hT
    refine h I1 m o q1 (trr_v hW q1 m (Nat.le_refl m)) q2 q3 q4 (fun g hg => ⟨f1 g (by omega) (by omega) (by omega) (by omega) (by omega) (by omega) (by omega), rfl⟩) ⟨?_, ?_, EVc_fr h3 (fun g _ c => f1 g (by omega) (by omega) (by omega) (by omega) (by omega) (by omega) (by omega)), ?_, BNc_fr h5 (f1 65 (by decide) (by decide) (by decide) (by decide) (by decide) (by decide) (by decide)), fun _ => ⟨m, o, q1, q2, q3, q4⟩, PIc_fr h7 (f1 73 (by decide) (by decide) (by decide) (by decide) (by decide) (by decide) (by decide)) (f1 74 (by decide) (by decide) (by decide) (by decide) (by decide) (by decide) (by decide))⟩ h07
    · unfold TPc at *
      rw [f1 1 (by decide) (by decide) (by decide) (by decide) (by decide) (by decide) (by decide), f1 2 (by decide) (by decide) (by decide) (by decide) (by decide) (by decide) (by decide)]
      exact h1
    · unfold WCc at *
      rw [f1 3 (by decide) (by decide) (by decide) (by decide) (by decide) (by decide) (by decide)]
      exact h2
    · rw [f1 64 (by decide) (by decide) (by decide) (by decide) (by decide) (by decide) (by decide)]
      exact h4
theorem grows_M {L : Nat} {xs : Nat → Int32} {d m : Nat} {o : Nat → Nat} {P : Option Value → am_I → am_J → Prop} (hA : AVv n b w v th sn S kp) (hM : MO n b w v th sn S kp I J) (hS : Srt (WT sn S) 576 m o) (h : ∀ I', FM I J I' J → MO n b w v th sn S kp I' J → HAv (WT sn S) I' → TRm (trr (WT sn S) (nt sn S) o m) I' → P none I' J) : am_To (am_XX L xs) (d + 2) 123 0 [some (.ref 95), none, none, none] [] I J P := by
  obtain ⟨a1, a2, a3, a4⟩ := hA
  obtain ⟨h1, h2, h3, h4⟩ := hM
  refine grows_m a3 a2.1 h3 hS (fun I1 f1 f2 hG hT => h I1 (fun g hg => ⟨f1 g (by omega) (by omega) (by omega) (by omega) (by omega) (by omega), rfl⟩) ⟨?_, ?_, EVm_fr h3 (f2 3 (by decide) (by decide)) (fun g c1 c2 => f1 g (by omega) (by omega) (by omega) (by omega) (by omega) (by omega)), ?_⟩ hG hT)
  · unfold TPm at *
    rw [f2 1 (by decide) (by decide), f1 96 (by decide) (by decide) (by decide) (by decide) (by decide) (by decide)]
    exact h1
  · unfold WCm at *
    rw [f2 2 (by decide) (by decide)]
    exact h2
  · unfold PIm at *
    rw [f2 33 (by decide) (by decide), f2 32 (by decide) (by decide), f1 121 (by decide) (by decide) (by decide) (by decide) (by decide) (by decide)]
    exact h4
end
/-- a property as a test -/
noncomputable def pB (R : Nat → Prop) (z : Nat) : Bool := @decide (R z) (Classical.propDecidable _)
theorem pB_t {R : Nat → Prop} {z : Nat} : pB R z = true ↔ R z := @decide_eq_true_iff _ (Classical.propDecidable _)
theorem pB_f {R : Nat → Prop} {z : Nat} : pB R z = false ↔ ¬ R z := by
  rw [← Bool.not_eq_true]
  exact not_congr pB_t
/-- the k-th with a property, or how many -/
noncomputable def blA (p : Nat → Bool) (a : Int32) : Int32 := if a = -1 then nI (fb_ct p 24) else @dite Int32 (∃ z, z < 24 ∧ p z = true ∧ a = nI (fb_ct p z)) (Classical.propDecidable _) (fun h => nI (Classical.choose h)) (fun _ => -1)
theorem ct31 (p : Nat → Bool) {z : Nat} (h : z ≤ 24) : fb_ct p z < 2 ^ 31 := by
  have := fb_ct_le p z
  omega
theorem blA_z {p : Nat → Bool} {a : Int32} {z : Nat} (hz : z < 24) (hp : p z = true) (he : a = nI (fb_ct p z)) : blA p a = nI z := by
  unfold blA
  have hex : ∃ z, z < 24 ∧ p z = true ∧ a = nI (fb_ct p z) := ⟨z, hz, hp, he⟩
  rw [if_neg (by rw [he]; exact nI_m1 (ct31 p (by omega))), dif_pos hex]
  obtain ⟨q1, q2, q3⟩ := Classical.choose_spec hex
  have e := (nI_eq (ct31 p (by omega)) (ct31 p (by omega))).mp (q3.symm.trans he)
  rw [fb_ct_kth_one q2 hp e]
theorem blA_n {p : Nat → Bool} {a : Int32} (h1 : a ≠ -1) (h : ∀ z, z < 24 → p z = true → a ≠ nI (fb_ct p z)) : blA p a = -1 := by
  unfold blA
  rw [if_neg h1, dif_neg]
  rintro ⟨z, q1, q2, q3⟩
  exact h z q1 q2 q3
/-- the nearest that is x or above it and y or above it -/
def IsMeet (ab : Nat → Nat) (x y m : Nat) : Prop := (m = x ∨ (ab x).testBit m = true) ∧ (m = y ∨ (ab y).testBit m = true) ∧ ∀ m', (m' = x ∨ (ab x).testBit m' = true) → (m' = y ∨ (ab y).testBit m' = true) → (m' = m ∨ (ab m).testBit m' = true)
noncomputable def mtA (ab : Nat → Nat) (x y : Nat) : Option Nat := @dite (Option Nat) (∃ m, IsMeet ab x y m) (Classical.propDecidable _) (fun h => some (Classical.choose h)) (fun _ => none)
theorem mtA_is {par : Nat → Option Nat} {ab : Nat → Nat} (hF : FV par ab) {x y m : Nat} (h : IsMeet ab x y m) : mtA ab x y = some m := by
  unfold mtA
  have hex : ∃ m, IsMeet ab x y m := ⟨m, h⟩
  rw [dif_pos hex]
  obtain ⟨q1, q2, q3⟩ := Classical.choose_spec hex
  generalize Classical.choose hex = k at *
  rcases q3 m h.1 h.2.1 with e | e
  · rw [e]
  · rcases h.2.2 k q1 q2 with e2 | e2
    · rw [e2]
    · have := fv_trans hF e2 k e
      rw [hF.2.2.1 k] at this
      cases this
theorem mtA_no {ab : Nat → Nat} {x y : Nat} (h : ∀ m, (m = x ∨ (ab x).testBit m = true) → ¬ (m = y ∨ (ab y).testBit m = true)) : mtA ab x y = none := by
  unfold mtA
  rw [dif_neg]
  rintro ⟨m, q1, q2, -⟩
  exact h m q1 q2
theorem dep_le {par : Nat → Option Nat} {ab : Nat → Nat} (hF : FV par ab) {m : Nat} : ∀ x, (m = x ∨ (ab x).testBit m = true) → dep ab m ≤ dep ab x := by
  refine fv_ind hF (fun x ih h => ?_)
  rcases h with h | h
  · rw [h]
    exact Nat.le_refl _
  · cases hp : par x with
    | none =>
      rw [hF.2.1 x hp, Nat.zero_testBit] at h
      cases h
    | some p =>
      have h2 := ih p hp (((hF.1 x p hp).2.2 m).mp h)
      have := dep_up hF hp
      omega
/-- how many steps up and down -/
noncomputable def wyA (ab : Nat → Nat) (x y : Nat) : Int32 := match mtA ab x y with
  | none => -1
  | some m => nI (dep ab x + dep ab y - 2 * dep ab m)
