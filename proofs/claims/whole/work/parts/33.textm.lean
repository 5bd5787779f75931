/-! TEXT of the reference -/
def mst (I : am_I) (T n : Nat) (r : Nat → Nat) : am_I := am_up (am_up (am_up (am_up (am_up (am_up I 100 (100 * T + n) (nI (r 0))) 101 (100 * T + n) (nI (r 1))) 102 (100 * T + n) (nI (r 2))) 103 (100 * T + n) (nI (r 3))) 104 (100 * T + n) (nI (r 4))) 99 T (nI (n + 1))
theorem fU_1 : ∀ f, f < 5 → (fU f = 1 ↔ f = 1 ∨ f = 2) := by decide
theorem fK_3 : ∀ f, f < 5 → (3 ≤ f → fK f = f - 2) ∧ (f < 3 → fK f = 0) := by decide
theorem fG_3 : ∀ f, f < 5 → (f < 2 → fG f = 2) ∧ (f = 2 → fG f = 3) ∧ (2 < f → fG f = 1) := by decide
/-- the rows that signs of text T leave -/
def FrT (T : Nat) (I : am_I) (J : am_J) (I' : am_I) (J' : am_J) : Prop := (∀ g, g ≠ 95 → (g < 99 ∨ 104 < g) → I' g = I g) ∧ (∀ i, i ≠ 2 → I' 95 i = I 95 i) ∧ (∀ i, i ≠ T → I' 99 i = I 99 i) ∧ (∀ g i, 100 ≤ g → g ≤ 104 → (i < 100 * T ∨ 100 * T + 100 ≤ i) → I' g i = I g i) ∧ (∀ g, g ≠ 97 → J' g = J g)
theorem FrT_tr {T : Nat} {I0 I I' : am_I} {J0 J J' : am_J} (h1 : FrT T I0 J0 I J) (h2 : FrT T I J I' J') : FrT T I0 J0 I' J' := ⟨fun g a b => (h2.1 g a b).trans (h1.1 g a b), fun i a => (h2.2.1 i a).trans (h1.2.1 i a), fun i a => (h2.2.2.1 i a).trans (h1.2.2.1 i a), fun g i a b c => (h2.2.2.2.1 g i a b c).trans (h1.2.2.2.1 g i a b c), fun g a => (h2.2.2.2.2 g a).trans (h1.2.2.2.2 g a)⟩
theorem FrT_rf {T : Nat} {I : am_I} {J : am_J} : FrT T I J I J := ⟨fun _ _ _ => rfl, fun _ _ => rfl, fun _ _ => rfl, fun _ _ _ _ _ => rfl, fun _ _ => rfl⟩
theorem mst_fr {T n : Nat} {r : Nat → Nat} {I : am_I} {J : am_J} (hn : n < 100) : FrT T I J (mst I T n r) J := by
  unfold mst
  refine ⟨fun g a b => ?_, fun i a => ?_, fun i a => ?_, fun g i a b c => ?_, fun _ _ => rfl⟩
  · rw [am_up_row (by omega), am_up_row (by omega), am_up_row (by omega), am_up_row (by omega), am_up_row (by omega), am_up_row (by omega)]
  · rw [am_up_h (by decide), am_up_h (by decide), am_up_h (by decide), am_up_h (by decide), am_up_h (by decide), am_up_h (by decide)]
  · rw [am_up_k a, am_up_h (by decide), am_up_h (by decide), am_up_h (by decide), am_up_h (by decide), am_up_h (by decide)]
  · have hi : i ≠ 100 * T + n := by omega
    rw [am_up_h (show g ≠ 99 by omega)]
    have q : ∀ (K : am_I) (h : Nat) (x : Int32), am_up K h (100 * T + n) x g i = K g i := fun K h x => by
      by_cases e : g = h
      · rw [e, am_up_k hi]
      · rw [am_up_h e]
    rw [q, q, q, q, q]
theorem mst_gm {T n : Nat} {S : Nat → Nat → Nat} {r : Nat → Nat} {I : am_I} (h : Gm T n S I) : Gm T (n + 1) (upf S n r) (mst I T n r) := by
  unfold mst Gm at *
  refine ⟨am_up_s, fun k hk => ?_⟩
  rw [am_up_h (show (100 : Nat) ≠ 99 by decide), am_up_h (show (100 : Nat) ≠ 104 by decide), am_up_h (show (100 : Nat) ≠ 103 by decide), am_up_h (show (100 : Nat) ≠ 102 by decide), am_up_h (show (100 : Nat) ≠ 101 by decide), am_up_h (show (101 : Nat) ≠ 99 by decide), am_up_h (show (101 : Nat) ≠ 104 by decide), am_up_h (show (101 : Nat) ≠ 103 by decide), am_up_h (show (101 : Nat) ≠ 102 by decide), am_up_h (show (102 : Nat) ≠ 99 by decide), am_up_h (show (102 : Nat) ≠ 104 by decide), am_up_h (show (102 : Nat) ≠ 103 by decide), am_up_h (show (103 : Nat) ≠ 99 by decide), am_up_h (show (103 : Nat) ≠ 104 by decide), am_up_h (show (104 : Nat) ≠ 99 by decide)]
  by_cases e : k = n
  · subst e
    rw [am_up_s, am_up_s, am_up_s, am_up_s, am_up_s, upf_s]
    exact ⟨rfl, rfl, rfl, rfl, rfl⟩
  · have e2 : 100 * T + k ≠ 100 * T + n := by omega
    rw [am_up_k e2, am_up_k e2, am_up_k e2, am_up_k e2, am_up_k e2, upf_n e, am_up_h (show (101 : Nat) ≠ 100 by decide), am_up_h (show (102 : Nat) ≠ 101 by decide), am_up_h (show (102 : Nat) ≠ 100 by decide), am_up_h (show (103 : Nat) ≠ 102 by decide), am_up_h (show (103 : Nat) ≠ 101 by decide), am_up_h (show (103 : Nat) ≠ 100 by decide), am_up_h (show (104 : Nat) ≠ 103 by decide), am_up_h (show (104 : Nat) ≠ 102 by decide), am_up_h (show (104 : Nat) ≠ 101 by decide), am_up_h (show (104 : Nat) ≠ 100 by decide)]
    exact h.2 k (by omega)
section
variable {L : Nat} {xs : Nat → Int32} {d : Nat} {P : Option Value → am_I → am_J → Prop} {I : am_I} {J : am_J} {t f n T w j x y p : Nat} {s : SC} {S : Nat → Nat → Nat} {z : ZZ} {th : Nat → Bool} {b v : Nat → Nat} {a : Int32}
theorem store_m (hT : T < 12) (hn : n < 100) (hf : f < 5) (ht : t < 101) (hx : x < 24) (hy : y < 24) (h99 : I 99 T = nI n) (h110 : I 110 t = nI p) (h : am_To (am_XX L xs) d 101 80 [some (.ref 95), none, some (.int (nI T)), some (.int (nI t)), some (.int (nI (f + 1))), none, none, none, none, none] [] (mst I T n (sgR f x y p)) J P) : am_To (am_XX L xs) d 101 149 [some (.ref 95), none, some (.int (nI T)), some (.int (nI t)), some (.int (nI f)), none, some (.int (nI x)), none, none, none] [.int (nI y)] I J P := by
  have hk : 100 * T + n < 1200 := by omega
  have e8 : ((100 : Int32) * nI T) + I 99 T = nI (100 * T + n) := by
    rw [h99, show (100 : Int32) * nI T = nI (100 * T) from pk_mul 100 T, nI_add]
  -- weight, place, count
  have g278 : ∀ (K : am_I) (q : Nat), K 110 t = nI p → K 99 T = nI n → q = fG f → am_up (am_up (am_up K 103 (100 * T + n) (nI (fG f))) 104 (100 * T + n) (nI p)) 99 T (nI (n + 1)) = mst I T n (sgR f x y p) → am_To (am_XX L xs) d 101 278 [some (.ref 95), none, some (.int (nI T)), some (.int (nI t)), some (.int (nI f)), none, none, none, some (.int (nI (100 * T + n))), none] [.int (nI q), .int (nI (100 * T + n)), .ref 103] K J P := fun K q k1 k2 hq k3 => by
    subst hq
    refine bk_101_278 _ _ _ _ _ _ K J (x_i _ rfl (x_i t rfl (x_i _ rfl (x_i T rfl (x_i T rfl ?_)))))
    rw [am_up_h (show (110 : Nat) ≠ 103 by decide), k1, am_up_h (show (99 : Nat) ≠ 104 by decide), am_up_h (show (99 : Nat) ≠ 103 by decide), k2, nI_1, nI_1, k3]
    exact h
  have g250 : ∀ (K : am_I) (q : Nat), K 110 t = nI p → K 99 T = nI n → am_up (am_up (am_up (am_up K 102 (100 * T + n) (nI q)) 103 (100 * T + n) (nI (fG f))) 104 (100 * T + n) (nI p)) 99 T (nI (n + 1)) = mst I T n (sgR f x y p) → am_To (am_XX L xs) d 101 250 [some (.ref 95), none, some (.int (nI T)), some (.int (nI t)), some (.int (nI f)), none, none, none, some (.int (nI (100 * T + n))), none] [.int (nI q), .int (nI (100 * T + n)), .ref 102] K J P := fun K q k1 k2 k3 => by
    have hg := fG_3 f hf
    have k1' : am_up K 102 (100 * T + n) (nI q) 110 t = nI p := by rw [am_up_h (by decide)]; exact k1
    have k2' : am_up K 102 (100 * T + n) (nI q) 99 T = nI n := by rw [am_up_h (by decide)]; exact k2
    refine bk_101_250 _ _ _ _ _ _ K J (x_i _ rfl (i_le 2 f rfl rfl (fun c => i_eq f 2 rfl rfl (fun c2 => g278 _ 3 k1' k2' (hg.2.1 c2).symm k3) (fun c2 => g278 _ 1 k1' k2' (hg.2.2 (by omega)).symm k3)) (fun c => g278 _ 2 k1' k2' (hg.1 c).symm k3)))
  have g190 : ∀ u : Nat, u = fU f → am_To (am_XX L xs) d 101 190 [some (.ref 95), none, some (.int (nI T)), some (.int (nI t)), some (.int (nI f)), none, some (.int (nI x)), some (.int (nI y)), some (.int (nI (100 * T + n))), none] [.int (nI u)] I J P := fun u hu => by
    have g212 : ∀ q : Nat, q = fK f → am_To (am_XX L xs) d 101 212 [some (.ref 95), none, some (.int (nI T)), some (.int (nI t)), some (.int (nI f)), none, some (.int (nI x)), some (.int (nI y)), some (.int (nI (100 * T + n))), some (.int (nI u))] [.int (nI q), .int (nI (100 * T + n)), .ref 100] I J P := fun q hq => by
      subst hq
      have hu2 := (fKGU f hf).2.2
      refine bk_101_212 _ _ _ _ _ _ _ _ _ I J (x_i _ rfl (i_eq u 0 rfl rfl (fun c => ?_) (fun c => ?_)))
      · refine bk_101_231 _ _ _ _ _ _ _ _ _ _ J (x_i _ rfl (i_eq u 0 rfl rfl (fun _ => ?_) (fun c2 => absurd c c2)))
        refine g250 _ y (by rw [am_up_h (by decide), am_up_h (by decide)]; exact h110) (by rw [am_up_h (by decide), am_up_h (by decide)]; exact h99) ?_
        have e1 : sgR f x y p 1 = x := by
          show (if fU f = 1 then y else x) = x
          rw [if_neg (by omega)]
        have e2 : sgR f x y p 2 = y := by
          show (if fU f = 1 then x else y) = y
          rw [if_neg (by omega)]
        unfold mst
        rw [e1, e2]
        rfl
      · refine bk_101_231 _ _ _ _ _ _ _ _ _ _ J (x_i _ rfl (i_eq u 0 rfl rfl (fun c2 => absurd c2 c) (fun _ => ?_)))
        refine g250 _ x (by rw [am_up_h (by decide), am_up_h (by decide)]; exact h110) (by rw [am_up_h (by decide), am_up_h (by decide)]; exact h99) ?_
        have e1 : sgR f x y p 1 = y := by
          show (if fU f = 1 then y else x) = y
          rw [if_pos (by omega)]
        have e2 : sgR f x y p 2 = x := by
          show (if fU f = 1 then x else y) = x
          rw [if_pos (by omega)]
        unfold mst
        rw [e1, e2]
        rfl
    have hK := fK_3 f hf
    have hu3 := (fKGU f hf).2.2
    refine bk_101_190 _ _ _ _ _ _ _ I J (i_le 3 f rfl rfl (fun c => ?_) (fun c => g212 0 (hK.2 c).symm))
    rw [show nI f - (2 : Int32) = nI (f - 2) from pk_sub (b := 2) (by omega)]
    exact g212 (f - 2) (hK.1 c).symm
  have hU := fU_1 f hf
  have hu3 := (fKGU f hf).2.2
  refine bk_101_149 _ _ _ _ _ I J (i_f (nI_m1 (by omega)) (x_i T rfl ?_))
  rw [e8]
  exact i_eq f 1 rfl rfl (fun c => bk_101_185 _ _ _ _ _ _ I J (g190 1 (hU.mpr (Or.inl c)).symm)) (fun c => i_eq f 2 rfl rfl (fun c2 => bk_101_185 _ _ _ _ _ _ I J (g190 1 (hU.mpr (Or.inr c2)).symm)) (fun c2 => g190 0 (by
    rcases hu3 with q | q
    · exact q.symm
    · have := hU.mp q
      omega)))
theorem cutm_fr {I' : am_I} {J' : am_J} (h : CutM s I J) (hf : FrT T I J I' J') : CutM s I' J' := by
  unfold CutM at *
  rw [hf.2.1 20 (by decide), hf.1 110 (by decide) (by decide), hf.1 112 (by decide) (by decide), hf.2.2.2.2 111 (by decide)]
  exact h
theorem sign_m (hs : TKv s) (hT : T < 12) (hC : CutM s I J) (hm : mb (sP s t)) (ht : t < sT s) (hf : f < 5) (hok : okS s t f) (hz : SGv z) (h40 : zN z < 40) (hW : WCm (zW z) (zV z) I J) (hG : Gm T (zN z) (zS z) I) (h : ∀ I' J', FrT T I J I' J' → WCm (zW (sg2 s t f z)) (zV (sg2 s t f z)) I' J' → Gm T (zN (sg2 s t f z)) (zS (sg2 s t f z)) I' → am_To (am_XX L xs) (d + 1) 101 80 [some (.ref 95), none, some (.int (nI T)), some (.int (nI t)), some (.int (nI (f + 1))), none, none, none, none, none] [] I' J' P) : am_To (am_XX L xs) (d + 1) 101 105 [some (.ref 95), none, some (.int (nI T)), some (.int (nI t)), some (.int (nI f)), none, none, none, none, none] [.int (nI (t + 1 + fL f))] I J P := by
  obtain ⟨p1, p2, p3, p4⟩ := ok_pos hs hf hm ht hok
  have h100 := hs.1
  have hend := hok.1
  have hw24 := hz.1.1
  have hN : ∀ (I' : am_I) (J' : am_J), (∀ g, g ≠ 95 → I' g = I g) → (∀ j, j ≠ 2 → I' 95 j = I 95 j) → (∀ g, g ≠ 97 → J' g = J g) → FrT T I J I' J' ∧ Gm T (zN z) (zS z) I' := fun I' J' f1 f2 f3 => by
    refine ⟨⟨fun g a _ => f1 g a, f2, fun i _ => by rw [f1 99 (by decide)], fun g i a b _ => by rw [f1 g (by omega)], f3⟩, ?_⟩
    unfold Gm at *
    rw [f1 99 (by decide), f1 100 (by decide), f1 101 (by decide), f1 102 (by decide), f1 103 (by decide), f1 104 (by decide)]
    exact hG
  unfold sg2 at h
  refine bk_101_105 _ _ _ _ I J (i_f (nI_m1 (by omega)) (x_i t rfl ?_))
  rw [(hC.2 t ht).1]
  refine number_m hz.1 hW p2 (fun I1 J1 f1 f2 f3 hW1 => ?_)
  obtain ⟨n1, n2⟩ := hN I1 J1 f1 f2 f3
  cases hx : br_r (zW z) (zV z) (sP s t) with
  | none =>
    rw [hx] at h
    dsimp only at h
    obtain ⟨q1, q2⟩ := br_none hx
    rw [q1, q2] at hW1
    refine bk_101_126 _ _ _ _ _ I1 J1 (i_t rfl (bk_101_149 _ _ _ _ _ I1 J1 (i_t rfl ?_)))
    rw [nI_1]
    exact h I1 J1 n1 hW1 n2
  | some x =>
    rw [hx] at h
    dsimp only at h
    obtain ⟨a1, a2, a3⟩ := br_ok hz.1 p1 p2
    obtain ⟨b1, b2⟩ := br_some hx
    have hw1 := a1.1
    generalize br_w (zW z) (zV z) (sP s t) = w1 at *
    generalize br_v (zW z) (zV z) (sP s t) = v1 at *
    refine bk_101_126 _ _ _ _ _ I1 J1 (i_f (nI_m1 (by omega)) (x_i (t + 1 + fL f) rfl ?_))
    rw [f3 111 (by decide), (hC.2 _ hend).1]
    refine number_m a1 hW1 p4 (fun I2 J2 g1 g2 g3 hW2 => ?_)
    obtain ⟨m1, m2⟩ := hN I2 J2 (fun g e => (g1 g e).trans (f1 g e)) (fun j e => (g2 j e).trans (f2 j e)) (fun g e => (g3 g e).trans (f3 g e))
    unfold sg3 at h
    cases hy : br_r w1 v1 (sP s (t + 1 + fL f)) with
    | none =>
      rw [hy] at h
      obtain ⟨q1, q2⟩ := br_none hy
      rw [q1, q2] at hW2
      refine bk_101_149 _ _ _ _ _ I2 J2 (i_t rfl ?_)
      rw [nI_1]
      exact h I2 J2 m1 hW2 m2
    | some y =>
      rw [hy] at h
      dsimp only at h
      obtain ⟨c1, c2, c3⟩ := br_ok a1 p3 p4
      obtain ⟨d1, d2⟩ := br_some hy
      have hw2 := c1.1
      have e110 : I2 110 t = nI (sL s t) := by
        rw [m1.1 110 (by decide) (by decide)]
        exact (hC.2 t ht).2.1
      refine store_m hT (by omega) hf (by omega) (by omega) (by omega) m2.1 e110 (h _ J2 (FrT_tr m1 (mst_fr (by omega))) ?_ (mst_gm m2))
      refine ⟨?_, hW2.2⟩
      unfold mst
      rw [am_up_h (by decide), am_up_h (by decide), am_up_h (by decide), am_up_h (by decide), am_up_h (by decide), am_up_h (by decide)]
      exact hW2.1
end
