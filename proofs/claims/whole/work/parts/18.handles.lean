section
variable {X : am_X} {d mid pc d' mid' pc' d2 mid2 : Nat} {ls ls' ls1 ls0 : am_L} {st st' : List Value} {I I' : am_I} {J J' : am_J} {P : Option Value → am_I → am_J → Prop}
theorem am_path (K : Nat) (e : ∀ n, am_exec X (n + K) d mid pc ls st am_lay I J = am_exec X n d' mid' pc' ls1 st' am_lay I' J') (hle : am_leL ls' ls1) (h : am_To X d' mid' pc' ls' st' I' J' P) : am_To X d mid pc ls st I J P := by
  obtain ⟨N, r, I2, J2, h1, h2⟩ := h
  refine ⟨N + K, r, I2, J2, fun n hn => ?_, h2⟩
  have h3 := e (n - K)
  rw [show n - K + K = n by omega] at h3
  exact h3.trans (am_exec_le _ _ _ _ _ _ _ _ _ _ _ hle (h1 (n - K) (by omega)))
theorem am_pret (K : Nat) {r : Option Value} (e : ∀ n, am_exec X (n + K) d mid pc ls st am_lay I J = some (r, am_lay, I', J')) (h : P r I' J') : am_To X d mid pc ls st I J P := by
  refine ⟨K, r, I', J', fun n hn => ?_, h⟩
  have h3 := e (n - K)
  rwa [show n - K + K = n by omega] at h3
theorem am_pcall (K : Nat) (e : ∀ n, am_exec X (n + K) d mid pc ls st am_lay I J = (am_exec X n d' mid' 0 ls0 [] am_lay I' J').bind fun q => am_exec X n d2 mid2 pc' ls1 (q.1.toList ++ st') q.2.1 q.2.2.1 q.2.2.2) (hle : am_leL ls' ls1) (h : am_To X d' mid' 0 ls0 [] I' J' (fun r I2 J2 => am_To X d2 mid2 pc' ls' (r.toList ++ st') I2 J2 P)) : am_To X d mid pc ls st I J P := by
  obtain ⟨N, r, I2, J2, h1, N2, r2, I3, J3, h3, h4⟩ := h
  refine ⟨N + N2 + K, r2, I3, J3, fun n hn => ?_, h4⟩
  have h5 := e (n - K)
  rw [show n - K + K = n by omega] at h5
  have h6 := h1 (n - K) (by omega)
  dsimp only at h6 ⊢
  rw [h5, h6]
  exact am_exec_le _ _ _ _ _ _ _ _ _ _ _ hle (h3 (n - K) (by omega))
end
def am_If (c A B : Prop) : Prop := (c → A) ∧ (¬ c → B)
def am_Ix (i : Int32) (m : Nat) (F : Nat → Prop) : Prop := ∃ q : Nat, am_ix i m = some q ∧ F q
theorem am_bs {α β : Type} {o : Option α} {a : α} {f : α → Option β} (h : o = some a) : o.bind f = f a := by rw [h]; rfl
theorem am_l0 : am_leL [] [] := trivial
theorem am_ln {r r' : am_L} {o : Option Value} (h : am_leL r r') : am_leL (none :: r) (o :: r') := h
theorem am_lv {r r' : am_L} {v : Value} (h : am_leL r r') : am_leL (some v :: r) (some v :: r') := ⟨rfl, h⟩
def gH (t : Nat) : Nat := bif Nat.beq t 12 then 60 else 11 + 4 * t
def gA0 (t : Nat) : Nat := gH t + 1
def gA1 (t : Nat) : Nat := gH t + 2
def gA2 (t : Nat) : Nat := gH t + 3
def gN (t : Nat) : Nat := bif Nat.beq t 12 then 60 else 40
def fH (t : Nat) : Nat := bif Nat.beq t 7 then 67 else 81 + 2 * t
def fA (t : Nat) : Nat := fH t + 1
def fB (t : Nat) : Nat := bif Nat.beq t 7 then 65 else 78
def fN (t : Nat) : Nat := bif Nat.beq t 7 then 24 else 6
def vH (t : Nat) : Nat := ([68, 69, 70, 71, 78, 82] : List Nat).getD t 0
def vN (t : Nat) : Nat := ([24, 24, 576, 24, 6, 6] : List Nat).getD t 0
def am_tL : List (Option Nat) := [some 11, some 15, some 19, some 23, some 27, some 31, some 35, some 39, some 43, some 47, some 51, some 55]
def am_vL : List (Option Nat) := [some 81, some 83, some 85, some 87, some 89, some 91, some 93]
