/-! RUNS OF THE SMALL MACHINE, GOAL FIRST, over the plan am_lay -/
def am_Ob (T : Nat → Option am_R) (P : Option Value → am_I → am_J → Prop) : Prop := ∃ (N : Nat) (r : Option Value) (I : am_I) (J : am_J), (∀ n, N ≤ n → T n = some (r, am_lay, I, J)) ∧ P r I J
def am_To (X : am_X) (d mid pc : Nat) (ls : am_L) (st : List Value) (I : am_I) (J : am_J) (P : Option Value → am_I → am_J → Prop) : Prop := am_Ob (fun n => am_exec X n d mid pc ls st am_lay I J) P
/-- what is known of the locals in ls holds in ls' too -/
def am_leL : am_L → am_L → Prop
  | [], [] => True
  | none :: r, _ :: r' => am_leL r r'
  | some v :: r, some v' :: r' => v = v' ∧ am_leL r r'
  | _, _ => False
theorem am_leL_get : ∀ (ls ls' : am_L), am_leL ls ls' → ∀ (i : Nat) (v : Value), ls[i]? = some (some v) → ls'[i]? = some (some v) := by
  intro ls
  induction ls with
  | nil => intro ls' _ i v h; simp at h
  | cons x r ih =>
    intro ls' h i v hv
    cases ls' with
    | nil => cases x <;> exact h.elim
    | cons y r' =>
      cases x with
      | none =>
        cases i with
        | zero => simp at hv
        | succ i => exact ih r' h i v (by simpa using hv)
      | some u =>
        cases y with
        | none => exact h.elim
        | some u' =>
          obtain ⟨rfl, h2⟩ := h
          cases i with
          | zero => exact hv
          | succ i => exact ih r' h2 i v (by simpa using hv)
theorem am_leL_refl : ∀ ls : am_L, am_leL ls ls := by
  intro ls
  induction ls with
  | nil => trivial
  | cons x r ih =>
    cases x with
    | none => exact ih
    | some u => exact ⟨rfl, ih⟩
theorem am_leL_set : ∀ (ls ls' : am_L), am_leL ls ls' → ∀ (i : Nat) (o : Option Value), am_leL (ls.set i o) (ls'.set i o) := by
  intro ls
  induction ls with
  | nil => intro ls' h i o; cases ls' with
    | nil => trivial
    | cons y r => exact h.elim
  | cons x r ih =>
    intro ls' h i o
    cases ls' with
    | nil => cases x <;> exact h.elim
    | cons y r' =>
      cases i with
      | zero =>
        have hr : am_leL r r' := by
          cases x with
          | none => exact h
          | some u => cases y with
            | none => exact h.elim
            | some u' => exact h.2
        cases o with
        | none => exact hr
        | some w => exact ⟨rfl, hr⟩
      | succ i =>
        cases x with
        | none => exact ih r' h i o
        | some u => cases y with
          | none => exact h.elim
          | some u' => exact ⟨h.1, ih r' h.2 i o⟩
theorem am_leL_setn : ∀ (ls ls' : am_L), am_leL ls ls' → ∀ (i : Nat), am_leL (ls.set i none) ls' := by
  intro ls
  induction ls with
  | nil => intro ls' h i; exact h
  | cons x r ih =>
    intro ls' h i
    cases ls' with
    | nil => cases x <;> exact h.elim
    | cons y r' =>
      have hr : am_leL r r' := by
        cases x with
        | none => exact h
        | some u => cases y with
          | none => exact h.elim
          | some u' => exact h.2
      cases i with
      | zero => exact hr
      | succ i =>
        cases x with
        | none => exact ih r' h i
        | some u => cases y with
          | none => exact h.elim
          | some u' => exact ⟨h.1, ih r' h.2 i⟩
theorem am_cut_le {ls ls' : am_L} (h : am_leL ls ls') (a : Nat) : am_leL (am_cut ls a) (am_cut ls' a) := by
  unfold am_cut
  cases a with
  | zero => exact h
  | succ b =>
    dsimp only
    cases hx : ls[b]? with
    | none =>
      dsimp only
      split
      · rename_i v hv
        cases hb : Nat.beq v.category 2 with
        | true =>
          have : ls = ls.set b none := by
            rw [List.set_eq_of_length_le (by rw [List.getElem?_eq_none_iff] at hx; exact hx)]
          rw [this]
          exact am_leL_set _ _ h b none
        | false => exact h
      · exact h
    | some o =>
      cases o with
      | none =>
        dsimp only
        split
        · rename_i v hv
          cases hb : Nat.beq v.category 2 with
          | true =>
            have : ls = ls.set b none := by
              obtain ⟨hb1, hb2⟩ := List.getElem?_eq_some_iff.mp hx
              have h9 := List.set_getElem_self hb1
              rw [hb2] at h9
              exact h9.symm
            rw [this]
            exact am_leL_set _ _ h b none
          | false => exact h
        · exact h
      | some v =>
        rw [am_leL_get _ _ h b v hx]
        dsimp only
        cases Nat.beq v.category 2 with
        | true => exact am_leL_set _ _ h b none
        | false => exact h
theorem am_set_le {ls ls' : am_L} (h : am_leL ls ls') (a : Nat) (v : Value) : am_leL (am_set ls a v) (am_set ls' a v) := by
  unfold am_set
  cases Nat.beq v.category 2 with
  | true => exact am_leL_set _ _ (am_leL_set _ _ (am_cut_le h a) a _) _ _
  | false => exact am_leL_set _ _ (am_cut_le h a) a _
theorem am_ite_mono {α : Type} {c : Prop} {dc : Decidable c} {A B A' B' : Option α} {r : α} (h : @ite _ c dc A B = some r) (ha : A = some r → A' = some r) (hb : B = some r → B' = some r) : @ite _ c dc A' B' = some r := by
  by_cases hc : c
  · rw [if_pos hc] at h ⊢
    exact ha h
  · rw [if_neg hc] at h ⊢
    exact hb h
theorem am_bind_mono {α β : Type} {o : Option α} {f g : α → Option β} {r : β} (e : o.bind f = some r) (h : ∀ a r, f a = some r → g a = some r) : o.bind g = some r := by
  obtain ⟨a, h1, h2⟩ := Option.bind_eq_some_iff.mp e
  exact Option.bind_eq_some_iff.mpr ⟨a, h1, h a r h2⟩
theorem am_bif_mono {α : Type} {c : Bool} {x x' : Option α} {y : α} (h : (bif c then x else none) = some y) (hx : x = some y → x' = some y) : (bif c then x' else none) = some y := by
  cases c with
  | true => exact hx h
  | false => cases h
theorem am_exec_le {X : am_X} : ∀ (n d mid pc : Nat) (ls ls' : am_L) (st : List Value) (lay : List am_Lay) (I : am_I) (J : am_J) (res : am_R), am_leL ls ls' → am_exec X n d mid pc ls st lay I J = some res → am_exec X n d mid pc ls' st lay I J = some res := by
  intro n
  induction n with
  | zero => intro d mid pc ls ls' st lay I J res _ h; cases h
  | succ n ih =>
    intro d mid pc ls ls' st lay I J res hle h
    rw [am_exec_succ] at h ⊢
    have k : ∀ (d mid pc : Nat) (st : List Value) (lay : List am_Lay) (I : am_I) (J : am_J) (res : am_R), am_exec X n d mid pc ls st lay I J = some res → am_exec X n d mid pc ls' st lay I J = some res := fun d mid pc st lay I J res h => ih d mid pc ls ls' st lay I J res hle h
    unfold am_step at h ⊢
    cases hent : am_ent mid pc with
    | none => rw [hent] at h; cases h
    | some q =>
      rw [hent] at h
      obtain ⟨t, i, len, imm, a, b, ew, sw⟩ := q
      dsimp only at h ⊢
      split at h
      · exact k _ _ _ _ _ _ _ _ h
      · split at h
        · rename_i v hv
          rw [am_leL_get _ _ hle a v hv]
          exact am_bif_mono h (k _ _ _ _ _ _ _ _)
        · cases h
      · split at h
        · exact am_bif_mono h (ih _ _ _ _ _ _ _ _ _ _ (am_set_le hle _ _))
        · cases h
      · exact am_bind_mono h (fun _ _ => k _ _ _ _ _ _ _ _)
      · unfold am_br at h ⊢
        split at h
        all_goals first | exact k _ _ _ _ _ _ _ _ h | exact am_ite_mono h (k _ _ _ _ _ _ _ _) (k _ _ _ _ _ _ _ _) | (cases h; done)
      · unfold am_hr at h ⊢
        split at h
        · split at h
          · rename_i hl
            try dsimp only
            try rw [hl]
            exact am_bif_mono h (fun h => am_bind_mono h (fun _ _ => k _ _ _ _ _ _ _ _))
          · cases h
        · split at h
          · rename_i hl
            try dsimp only
            try rw [hl]
            exact am_bind_mono h (fun _ _ => k _ _ _ _ _ _ _ _)
          · cases h
        · split at h
          · rename_i hl
            try dsimp only
            try rw [hl]
            exact am_bind_mono h (fun _ _ => k _ _ _ _ _ _ _ _)
          · rename_i hl
            try dsimp only
            try rw [hl]
            exact am_bind_mono h (fun _ _ => k _ _ _ _ _ _ _ _)
          · cases h
        · split at h
          · rename_i hl
            try dsimp only
            try rw [hl]
            exact am_bind_mono h (fun _ _ => k _ _ _ _ _ _ _ _)
          · cases h
        · split at h
          · rename_i hl
            try dsimp only
            try rw [hl]
            exact am_bind_mono h (fun _ _ => k _ _ _ _ _ _ _ _)
          · cases h
        · split at h
          · rename_i hl
            try dsimp only
            try rw [hl]
            exact k _ _ _ _ _ _ _ _ h
          · rename_i hl
            try dsimp only
            try rw [hl]
            try dsimp only
            split at h
            · rename_i hX
              try rw [hX]
              try dsimp only
              split at h
              · rename_i hl2
                try rw [hl2]
                exact k _ _ _ _ _ _ _ _ h
              · cases h
            · cases h
        · cases h
      · unfold am_hw at h ⊢
        split at h
        · split at h
          · rename_i hl
            try dsimp only
            try rw [hl]
            try dsimp only
            split at h
            · rename_i hf
              try rw [hf]
              exact am_bif_mono h (k _ _ _ _ _ _ _ _)
            · cases h
          · cases h
        · split at h
          · rename_i hl
            try dsimp only
            try rw [hl]
            try dsimp only
            split at h
            · rename_i hf
              try rw [hf]
              exact am_bif_mono h (k _ _ _ _ _ _ _ _)
            · cases h
          · cases h
        · split at h
          · rename_i hl
            try dsimp only
            try rw [hl]
            exact am_bind_mono h (fun _ _ => k _ _ _ _ _ _ _ _)
          · cases h
        · split at h
          · rename_i hl
            try dsimp only
            try rw [hl]
            exact am_bind_mono h (fun _ _ => k _ _ _ _ _ _ _ _)
          · rename_i hl
            try dsimp only
            try rw [hl]
            exact am_bind_mono h (fun _ _ => k _ _ _ _ _ _ _ _)
          · cases h
        · split at h
          · rename_i hl
            try dsimp only
            try rw [hl]
            exact am_bind_mono h (fun _ _ => k _ _ _ _ _ _ _ _)
          · cases h
        · split at h
          · rename_i hl
            try dsimp only
            try rw [hl]
            try dsimp only
            split at h
            · rename_i hl2
              try rw [hl2]
              try dsimp only
              split at h
              · rename_i hl3
                try rw [hl3]
                exact am_bif_mono h (fun h => am_bind_mono h (fun _ _ => k _ _ _ _ _ _ _ _))
              · cases h
            · cases h
          · cases h
        · cases h
      · unfold am_al at h ⊢
        refine am_bif_mono h (fun h => ?_)
        split at h
        · exact am_bind_mono h (fun _ _ => k _ _ _ _ _ _ _ _)
        · exact am_bif_mono h (k _ _ _ _ _ _ _ _)
        · refine am_bif_mono h (fun h => ?_)
          split at h
          · rename_i hl
            try rw [hl]
            exact k _ _ _ _ _ _ _ _ h
          · cases h
        · cases h
      · cases h88 : Nat.beq a 88 with
        | true =>
          rw [h88] at h
          show am_mm _ _ _ _ _ _ _ _ _ _ _ = _
          replace h : am_mm (am_exec X n) d mid pc ls st lay I J i (fun x y => if x < y then y else x) = some res := h
          unfold am_mm at h ⊢
          split at h
          · exact am_bif_mono h (k _ _ _ _ _ _ _ _)
          · cases h
        | false =>
          rw [h88] at h
          cases h139 : Nat.beq a 139 with
          | true =>
            rw [h139] at h
            show am_mm _ _ _ _ _ _ _ _ _ _ _ = _
            replace h : am_mm (am_exec X n) d mid pc ls st lay I J i (fun x y => if y < x then y else x) = some res := h
            unfold am_mm at h ⊢
            split at h
            · exact am_bif_mono h (k _ _ _ _ _ _ _ _)
            · cases h
          | false =>
            rw [h139] at h
            show am_call _ _ _ _ _ _ _ _ _ _ _ _ = _
            replace h : am_call (am_exec X n) d mid pc ls st lay I J i a b = some res := h
            unfold am_call at h ⊢
            split at h
            · rename_i hm
              try rw [hm]
              exact am_bif_mono h (fun h => am_bind_mono h (fun _ _ => k _ _ _ _ _ _ _ _))
            · cases h
      · exact h
      · split at h
        · rename_i x c hv
          rw [am_leL_get _ _ hle a _ hv]
          exact ih _ _ _ _ _ _ _ _ _ _ (am_set_le hle _ _) h
        · cases h
      · split at h
        · exact am_bif_mono h (k _ _ _ _ _ _ _ _)
        · cases h
      · exact k _ _ _ _ _ _ _ _ h
      · cases h
section
variable {X : am_X} {d mid pc k : Nat} {ls ls' : am_L} {st : List Value} {I : am_I} {J : am_J} {P : Option Value → am_I → am_J → Prop}
theorem am_start (k : Nat) (h : am_Ob (fun n => am_exec X (n + k) d mid pc ls st am_lay I J) P) : am_To X d mid pc ls st I J P := by
  obtain ⟨N, r, I', J', h1, h2⟩ := h
  refine ⟨N + k, r, I', J', fun n hn => ?_, h2⟩
  have h3 := h1 (n - k) (by omega)
  dsimp only at h3 ⊢
  rwa [show n - k + k = n by omega] at h3
/-- a block's end: what is no longer needed of the locals is let go -/
theorem am_leaf (h : am_To X d mid pc ls st I J P) (hle : am_leL ls ls') : am_Ob (fun n => am_exec X (n + k) d mid pc ls' st am_lay I J) P := by
  obtain ⟨N, r, I', J', h1, h2⟩ := h
  exact ⟨N, r, I', J', fun n hn => am_exec_le _ _ _ _ _ _ _ _ _ _ _ hle (h1 (n + k) (by omega)), h2⟩
theorem am_rtn {r : Option Value} (h : P r I J) : am_Ob (fun _ => some (r, am_lay, I, J)) P := ⟨0, r, I, J, fun _ _ => rfl, h⟩
theorem am_if {c : Prop} {dc : Decidable c} {A B : Nat → Option am_R} (ha : c → am_Ob A P) (hb : ¬ c → am_Ob B P) : am_Ob (fun n => @ite _ c dc (A n) (B n)) P := by
  by_cases hc : c
  · obtain ⟨N, r, I', J', h1, h2⟩ := ha hc
    exact ⟨N, r, I', J', fun n hn => (if_pos hc).trans (h1 n hn), h2⟩
  · obtain ⟨N, r, I', J', h1, h2⟩ := hb hc
    exact ⟨N, r, I', J', fun n hn => (if_neg hc).trans (h1 n hn), h2⟩
theorem am_at_ix {i : Int32} {m j : Nat} {F : Nat → Nat → Option am_R} (hj : am_ix i m = some j) (h : am_Ob (fun n => F j n) P) : am_Ob (fun n => (am_ix i m).bind fun q => F q n) P := by
  rw [hj]
  exact h
theorem am_cal {d' mid' mc : Nat} {ls0 : am_L} (h : am_To X d' mid' mc ls0 [] I J (fun r I' J' => am_To X d mid pc ls (r.toList ++ st) I' J' P)) (hle : am_leL ls ls') : am_Ob (fun n => (am_exec X (n + k) d' mid' mc ls0 [] am_lay I J).bind fun q => am_exec X (n + k) d mid pc ls' (q.1.toList ++ st) q.2.1 q.2.2.1 q.2.2.2) P := by
  obtain ⟨N, r, I', J', h1, N2, r2, I2, J2, h3, h4⟩ := h
  refine ⟨N + N2, r2, I2, J2, fun n hn => ?_, h4⟩
  have h5 := h1 (n + k) (by omega)
  dsimp only at h5 ⊢
  rw [h5]
  exact am_exec_le _ _ _ _ _ _ _ _ _ _ _ hle (h3 (n + k) (by omega))
end
theorem am_ix_nI {j m : Nat} (h : j < m) (hm : m < 2 ^ 31) : am_ix (nI j) m = some j := by
  unfold am_ix
  rw [if_neg (nI_in h hm), nI_clamp (by omega)]
