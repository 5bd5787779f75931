/-- THE SMALL MACHINE'S RUNS ARE THE LARGE ONE'S -/
theorem am_sound {X : am_X} {B : Nat} {ra : Nat → Nat} {D : va_G} : ∀ (n d mid pc : Nat) (ls : am_L) (st : List Value) (lay : List am_Lay) (I : am_I) (J : am_J) (res : am_R), am_exec X n d mid pc ls st lay I J = some res → am_WW X B ra D d mid pc ls st lay I J res := by
  intro n
  induction n with
  | zero => intro d mid pc ls st lay I J res h; cases h
  | succ n ih =>
    intro d mid pc ls st lay I J res h
    rw [am_exec_succ] at h
    unfold am_step at h
    cases hent : am_ent mid pc with
    | none => rw [hent] at h; cases h
    | some q =>
      rw [hent] at h
      obtain ⟨t, i, len, imm, a, b, ew, sw⟩ := q
      dsimp only at h
      split at h
      · exact am_t0 hent (ih _ _ _ _ _ _ _ _ _ h)
      · split at h
        · rename_i v hv
          obtain ⟨ht, h2⟩ := am_bif h
          exact am_t1 hent hv ht (ih _ _ _ _ _ _ _ _ _ h2)
        · cases h
      · split at h
        · obtain ⟨ht, h2⟩ := am_bif h
          exact am_t2 hent ht (ih _ _ _ _ _ _ _ _ _ h2)
        · cases h
      · obtain ⟨r, hr, h2⟩ := Option.bind_eq_some_iff.mp h
        exact am_t3 hent hr (ih _ _ _ _ _ _ _ _ _ h2)
      · exact am_t4 ih hent h
      · exact am_t5 ih hent h
      · exact am_t6 ih hent h
      · exact am_t7 ih hent h
      · cases h88 : Nat.beq a 88 with
        | true =>
          rw [h88] at h
          have ha := Nat.eq_of_beq_eq_true h88
          replace h : am_mm (am_exec X n) d mid pc ls st lay I J i (fun x y => if x < y then y else x) = some res := h
          unfold am_mm at h
          split at h
          · obtain ⟨hs, h2⟩ := am_bif h
            exact am_t8m hent (Or.inl ⟨ha, rfl⟩) hs (ih _ _ _ _ _ _ _ _ _ h2)
          · cases h
        | false =>
          rw [h88] at h
          cases h139 : Nat.beq a 139 with
          | true =>
            rw [h139] at h
            have ha := Nat.eq_of_beq_eq_true h139
            replace h : am_mm (am_exec X n) d mid pc ls st lay I J i (fun x y => if y < x then y else x) = some res := h
            unfold am_mm at h
            split at h
            · obtain ⟨hs, h2⟩ := am_bif h
              exact am_t8m hent (Or.inr ⟨ha, rfl⟩) hs (ih _ _ _ _ _ _ _ _ _ h2)
            · cases h
          | false =>
            rw [h139] at h
            exact am_t8 ih hent h
      · exact am_t9 hent h
      · split at h
        · rename_i x c hv
          exact am_t10 hent hv (ih _ _ _ _ _ _ _ _ _ h)
        · cases h
      · split at h
        · obtain ⟨hs, h2⟩ := am_bif h
          exact am_t11 hent hs (ih _ _ _ _ _ _ _ _ _ h2)
        · cases h
      · exact am_t12 hent (ih _ _ _ _ _ _ _ _ _ h)
      · cases h
