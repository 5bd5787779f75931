theorem am_sw_out {a : Nat} {x : Int32} : ∀ sw : List (Int32 × Nat), (∀ q ∈ sw, ¬ x = q.1) → am_sw a x sw = a := by
  intro sw
  induction sw with
  | nil => intro _; rfl
  | cons q r ih =>
    intro h
    unfold am_sw
    rw [if_neg (h q List.mem_cons_self)]
    exact ih (fun q' h' => h q' (List.mem_cons_of_mem _ h'))
theorem am_sw_in {a : Nat} {x : Int32} {q : Int32 × Nat} : ∀ (sw : List (Int32 × Nat)) (j : Nat), sw[j]? = some q → x = q.1 → (∀ j' q', j' < j → sw[j']? = some q' → ¬ x = q'.1) → am_sw a x sw = q.2 := by
  intro sw
  induction sw with
  | nil => intro j h; simp at h
  | cons z r ih =>
    intro j h hx hlt
    unfold am_sw
    cases j with
    | zero =>
      simp at h
      subst h
      rw [if_pos hx]
    | succ j =>
      rw [if_neg (hlt 0 z (Nat.zero_lt_succ _) rfl)]
      exact ih j (by simpa using h) hx (fun j' q' h1 h2 => hlt (j' + 1) q' (by omega) (by simpa using h2))
theorem am_sw_lk {pc a : Nat} {x : Int32} {dflt : Int} (hd : (pc : Int) + dflt = (a : Int)) : ∀ (sw : List (Int32 × Nat)) (ps : List (Int × Int)), sw.map (fun q => (q.1.toInt, (q.2 : Int))) = ps.map (fun q => (q.1, (pc : Int) + q.2)) → (pc : Int) + Op.lookupswitch.offset ps dflt x.toInt = (am_sw a x sw : Int) := by
  intro sw
  induction sw with
  | nil =>
    intro ps h
    cases ps with
    | nil => exact hd
    | cons z r => simp at h
  | cons q r ih =>
    intro ps h
    cases ps with
    | nil => simp at h
    | cons z t =>
      simp only [List.map_cons, List.cons.injEq, Prod.mk.injEq] at h
      obtain ⟨⟨h1, h2⟩, h3⟩ := h
      obtain ⟨za, zo⟩ := z
      unfold am_sw
      by_cases hx : x = q.1
      · rw [if_pos hx]
        have e : x.toInt = za := by rw [hx]; exact h1
        rw [h2]
        rw [Op.lookupswitch.offset_cons, if_pos e.symm]
      · rw [if_neg hx, ← ih t h3]
        rw [lv_osw (k := q.1) hx h1]
section
variable {X : am_X} {B : Nat} {ra : Nat → Nat} {D : va_G} {d mid pc pc' : Nat} {ls ls' : am_L} {st st' : List Value} {lay : List am_Lay} {I : am_I} {J : am_J} {res : am_R} {i : Instr} {len a b ew : Nat} {imm : Value} {sw : List (Int32 × Nat)} {K : am_K}
/-- a branch that goes one way -/
theorem am_t4 (hK : ∀ (d mid pc : Nat) (ls : am_L) (st : List Value) (lay : List am_Lay) (I : am_I) (J : am_J) (res : am_R), K d mid pc ls st lay I J = some res → am_WW X B ra D d mid pc ls st lay I J res) (hent : am_ent mid pc = some (4, i, len, imm, a, b, ew, sw)) (h : am_br K d mid pc ls st lay I J i len a sw = some res) : am_WW X B ra D d mid pc ls st lay I J res := by
  obtain ⟨me, hme, hdec0, hok0⟩ := am_ok_of hent
  have hdec : decode me.2.1 pc = .ok (i, len) := hdec0
  have hok : am_okE pc i len a sw = true := hok0
  unfold am_br at h
  split at h
  · -- goto
    obtain ⟨h1, h2⟩ := Bool.and_eq_true_iff.mp hok
    obtain rfl := Nat.eq_of_beq_eq_true h1
    have h2 := of_decide_eq_true h2
    refine am_same (hK _ _ _ _ _ _ _ _ _ h) fun p l e R s m args below meth c me' H locs LS cells slots Q hC hG hd hH hS hL kk => ?_
    obtain ⟨hme', hx, hb, hml, hown, hts, hr, hin, hlk⟩ := hC
    obtain rfl := am_me hme hme'
    exact lv_goto hx hb hdec h2 (kk LS hL)
  · obtain ⟨h1, h2⟩ := Bool.and_eq_true_iff.mp hok
    obtain rfl := Nat.eq_of_beq_eq_true h1
    have h2 := of_decide_eq_true h2
    split at h
    all_goals (
      rename_i hc
      refine am_same (hK _ _ _ _ _ _ _ _ _ h) fun p l e R s m args below meth c me' H locs LS cells slots Q hC hG hd hH hS hL kk => ?_
      obtain ⟨hme', hx, hb, hml, hown, hts, hr, hin, hlk⟩ := hC
      obtain rfl := am_me hme hme'
      exact lv_if_eq hx hb hdec h2 (fun z => by first | exact kk LS hL | exact absurd z hc) (fun z => by first | exact kk LS hL | exact absurd hc z))
  · obtain ⟨h1, h2⟩ := Bool.and_eq_true_iff.mp hok
    obtain rfl := Nat.eq_of_beq_eq_true h1
    have h2 := of_decide_eq_true h2
    split at h
    all_goals (
      rename_i hc
      refine am_same (hK _ _ _ _ _ _ _ _ _ h) fun p l e R s m args below meth c me' H locs LS cells slots Q hC hG hd hH hS hL kk => ?_
      obtain ⟨hme', hx, hb, hml, hown, hts, hr, hin, hlk⟩ := hC
      obtain rfl := am_me hme hme'
      exact lv_if_ne hx hb hdec h2 (fun z => by first | exact kk LS hL | exact absurd hc z) (fun z => by first | exact kk LS hL | exact absurd z hc))
  · obtain ⟨h1, h2⟩ := Bool.and_eq_true_iff.mp hok
    obtain rfl := Nat.eq_of_beq_eq_true h1
    have h2 := of_decide_eq_true h2
    split at h
    all_goals (
      rename_i hc
      refine am_same (hK _ _ _ _ _ _ _ _ _ h) fun p l e R s m args below meth c me' H locs LS cells slots Q hC hG hd hH hS hL kk => ?_
      obtain ⟨hme', hx, hb, hml, hown, hts, hr, hin, hlk⟩ := hC
      obtain rfl := am_me hme hme'
      exact lv_if_lt hx hb hdec h2 (fun z => by first | exact kk LS hL | exact absurd z hc) (fun z => by first | exact kk LS hL | exact absurd hc z))
  · obtain ⟨h1, h2⟩ := Bool.and_eq_true_iff.mp hok
    obtain rfl := Nat.eq_of_beq_eq_true h1
    have h2 := of_decide_eq_true h2
    split at h
    all_goals (
      rename_i hc
      refine am_same (hK _ _ _ _ _ _ _ _ _ h) fun p l e R s m args below meth c me' H locs LS cells slots Q hC hG hd hH hS hL kk => ?_
      obtain ⟨hme', hx, hb, hml, hown, hts, hr, hin, hlk⟩ := hC
      obtain rfl := am_me hme hme'
      exact lv_if_ge hx hb hdec h2 (fun z => by first | exact kk LS hL | exact absurd z hc) (fun z => by first | exact kk LS hL | exact absurd hc z))
  · obtain ⟨h1, h2⟩ := Bool.and_eq_true_iff.mp hok
    obtain rfl := Nat.eq_of_beq_eq_true h1
    have h2 := of_decide_eq_true h2
    split at h
    all_goals (
      rename_i hc
      refine am_same (hK _ _ _ _ _ _ _ _ _ h) fun p l e R s m args below meth c me' H locs LS cells slots Q hC hG hd hH hS hL kk => ?_
      obtain ⟨hme', hx, hb, hml, hown, hts, hr, hin, hlk⟩ := hC
      obtain rfl := am_me hme hme'
      exact lv_if_gt hx hb hdec h2 (fun z => by first | exact kk LS hL | exact absurd z hc) (fun z => by first | exact kk LS hL | exact absurd hc z))
  · obtain ⟨h1, h2⟩ := Bool.and_eq_true_iff.mp hok
    obtain rfl := Nat.eq_of_beq_eq_true h1
    have h2 := of_decide_eq_true h2
    split at h
    all_goals (
      rename_i hc
      refine am_same (hK _ _ _ _ _ _ _ _ _ h) fun p l e R s m args below meth c me' H locs LS cells slots Q hC hG hd hH hS hL kk => ?_
      obtain ⟨hme', hx, hb, hml, hown, hts, hr, hin, hlk⟩ := hC
      obtain rfl := am_me hme hme'
      exact lv_if_le hx hb hdec h2 (fun z => by first | exact kk LS hL | exact absurd z hc) (fun z => by first | exact kk LS hL | exact absurd hc z))
  · obtain ⟨h1, h2⟩ := Bool.and_eq_true_iff.mp hok
    obtain rfl := Nat.eq_of_beq_eq_true h1
    have h2 := of_decide_eq_true h2
    split at h
    all_goals (
      rename_i hc
      refine am_same (hK _ _ _ _ _ _ _ _ _ h) fun p l e R s m args below meth c me' H locs LS cells slots Q hC hG hd hH hS hL kk => ?_
      obtain ⟨hme', hx, hb, hml, hown, hts, hr, hin, hlk⟩ := hC
      obtain rfl := am_me hme hme'
      exact lv_icmp_eq hx hb hdec h2 (fun z => by first | exact kk LS hL | exact absurd z hc) (fun z => by first | exact kk LS hL | exact absurd hc z))
  · obtain ⟨h1, h2⟩ := Bool.and_eq_true_iff.mp hok
    obtain rfl := Nat.eq_of_beq_eq_true h1
    have h2 := of_decide_eq_true h2
    split at h
    all_goals (
      rename_i hc
      refine am_same (hK _ _ _ _ _ _ _ _ _ h) fun p l e R s m args below meth c me' H locs LS cells slots Q hC hG hd hH hS hL kk => ?_
      obtain ⟨hme', hx, hb, hml, hown, hts, hr, hin, hlk⟩ := hC
      obtain rfl := am_me hme hme'
      exact lv_icmp_ne hx hb hdec h2 (fun z => by first | exact kk LS hL | exact absurd hc z) (fun z => by first | exact kk LS hL | exact absurd z hc))
  · obtain ⟨h1, h2⟩ := Bool.and_eq_true_iff.mp hok
    obtain rfl := Nat.eq_of_beq_eq_true h1
    have h2 := of_decide_eq_true h2
    split at h
    all_goals (
      rename_i hc
      refine am_same (hK _ _ _ _ _ _ _ _ _ h) fun p l e R s m args below meth c me' H locs LS cells slots Q hC hG hd hH hS hL kk => ?_
      obtain ⟨hme', hx, hb, hml, hown, hts, hr, hin, hlk⟩ := hC
      obtain rfl := am_me hme hme'
      exact lv_icmp_lt hx hb hdec h2 (fun z => by first | exact kk LS hL | exact absurd z hc) (fun z => by first | exact kk LS hL | exact absurd hc z))
  · obtain ⟨h1, h2⟩ := Bool.and_eq_true_iff.mp hok
    obtain rfl := Nat.eq_of_beq_eq_true h1
    have h2 := of_decide_eq_true h2
    split at h
    all_goals (
      rename_i hc
      refine am_same (hK _ _ _ _ _ _ _ _ _ h) fun p l e R s m args below meth c me' H locs LS cells slots Q hC hG hd hH hS hL kk => ?_
      obtain ⟨hme', hx, hb, hml, hown, hts, hr, hin, hlk⟩ := hC
      obtain rfl := am_me hme hme'
      exact lv_icmp_ge hx hb hdec h2 (fun z => by first | exact kk LS hL | exact absurd z hc) (fun z => by first | exact kk LS hL | exact absurd hc z))
  · obtain ⟨h1, h2⟩ := Bool.and_eq_true_iff.mp hok
    obtain rfl := Nat.eq_of_beq_eq_true h1
    have h2 := of_decide_eq_true h2
    split at h
    all_goals (
      rename_i hc
      refine am_same (hK _ _ _ _ _ _ _ _ _ h) fun p l e R s m args below meth c me' H locs LS cells slots Q hC hG hd hH hS hL kk => ?_
      obtain ⟨hme', hx, hb, hml, hown, hts, hr, hin, hlk⟩ := hC
      obtain rfl := am_me hme hme'
      exact lv_icmp_gt hx hb hdec h2 (fun z => by first | exact kk LS hL | exact absurd z hc) (fun z => by first | exact kk LS hL | exact absurd hc z))
  · obtain ⟨h1, h2⟩ := Bool.and_eq_true_iff.mp hok
    obtain rfl := Nat.eq_of_beq_eq_true h1
    have h2 := of_decide_eq_true h2
    split at h
    all_goals (
      rename_i hc
      refine am_same (hK _ _ _ _ _ _ _ _ _ h) fun p l e R s m args below meth c me' H locs LS cells slots Q hC hG hd hH hS hL kk => ?_
      obtain ⟨hme', hx, hb, hml, hown, hts, hr, hin, hlk⟩ := hC
      obtain rfl := am_me hme hme'
      exact lv_icmp_le hx hb hdec h2 (fun z => by first | exact kk LS hL | exact absurd z hc) (fun z => by first | exact kk LS hL | exact absurd hc z))
  · -- tableswitch
    rename_i dflt lo hi offs x r
    refine am_same (hK _ _ _ _ _ _ _ _ _ h) fun p l e R s m args below meth c me' H locs LS cells slots Q hC hG hd hH hS hL kk => ?_
    obtain ⟨hme', hx, hb, hml, hown, hts, hr, hin, hlk⟩ := hC
    obtain rfl := am_me hme hme'
    have kk := kk LS hL
    obtain ⟨h1, h3⟩ := Bool.and_eq_true_iff.mp hok
    obtain ⟨h1, h2⟩ := Bool.and_eq_true_iff.mp h1
    have h1 := of_decide_eq_true h1
    have h2 := of_decide_eq_true h2
    have hsw : ∀ (j : Nat) (q : Int32 × Nat), sw[j]? = some q → ∃ o, offs[j]? = some o ∧ q.1.toInt = lo + j ∧ (pc : Int) + o = (q.2 : Int) := by
      intro j q hq
      have hj := (List.getElem?_eq_some_iff.mp hq).1
      have h4 := List.all_eq_true.mp h3 j (List.mem_range.mpr hj)
      rw [hq] at h4
      cases ho : offs[j]? with
      | none => rw [ho] at h4; cases h4
      | some o =>
        rw [ho] at h4
        obtain ⟨h5, h6⟩ := Bool.and_eq_true_iff.mp h4
        exact ⟨o, rfl, of_decide_eq_true h5, of_decide_eq_true h6⟩
    by_cases hout : x.toInt < lo ∨ hi < x.toInt
    · rw [am_sw_out sw (fun q hq e0 => by
        obtain ⟨j, hj⟩ := List.mem_iff_getElem?.mp hq
        have hjl := (List.getElem?_eq_some_iff.mp hj).1
        obtain ⟨o, -, hq1, -⟩ := hsw j q hj
        rw [← e0] at hq1
        omega)] at kk
      exact lv_tableOut hx hb hdec hout h1 kk
    · have hlo : ¬ x.toInt < lo := fun z => hout (Or.inl z)
      have hhi : ¬ hi < x.toInt := fun z => hout (Or.inr z)
      have hjl : (x.toInt - lo).toNat < sw.length := by omega
      obtain ⟨q, hq⟩ : ∃ q, sw[(x.toInt - lo).toNat]? = some q := ⟨_, List.getElem?_eq_getElem hjl⟩
      obtain ⟨o, ho, hq1, hq2⟩ := hsw _ q hq
      have hxq : x = q.1 := Int32.toInt_inj.mp (by omega)
      rw [am_sw_in sw _ hq hxq (fun j' q' hj' hq' e0 => by
        obtain ⟨o', -, hq3, -⟩ := hsw j' q' hq'
        rw [← e0] at hq3
        omega)] at kk
      exact lv_tableIn hx hb hdec hlo hhi ho hq2 kk
  · -- lookupswitch
    rename_i dflt ps x r
    refine am_same (hK _ _ _ _ _ _ _ _ _ h) fun p l e R s m args below meth c me' H locs LS cells slots Q hC hG hd hH hS hL kk => ?_
    obtain ⟨hme', hx, hb, hml, hown, hts, hr, hin, hlk⟩ := hC
    obtain rfl := am_me hme hme'
    have kk := kk LS hL
    obtain ⟨h1, h3⟩ := Bool.and_eq_true_iff.mp hok
    obtain ⟨h1, h2⟩ := Bool.and_eq_true_iff.mp h1
    exact lv_lookup hx hb hdec h2 rfl (am_sw_lk (of_decide_eq_true h1) sw ps.toList (of_decide_eq_true h3)) kk
  · cases h
end
