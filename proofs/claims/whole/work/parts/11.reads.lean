set_option maxRecDepth 100000
/-! what is checked of each class -/
def am_bok (ds : String) : Bool := match ds.toList with
  | 'I' :: _ => decide (parseFieldDescriptor ds = some .int)
  | 'Z' :: _ => decide (parseFieldDescriptor ds = some .boolean)
  | _ => match parseFieldDescriptor ds with
    | some (.object _) => true
    | some (.array _) => true
    | _ => false
def am_clc (q : vw_C) : Bool := ((List.range q.2.2).all fun k => decide (u_lay q.1 q.2.1 k ∈ lw_tbl) && ((parseFieldDescriptor (q.2.1 k).2.2.1).isSome && (am_bok (q.2.1 k).2.2.1 && (List.range q.2.2).all fun j => Nat.beq k j || decide ((q.2.1 k).2.1 ≠ (q.2.1 j).2.1)))) && (decide (Jvm.Cond.instantiable q.1 q.2.2 ∈ lw_tbl) && decide (Jvm.Cond.initialized q.1 ∈ lw_tbl))
theorem am_clcok : am_cl.all am_clc = true := by decide +kernel
def am_ty (q : vw_C) (k : Nat) : FieldType := (parseFieldDescriptor (q.2.1 k).2.2.1).getD .int
theorem am_cls {ci : Nat} {q : vw_C} (h : am_cl[ci]? = some q) : (∀ w ∈ u_ws q.1 q.2.1 q.2.2, w ∈ am_tb) ∧ (∀ k, k < q.2.2 → parseFieldDescriptor (q.2.1 k).2.2.1 = some (am_ty q k)) ∧ (∀ a, a < q.2.2 → ∀ b, b < q.2.2 → a ≠ b → (q.2.1 a).2.1 ≠ (q.2.1 b).2.1) ∧ Jvm.Cond.instantiable q.1 q.2.2 ∈ am_tb ∧ Jvm.Cond.initialized q.1 ∈ am_tb ∧ ∀ k, k < q.2.2 → am_bok (q.2.1 k).2.2.1 = true := by
  have h0 := List.all_eq_true.mp am_clcok q (List.mem_of_getElem? h)
  unfold am_clc at h0
  obtain ⟨h1, h2⟩ := Bool.and_eq_true_iff.mp h0
  obtain ⟨h2, h3⟩ := Bool.and_eq_true_iff.mp h2
  have h4 := List.all_eq_true.mp h1
  refine ⟨fun w hw => ?_, fun k hk => ?_, fun a ha b hb hab => ?_, am_tbi (of_decide_eq_true h2), am_tbi (of_decide_eq_true h3), fun k hk => ?_⟩
  · obtain ⟨k, hk, rfl⟩ := List.mem_map.mp hw
    exact am_tbi (of_decide_eq_true (Bool.and_eq_true_iff.mp (h4 k hk)).1) (by unfold u_lay; split <;> rfl)
  · have h5 := (Bool.and_eq_true_iff.mp (Bool.and_eq_true_iff.mp (h4 k (List.mem_range.mpr hk))).2).1
    obtain ⟨ty, hty⟩ := Option.isSome_iff_exists.mp h5
    unfold am_ty
    rw [hty]
    rfl
  · have h5 := (Bool.and_eq_true_iff.mp (Bool.and_eq_true_iff.mp (Bool.and_eq_true_iff.mp (h4 a (List.mem_range.mpr ha))).2).2).2
    have h6 := List.all_eq_true.mp h5 b (List.mem_range.mpr hb)
    rcases Bool.or_eq_true_iff.mp h6 with h7 | h7
    · exact absurd (Nat.eq_of_beq_eq_true h7) hab
    · exact of_decide_eq_true h7
  · exact (Bool.and_eq_true_iff.mp (Bool.and_eq_true_iff.mp (Bool.and_eq_true_iff.mp (h4 k (List.mem_range.mpr hk))).2).2).1
theorem am_fld_fv {ad : Nat → Nat} {I : am_I} {h b : Nat} {fs : List (Option Value)} {v : Value} (hv : am_fld I h b fs = some v) : am_fv ad (I h) fs b = am_cv ad v := by
  unfold am_fld at hv
  unfold am_fv
  split at hv
  · rename_i e
    rw [e]
    cases hv
    rfl
  · rename_i e
    rw [e]
    cases hv
    rfl
  · cases hv
theorem am_ints_of {X : am_X} {lay : List am_Lay} {I : am_I} {h n : Nat} {ty : FieldType} {f : Nat → Int32} (e : am_ints X lay I h = some (ty, n, f)) : (∃ L, lay[h]? = some (.inl (ty, n, L)) ∧ f = I h) ∨ (lay[h]? = none ∧ ty = .int ∧ X.1 h = some (n, f)) := by
  unfold am_ints at e
  split at e
  · rename_i ty' n' L hl
    cases e
    exact Or.inl ⟨L, hl, rfl⟩
  · cases e
  · rename_i hl
    obtain ⟨q, hq, e2⟩ := Option.map_eq_some_iff.mp e
    cases e2
    exact Or.inr ⟨hl, rfl, hq⟩
theorem am_lngs_of {X : am_X} {lay : List am_Lay} {J : am_J} {h n : Nat} {ty : FieldType} {f : Nat → Int64} (e : am_lngs X lay J h = some (ty, n, f)) : (∃ L, lay[h]? = some (.inl (ty, n, L)) ∧ f = J h) ∨ (lay[h]? = none ∧ ty = .long ∧ X.2 h = some (n, f)) := by
  unfold am_lngs at e
  split at e
  · rename_i ty' n' L hl
    cases e
    exact Or.inl ⟨L, hl, rfl⟩
  · cases e
  · rename_i hl
    obtain ⟨q, hq, e2⟩ := Option.map_eq_some_iff.mp e
    cases e2
    exact Or.inr ⟨hl, rfl, hq⟩
section
variable {X : am_X} {B : Nat} {ra : Nat → Nat} {D : va_G} {d mid pc pc' : Nat} {ls ls' : am_L} {st st' : List Value} {lay : List am_Lay} {I : am_I} {J : am_J} {res : am_R} {i : Instr} {len a b ew : Nat} {imm : Value} {sw : List (Int32 × Nat)} {K : am_K} {s : State} {H : Heap} {h n : Nat}
theorem am_cellA {ty : FieldType} {L : List (Option Nat)} (hH : am_H B ra D s lay I J H) (hl : lay[h]? = some (.inl (ty, n, L))) : ∃ cA : ClassId, (ArrOfT s cA ty ∧ va_RA s cA ty) ∧ H[am_ad B ra h]? = some (arrV cA n (am_ct (am_ad B ra) I J h ty L)) := by
  rw [am_ad_lt (Nat.lt_of_lt_of_le (am_lt hl) hH.2.1)]
  exact hH.2.2.1 h _ hl
theorem am_cellO {ci : Nat} {fs : List (Option Value)} (hH : am_H B ra D s lay I J H) (hl : lay[h]? = some (.inr (ci, fs))) : ∃ r : vw_C, am_cl[ci]? = some r ∧ (fs.length = r.2.2 ∧ am_fok r fs) ∧ t_OB (am_ad B ra h) (D.1 ci) r.2.2 (D.2 ci) H (am_fv (am_ad B ra) (I h) fs) := by
  rw [am_ad_lt (Nat.lt_of_lt_of_le (am_lt hl) hH.2.1)]
  exact hH.2.2.1 h _ hl
theorem am_lnk_of {me : am_ME} {k : Nat} (h : am_lnk me k a b ew = true) : ∃ r, am_cl[a]? = some r ∧ b < r.2.2 ∧ Jvm.Cond.fieldLink me.1.cls k (r.2.1 b).1 (r.2.1 b).2.1 (r.2.1 b).2.2.1 ∈ am_tb := by
  unfold am_lnk at h
  split at h
  · rename_i r hr
    obtain ⟨h1, h2⟩ := Bool.and_eq_true_iff.mp h
    exact ⟨r, hr, Nat.le_of_ble_eq_true h1, am_in h2⟩
  · cases h
theorem am_inN {j : Int32} {q : Nat} {cA : ClassId} {f : Nat → Value} (hj : am_ix j n = some q) : ¬ (j < 0 ∨ (arrV cA n f).slots.size ≤ j.toNatClampNeg) ∧ (arrV cA n f).slots[j.toNatClampNeg]? = some (f q) := by
  obtain ⟨h1, rfl⟩ := am_ix_of hj
  refine ⟨by rw [arrV_size]; exact h1, arrV_read cA f (Nat.not_le.mp fun z => h1 (Or.inr z))⟩
theorem am_t5 (hK : ∀ (d mid pc : Nat) (ls : am_L) (st : List Value) (lay : List am_Lay) (I : am_I) (J : am_J) (res : am_R), K d mid pc ls st lay I J = some res → am_WW X B ra D d mid pc ls st lay I J res) (hent : am_ent mid pc = some (5, i, len, imm, a, b, ew, sw)) (h : am_hr X K d mid pc ls st lay I J i len a b = some res) : am_WW X B ra D d mid pc ls st lay I J res := by
  obtain ⟨me, hme, hdec0, hok0⟩ := am_ok_of hent
  have hdec : decode me.2.1 pc = .ok (i, len) := hdec0
  have hok : am_okF me i len a b ew = true := hok0
  unfold am_hr at h
  split at h
  · -- getfield
    rename_i k g r
    obtain ⟨h1, h2⟩ := Bool.and_eq_true_iff.mp hok
    obtain rfl := Nat.eq_of_beq_eq_true h1
    obtain ⟨rc, hrc, hbN, hlink⟩ := am_lnk_of h2
    split at h
    · rename_i ci fs hl
      · obtain ⟨hca, h3⟩ := am_bif h
        obtain rfl := Nat.eq_of_beq_eq_true hca
        obtain ⟨v, hv, h4⟩ := Option.bind_eq_some_iff.mp h3
        refine am_same (hK _ _ _ _ _ _ _ _ _ h4) fun p l e R s m args below meth c me' H locs LS cells slots Q hC hG hd hH hS hL kk => ?_
        obtain ⟨hme', hx, hb, hml, hown, hts, hr, hin, hlk⟩ := hC
        obtain rfl := am_me hme hme'
        have kk := kk LS hL
        obtain ⟨rc', hrc', hfl, cell, q1, q2, q3, q4⟩ := am_cellO hH hl
        obtain rfl : rc' = rc := Option.some.inj (hrc'.symm.trans hrc)
        obtain ⟨hSl, hfc, kC, hkC, hkind⟩ := hG.1 ci _ hrc
        obtain ⟨cf, kf, fi, f, hi, hsl⟩ := hSl b hbN
        refine W.getf hx hb hown (hts _ hlink) hi (u_facts hfc hkC (u_lays hts (am_cls hrc).1 hbN) hi).1 q1 (by rw [q3]; exact fun z => by cases z) (v := am_cv (am_ad B ra) v) ?_ rfl rfl hdec kk
        rw [hsl, q4 b hbN, am_fld_fv hv]
    · cases h
  · -- iaload
    rename_i j g r
    have h1 : Nat.beq len 1 = true := hok
    obtain rfl := Nat.eq_of_beq_eq_true h1
    split at h
    · rename_i n f he
      obtain ⟨q, hq, h⟩ := Option.bind_eq_some_iff.mp h
      refine am_same (hK _ _ _ _ _ _ _ _ _ h) fun p l e R s m args below meth c me' H locs LS cells slots Q hC hG hd hH hS hL kk => ?_
      obtain ⟨hme', hx, hb, hml, hown, hts, hr, hin, hlk⟩ := hC
      obtain rfl := am_me hme hme'
      have kk := kk LS hL
      rcases am_ints_of he with ⟨L, hl, rfl⟩ | ⟨hl, -, hX⟩
      · obtain ⟨cA, hA, hc⟩ := am_cellA hH hl
        have hi := am_inN (cA := cA) (f := am_ct (am_ad B ra) I J g .int L) hq
        exact W.iald hx hb hc (hA.1 n _) (fun z => by cases z) hi.1 hi.2 rfl rfl hdec kk
      · obtain ⟨hge, hT⟩ := hG.2.1 g n f hX
        obtain ⟨hi, rfl⟩ := am_ix_of hq
        have kk' := va_ti (ls := LS) hx hb hT hS hi rfl hdec kk
        rw [← am_ad_ge (B := B) (ra := ra) hge] at kk'
        exact kk'
    · cases h
  · -- baload
    rename_i j g r
    have h1 : Nat.beq len 1 = true := hok
    obtain rfl := Nat.eq_of_beq_eq_true h1
    split at h
    · rename_i n f he
      obtain ⟨q, hq, h⟩ := Option.bind_eq_some_iff.mp h
      refine am_same (hK _ _ _ _ _ _ _ _ _ h) fun p l e R s m args below meth c me' H locs LS cells slots Q hC hG hd hH hS hL kk => ?_
      obtain ⟨hme', hx, hb, hml, hown, hts, hr, hin, hlk⟩ := hC
      obtain rfl := am_me hme hme'
      have kk := kk LS hL
      rcases am_ints_of he with ⟨L, hl, rfl⟩ | ⟨hl, z, hX⟩
      · obtain ⟨cA, hA, hc⟩ := am_cellA hH hl
        have hi := am_inN (cA := cA) (f := am_ct (am_ad B ra) I J g .byte L) hq
        exact W.bald hx hb hc (hA.1 n _) (fun z => by cases z) hi.1 hi.2 rfl rfl hdec kk
      · cases z
    · rename_i n f he
      obtain ⟨q, hq, h⟩ := Option.bind_eq_some_iff.mp h
      refine am_same (hK _ _ _ _ _ _ _ _ _ h) fun p l e R s m args below meth c me' H locs LS cells slots Q hC hG hd hH hS hL kk => ?_
      obtain ⟨hme', hx, hb, hml, hown, hts, hr, hin, hlk⟩ := hC
      obtain rfl := am_me hme hme'
      have kk := kk LS hL
      rcases am_ints_of he with ⟨L, hl, rfl⟩ | ⟨hl, z, hX⟩
      · obtain ⟨cA, hA, hc⟩ := am_cellA hH hl
        have hi := am_inN (cA := cA) (f := am_ct (am_ad B ra) I J g .boolean L) hq
        exact W.zald hx hb hc (hA.1 n _) (fun z => by cases z) hi.1 hi.2 rfl rfl hdec kk
      · cases z
    · cases h
  · -- laload
    rename_i j g r
    have h1 : Nat.beq len 1 = true := hok
    obtain rfl := Nat.eq_of_beq_eq_true h1
    split at h
    · rename_i n f he
      obtain ⟨q, hq, h⟩ := Option.bind_eq_some_iff.mp h
      refine am_same (hK _ _ _ _ _ _ _ _ _ h) fun p l e R s m args below meth c me' H locs LS cells slots Q hC hG hd hH hS hL kk => ?_
      obtain ⟨hme', hx, hb, hml, hown, hts, hr, hin, hlk⟩ := hC
      obtain rfl := am_me hme hme'
      have kk := kk LS hL
      rcases am_lngs_of he with ⟨L, hl, rfl⟩ | ⟨hl, -, hX⟩
      · obtain ⟨cA, hA, hc⟩ := am_cellA hH hl
        have hi := am_inN (cA := cA) (f := am_ct (am_ad B ra) I J g .long L) hq
        exact W.lald hx hb hc (hA.1 n _) (fun z => by cases z) hi.1 hi.2 rfl rfl hdec kk
      · obtain ⟨hge, hT⟩ := hG.2.2.1 g n f hX
        obtain ⟨hi, rfl⟩ := am_ix_of hq
        have kk' := va_tl (ls := LS) hx hb hT hS hi rfl hdec kk
        rw [← am_ad_ge (B := B) (ra := ra) hge] at kk'
        exact kk'
    · cases h
  · -- aaload
    rename_i j g r
    have h1 : Nat.beq len 1 = true := hok
    obtain rfl := Nat.eq_of_beq_eq_true h1
    split at h
    · rename_i C n L hl
      obtain ⟨q, hq, h⟩ := Option.bind_eq_some_iff.mp h
      refine am_same (hK _ _ _ _ _ _ _ _ _ h) fun p l e R s m args below meth c me' H locs LS cells slots Q hC hG hd hH hS hL kk => ?_
      obtain ⟨hme', hx, hb, hml, hown, hts, hr, hin, hlk⟩ := hC
      obtain rfl := am_me hme hme'
      have kk := kk LS hL
      obtain ⟨cA, hA, hc⟩ := am_cellA hH hl
      have hi := am_inN (cA := cA) (f := am_ct (am_ad B ra) I J g (.object C) L) hq
      refine W.aald hx hb hc (hA.1 n _) rfl (fun z => by cases z) hi.1 hi.2 rfl rfl hdec ?_
      have e0 : am_ct (am_ad B ra) I J g (.object C) L q = am_cv (am_ad B ra) (am_rf (L.getD q none)) := by
        show va_rf ((L.getD q none).map (am_ad B ra)) = _
        cases L.getD q none <;> rfl
      rw [e0]
      exact kk
    · cases h
  · -- arraylength
    rename_i g r
    have h1 : Nat.beq len 1 = true := hok
    obtain rfl := Nat.eq_of_beq_eq_true h1
    split at h
    · rename_i ty n f he
      refine am_same (hK _ _ _ _ _ _ _ _ _ h) fun p l e R s m args below meth c me' H locs LS cells slots Q hC hG hd hH hS hL kk => ?_
      obtain ⟨hme', hx, hb, hml, hown, hts, hr, hin, hlk⟩ := hC
      obtain rfl := am_me hme hme'
      have kk := kk LS hL
      rcases am_ints_of he with ⟨L, hl, -⟩ | ⟨hl, -, hX⟩
      · obtain ⟨cA, hA, hc⟩ := am_cellA hH hl
        exact W.alen (n := Int32.ofNat n) hx hb hc (hA.1 n _) (by rw [arrV_size]) rfl rfl hdec kk
      · obtain ⟨hge, hT⟩ := hG.2.1 g n f hX
        have kk' := va_tlen (ls := LS) hx hb hT hS rfl hdec kk
        rw [← am_ad_ge (B := B) (ra := ra) hge] at kk'
        exact kk'
    · split at h
      · rename_i n f hX
        split at h
        · refine am_same (hK _ _ _ _ _ _ _ _ _ h) fun p l e R s m args below meth c me' H locs LS cells slots Q hC hG hd hH hS hL kk => ?_
          obtain ⟨hme', hx, hb, hml, hown, hts, hr, hin, hlk⟩ := hC
          obtain rfl := am_me hme hme'
          have kk := kk LS hL
          obtain ⟨hge, hT⟩ := hG.2.2.1 g n f hX
          have kk' := va_tlen (ls := LS) hx hb hT hS rfl hdec kk
          rw [← am_ad_ge (B := B) (ra := ra) hge] at kk'
          exact kk'
        · cases h
      · cases h
  · cases h
/-- a static array -/
theorem am_t12 (hent : am_ent mid pc = some (12, i, len, imm, a, b, ew, sw)) (hn : am_WW X B ra D d mid (pc + len) ls (.ref a :: st) lay I J res) : am_WW X B ra D d mid pc ls st lay I J res := by
  obtain ⟨me, hme, hdec0, hok0⟩ := am_ok_of hent
  have hdec : decode me.2.1 pc = .ok (i, len) := hdec0
  have hok : am_okM me i len a ew = true := hok0
  refine am_same hn fun p l e R s m args below meth c me' H locs LS cells slots Q hC hG hd hH hS hL kk => ?_
  obtain ⟨hme', hx, hb, hml, hown, hts, hr, hin, hlk⟩ := hC
  obtain rfl := am_me hme hme'
  have kk := kk LS hL
  unfold am_okM at hok
  split at hok
  · obtain ⟨h1, h3⟩ := Bool.and_eq_true_iff.mp hok
    obtain ⟨h1, h2⟩ := Bool.and_eq_true_iff.mp h1
    obtain rfl := Nat.eq_of_beq_eq_true h1
    have h2 := Nat.le_of_ble_eq_true h2
    split at h3
    · rename_i q hq
      have hZ := hG.2.2.2.1 _ q hq
      rw [show 1001 + (a - 1001) = a by omega, ← am_ad_ge (B := B) (ra := ra) (h := a) (by omega)] at hZ
      rcases Bool.or_eq_true_iff.mp h3 with h4 | h4
      · exact va_gets hx hb hZ hS hown (hts _ (am_in h4)) (fun _ z => z) hdec kk
      · exact va_getsN hx hb hZ hS hown (hts _ (am_in h4)) (fun _ z => z) hdec kk
    · cases h3
  · cases hok
end
