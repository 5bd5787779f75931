set_option maxRecDepth 100000
section
variable {X : am_X} {B : Nat} {ra : Nat → Nat} {D : va_G} {d mid pc pc' : Nat} {ls ls' : am_L} {st st' : List Value} {lay : List am_Lay} {I : am_I} {J : am_J} {res : am_R} {i : Instr} {len a b ew : Nat} {imm : Value} {sw : List (Int32 × Nat)} {K : am_K} {s : State} {H : Heap} {h n : Nat}
theorem am_bok_of {ds : String} (hb : am_bok ds = true) : (am_bf ds = none ∧ (parseFieldDescriptor ds = some .int ∨ parseFieldDescriptor ds = some .boolean)) ∨ (am_bf ds = some Value.null ∧ ((∃ C, parseFieldDescriptor ds = some (.object C)) ∨ ∃ t, parseFieldDescriptor ds = some (.array t))) := by
  unfold am_bok at hb
  unfold am_bf
  split at hb
  · rename_i e
    rw [e]
    exact Or.inl ⟨rfl, Or.inl (of_decide_eq_true hb)⟩
  · rename_i e
    rw [e]
    exact Or.inl ⟨rfl, Or.inr (of_decide_eq_true hb)⟩
  · rename_i h1 h2
    refine Or.inr ⟨?_, ?_⟩
    · split
      · rename_i e
        exact absurd e (h1 _)
      · rename_i e
        exact absurd e (h2 _)
      · rfl
    · split at hb
      · rename_i C e
        exact Or.inl ⟨C, e⟩
      · rename_i t e
        exact Or.inr ⟨t, e⟩
      · cases hb
theorem am_born_of {fs : List (Option Value)} (hb : am_born a = some fs) : ∃ rc, am_cl[a]? = some rc ∧ (fs.length = rc.2.2 ∧ am_fok rc fs) ∧ ∀ (ad : Nat → Nat) (i : Nat → Int32), (∀ k, i k = 0) → ∀ k, k < rc.2.2 → defaultValue (am_ty rc k) = am_fv ad i fs k := by
  unfold am_born at hb
  obtain ⟨rc, hrc, rfl⟩ := Option.map_eq_some_iff.mp hb
  have hcl := am_cls hrc
  have hget : ∀ k, k < rc.2.2 → ((List.range rc.2.2).map fun k => am_bf (rc.2.1 k).2.2.1)[k]? = some (am_bf (rc.2.1 k).2.2.1) := by
    intro k hk
    rw [List.getElem?_map, List.getElem?_range hk]
    rfl
  have hlen : ((List.range rc.2.2).map fun k => am_bf (rc.2.1 k).2.2.1).length = rc.2.2 := by rw [List.length_map, List.length_range]
  have hnone : ∀ k x, ((List.range rc.2.2).map fun k => am_bf (rc.2.1 k).2.2.1)[k]? = some x → k < rc.2.2 := by
    intro k x hx
    have := (List.getElem?_eq_some_iff.mp hx).1
    rwa [hlen] at this
  refine ⟨rc, hrc, ⟨hlen, fun k => ⟨fun hk => ?_, fun v hk => ?_⟩⟩, fun ad i hi k hk => ?_⟩
  · have hlt := hnone k _ hk
    rw [hget k hlt] at hk
    rcases am_bok_of (hcl.2.2.2.2.2 k hlt) with ⟨e1, e2⟩ | ⟨e1, e2⟩
    · exact e2
    · rw [e1] at hk
      cases hk
  · have hlt := hnone k _ hk
    rw [hget k hlt] at hk
    rcases am_bok_of (hcl.2.2.2.2.2 k hlt) with ⟨e1, e2⟩ | ⟨e1, e2⟩
    · rw [e1] at hk
      cases hk
    · exact e2
  · have h1 := hcl.2.1 k hk
    unfold am_fv
    rw [hget k hk]
    rcases am_bok_of (hcl.2.2.2.2.2 k hk) with ⟨e1, e2⟩ | ⟨e1, e2⟩
    · rw [e1]
      show defaultValue (am_ty rc k) = .int (i k)
      rw [hi k]
      rcases e2 with e2 | e2
      · rw [h1] at e2
        rw [Option.some.inj e2]
        rfl
      · rw [h1] at e2
        rw [Option.some.inj e2]
        rfl
    · rw [e1]
      show defaultValue (am_ty rc k) = .null
      rcases e2 with ⟨C, e2⟩ | ⟨t, e2⟩
      · rw [h1] at e2
        rw [Option.some.inj e2]
        rfl
      · rw [h1] at e2
        rw [Option.some.inj e2]
        rfl
theorem am_t7 (hK : ∀ (d mid pc : Nat) (ls : am_L) (st : List Value) (lay : List am_Lay) (I : am_I) (J : am_J) (res : am_R), K d mid pc ls st lay I J = some res → am_WW X B ra D d mid pc ls st lay I J res) (hent : am_ent mid pc = some (7, i, len, imm, a, b, ew, sw)) (h : am_al K d mid pc ls st lay I J i len a = some res) : am_WW X B ra D d mid pc ls st lay I J res := by
  obtain ⟨me, hme, hdec0, hok0⟩ := am_ok_of hent
  have hdec : decode me.2.1 pc = .ok (i, len) := hdec0
  have hok : am_okH me i len a ew = true := hok0
  clear hdec0 hok0
  unfold am_al at h
  have hlt : lay.length < 1000 := Nat.le_of_ble_eq_true (am_bif h).1
  replace h := (am_bif h).2
  split at h
  · -- new
    rename_i k st
    obtain ⟨fs, hfs, h3⟩ := Option.bind_eq_some_iff.mp h
    obtain ⟨rc, hrc, hfl, hdv⟩ := am_born_of hfs
    unfold am_okH at hok
    obtain ⟨h1, h2⟩ := Bool.and_eq_true_iff.mp hok
    obtain rfl := Nat.eq_of_beq_eq_true h1
    rw [hrc] at h2
    have hn := hK _ _ _ _ _ _ _ _ _ h3
    have hz := am_sz_new lay (.inr (a, fs))
    have hz2 : am_lsz (.inr (a, fs)) = rc.2.2 := hfl.1
    have hl1 : (lay ++ [(.inr (a, fs) : am_Lay)]).length = lay.length + 1 := by simp
    have m1 := hn.1
    have m2 := hn.2.1
    rw [hl1] at m1
    rw [hz, hz2] at m2
    refine ⟨by omega, by omega, fun p l e R s m args below meth c me' H locs LS cells slots mc ms Q hC hG hd hr hH hS hL hE => ?_⟩
    obtain rfl := am_me hme hC.1
    obtain ⟨hme', hx, hb0, hml, hown, hts, hr0, hin, hlk⟩ := id hC
    have hcl := am_cls hrc
    have hKn := hG.1 a _ hrc
    obtain ⟨r1, r2, r3, r4⟩ := hr
    refine W.newcK hx hb0 hown (hts _ (am_in h2)) (hts _ hcl.2.2.2.1) (hts _ hcl.2.2.2.2.1) rfl hdec (by omega) (by omega) hKn.2.1 hH.1 fun H' kC hkC e1 z1 o1 => ?_
    rw [← am_ad_lt (B := B) (ra := ra) hlt] 
    refine hn.2.2 p l e R s m args below meth c _ H' locs LS (cells + 1) (slots + rc.2.2) mc ms Q hC hG hd ⟨by rw [hl1]; omega, by rw [hz, hz2]; omega, r3, r4⟩ ?_ ?_ hL hE
    · refine am_H_new hH hlt (by rw [z1, hH.1]) (fun q hq => o1 q (by rw [← hH.1]; exact hq)) ?_
      exact ⟨rc, hrc, hfl, (u_born (am_ty rc) hts hcl.1 hKn hkC e1 hcl.2.1).to (fun k' hk' => hdv (am_ad B ra) (I lay.length) (fun k' => (hH.2.2.2 lay.length k' (Nat.le_refl _)).1) k' hk')⟩
    · exact ⟨by rw [z1]; have := hS.1; rw [hH.1] at this; omega, fun q q1 q2 => by rw [o1 q (by have := hG.2.2.2.2.1; omega)]; exact hS.2.1 q q1 q2, hS.2.2⟩
  · -- newarray
    rename_i ty x r
    obtain ⟨hc0, h3⟩ := am_bif h
    obtain ⟨hn0, hc1⟩ := Bool.and_eq_true_iff.mp hc0
    obtain ⟨hN, hty0⟩ := Bool.and_eq_true_iff.mp hc1
    have hn0 := of_decide_eq_true hn0
    have hN := Nat.le_of_ble_eq_true hN
    obtain ⟨h1, h2⟩ := Bool.and_eq_true_iff.mp hok
    obtain rfl := Nat.eq_of_beq_eq_true h1
    have hn := hK _ _ _ _ _ _ _ _ _ h3
    have hz := am_sz_new lay (.inl (newarray.typeOf ty, x.toNatClampNeg, []))
    have hz2 : am_lsz (.inl (newarray.typeOf ty, x.toNatClampNeg, [])) = x.toNatClampNeg := rfl
    have hl1 : (lay ++ [(.inl (newarray.typeOf ty, x.toNatClampNeg, []) : am_Lay)]).length = lay.length + 1 := by simp
    have m1 := hn.1
    have m2 := hn.2.1
    rw [hl1] at m1
    rw [hz, hz2] at m2
    refine ⟨by omega, by omega, fun p l e R s m args below meth c me' H locs LS cells slots mc ms Q hC hG hd hr hH hS hL hE => ?_⟩
    obtain rfl := am_me hme hC.1
    obtain ⟨hme', hx, hb0, hml, hown, hts, hr0, hin, hlk⟩ := id hC
    obtain ⟨r1, r2, r3, r4⟩ := hr
    have hcb : componentBytes (newarray.typeOf ty) ≤ 8 := by cases ty <;> decide
    refine va_newaK hx hb0 (hts _ (am_in h2)) rfl hdec rfl hn0 rfl (Nat.le_trans (Nat.mul_le_mul hN hcb) (by decide)) (by omega) (by omega) hH.1 fun H' cA e1 z1 o1 hAr hNm => ?_
    rw [← am_ad_lt (B := B) (ra := ra) hlt]
    refine hn.2.2 p l e R s m args below meth c _ H' locs LS (cells + 1) (slots + x.toNatClampNeg) mc ms Q hC hG hd ⟨by rw [hl1]; omega, by rw [hz, hz2]; omega, r3, r4⟩ ?_ ?_ hL hE
    · refine am_H_new hH hlt (by rw [z1, hH.1]) (fun q hq => o1 q (by rw [← hH.1]; exact hq)) ?_
      refine ⟨cA, ⟨hAr, by cases ty <;> exact hNm⟩, ?_⟩
      rw [e1]
      have hzero := hH.2.2.2 lay.length
      have hct : (fun _ => defaultValue (newarray.typeOf ty)) = am_ct (am_ad B ra) I J lay.length (newarray.typeOf ty) [] := by
        funext q
        have hI := (hzero q (Nat.le_refl _)).1
        have hJ := (hzero q (Nat.le_refl _)).2
        cases ty with
        | int => show Value.int 0 = .int (I lay.length q); rw [hI]
        | byte => show Value.int 0 = .int (I lay.length q); rw [hI]
        | boolean => show Value.int 0 = .int (I lay.length q); rw [hI]
        | long => show Value.long 0 = .long (J lay.length q); rw [hJ]
        | _ => exact absurd hty0 (by decide)
      rw [hct]
    · exact ⟨by rw [z1]; have := hS.1; rw [hH.1] at this; omega, fun q q1 q2 => by rw [o1 q (by have := hG.2.2.2.2.1; omega)]; exact hS.2.1 q q1 q2, hS.2.2⟩
  · -- anewarray
    rename_i k x r
    obtain ⟨hc0, h3⟩ := am_bif h
    obtain ⟨hn0, hN⟩ := Bool.and_eq_true_iff.mp hc0
    have hn0 := of_decide_eq_true hn0
    have hN := Nat.le_of_ble_eq_true hN
    obtain ⟨h1, h2⟩ := Bool.and_eq_true_iff.mp hok
    obtain rfl := Nat.eq_of_beq_eq_true h1
    split at h3
    · rename_i rc hrc
      rw [hrc] at h2
      obtain ⟨h2, h4⟩ := Bool.and_eq_true_iff.mp h2
      have hn := hK _ _ _ _ _ _ _ _ _ h3
      have hz := am_sz_new lay (.inl (.object rc.1, x.toNatClampNeg, List.replicate x.toNatClampNeg none))
      have hz2 : am_lsz (.inl (.object rc.1, x.toNatClampNeg, List.replicate x.toNatClampNeg none)) = x.toNatClampNeg := rfl
      have hl1 : (lay ++ [(.inl (.object rc.1, x.toNatClampNeg, List.replicate x.toNatClampNeg none) : am_Lay)]).length = lay.length + 1 := by simp
      have m1 := hn.1
      have m2 := hn.2.1
      rw [hl1] at m1
      rw [hz, hz2] at m2
      refine ⟨by omega, by omega, fun p l e R s m args below meth c me' H locs LS cells slots mc ms Q hC hG hd hr hH hS hL hE => ?_⟩
      obtain rfl := am_me hme hC.1
      obtain ⟨hme', hx, hb0, hml, hown, hts, hr0, hin, hlk⟩ := id hC
      obtain ⟨r1, r2, r3, r4⟩ := hr
      refine W.anew hx hb0 hown (hts _ (am_in h2)) (hts _ (am_tbi (of_decide_eq_true h4))) rfl hdec rfl hn0 (Nat.le_trans (Nat.mul_le_mul_right 4 hN) (by decide)) (by omega) (by omega) fun cA kA comp f1 f2 f3 f4 => ?_
      generalize hH1 : H.push ({ cls := cA, slots := Array.replicate x.toNatClampNeg .null, vm := .none } : Cell) = H1
      have z1 : H1.size = H.size + 1 := by rw [← hH1, Array.size_push]
      have e1 : H1[H.size]? = some (arrV cA x.toNatClampNeg (fun _ => .null)) := by rw [← hH1, Array.getElem?_push_size, ← arrV_new]
      have o1 : ∀ q : Nat, q < H.size → H1[q]? = H[q]? := fun q hq => by rw [← hH1, Array.getElem?_push, if_neg (Nat.ne_of_lt hq)]
      have hAr : ArrOfT s cA (.object rc.1) := fun N z => ⟨(fun k h => by cases h), kA, f2, comp, f3⟩
      rw [hH.1, ← am_ad_lt (B := B) (ra := ra) hlt]
      refine hn.2.2 p l e R s m args below meth c _ H1 locs LS (cells + 1) (slots + x.toNatClampNeg) mc ms Q hC hG hd ⟨by rw [hl1]; omega, by rw [hz, hz2]; omega, r3, r4⟩ ?_ ?_ hL hE
      · refine am_H_new hH hlt z1 o1 ?_
        refine ⟨cA, ⟨hAr, kA, comp, f2, f3, f4, f1⟩, ?_⟩
        rw [← hH.1, e1]
        have hct : (fun _ => Value.null) = am_ct (am_ad B ra) I J lay.length (.object rc.1) (List.replicate x.toNatClampNeg none) := by
          funext q
          show Value.null = va_rf (((List.replicate x.toNatClampNeg (none : Option Nat)).getD q none).map (am_ad B ra))
          have : (List.replicate x.toNatClampNeg (none : Option Nat)).getD q none = none := by
            rw [List.getD_eq_getElem?_getD]
            cases hg : (List.replicate x.toNatClampNeg (none : Option Nat))[q]? with
            | none => rfl
            | some y => exact List.eq_of_mem_replicate (List.mem_of_getElem? hg)
          rw [this]
          rfl
        rw [hct]
      · exact ⟨by rw [z1]; have := hS.1; omega, fun q q1 q2 => by rw [o1 q (by have := hS.1; omega)]; exact hS.2.1 q q1 q2, hS.2.2⟩
    · cases h3
  · cases h
end
