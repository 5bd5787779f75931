theorem am_fv_int {ad : Nat → Nat} {I : am_I} {g b : Nat} {fs : List (Option Value)} {x : Int32} (hf : fs[b]? = some none) (j : Nat) : updV (am_fv ad (I g) fs) b (.int x) j = am_fv ad (am_up I g b x g) fs j := by
  unfold updV am_fv am_up
  by_cases e : j = b
  · subst e
    rw [if_pos rfl, hf]
    simp
  · rw [if_neg e]
    simp only [if_pos, if_neg e]
theorem am_fv_ref {ad : Nat → Nat} {i : Nat → Int32} {b q : Nat} {fs : List (Option Value)} (hf : b < fs.length) (j : Nat) : updV (am_fv ad i fs) b (.ref (ad q)) j = am_fv ad i (fs.set b (some (.ref q))) j := by
  unfold updV am_fv
  by_cases e : j = b
  · subst e
    rw [if_pos rfl, List.getElem?_set_self hf]
    rfl
  · rw [if_neg e, List.getElem?_set_ne (fun z => e z.symm)]
theorem am_up_ne {α : Type} {I : Nat → Nat → α} {h k g : Nat} {x : α} (e : g ≠ h) : am_up I h k x g = I g := by
  funext b
  unfold am_up
  rw [if_neg e]
theorem am_upV_i {ad : Nat → Nat} {I : am_I} {J : am_J} {g q : Nat} {x : Int32} {ty : FieldType} {L : List (Option Nat)} (ht : ty = .int ∨ ty = .byte ∨ ty = .boolean) : updV (am_ct ad I J g ty L) q (.int x) = am_ct ad (am_up I g q x) J g ty L := by
  funext j
  rcases ht with rfl | rfl | rfl
  all_goals (
    show (if j = q then Value.int x else Value.int (I g j)) = Value.int (am_up I g q x g j)
    unfold am_up
    rw [if_pos rfl]
    by_cases e : j = q
    · rw [if_pos e, if_pos e]
    · rw [if_neg e, if_neg e])
theorem am_upV_l {ad : Nat → Nat} {I : am_I} {J : am_J} {g q : Nat} {x : Int64} {L : List (Option Nat)} : updV (am_ct ad I J g .long L) q (.long x) = am_ct ad I (am_up J g q x) g .long L := by
  funext j
  show (if j = q then Value.long x else Value.long (J g j)) = Value.long (am_up J g q x g j)
  unfold am_up
  rw [if_pos rfl]
  by_cases e : j = q
  · rw [if_pos e, if_pos e]
  · rw [if_neg e, if_neg e]
theorem am_upV_r {ad : Nat → Nat} {I : am_I} {J : am_J} {g q v n : Nat} {C : String} {L : List (Option Nat)} (hq : q < n) (hL : L.length = n) : updV (am_ct ad I J g (.object C) L) q (.ref (ad v)) = am_ct ad I J g (.object C) (L.set q (some v)) := by
  funext j
  show (if j = q then Value.ref (ad v) else va_rf ((L.getD j none).map ad)) = va_rf (((L.set q (some v)).getD j none).map ad)
  by_cases e : j = q
  · subst e
    rw [if_pos rfl, List.getD_eq_getElem?_getD, List.getElem?_set_self (by omega)]
    rfl
  · rw [if_neg e, List.getD_eq_getElem?_getD, List.getD_eq_getElem?_getD, List.getElem?_set_ne (fun z => e z.symm)]
section
variable {X : am_X} {B : Nat} {ra : Nat → Nat} {D : va_G} {d mid pc pc' : Nat} {ls ls' : am_L} {st st' : List Value} {lay : List am_Lay} {I : am_I} {J : am_J} {res : am_R} {i : Instr} {len a b ew : Nat} {imm : Value} {sw : List (Int32 × Nat)} {K : am_K} {s : State} {H : Heap} {h n : Nat}
variable {p : Program} {l : Launch} {e : Env} {R : Room} {m : MethodId} {args : Array Value} {below : List Frame} {meth : Method} {c : Code} {me : am_ME} {locs : List Loc} {LS : Array Slot} {cells slots : Nat} {Q : State → Prop}
theorem am_putW (hC : am_C mid p s m args meth c me) (hG : am_G B ra D X s) (hH : am_H B ra D s lay I J H) (hS : va_S (fun q => B ≤ q) s.heap H locs) {g ci k : Nat} {fs : List (Option Value)} (hl : lay[g]? = some (.inr (ci, fs))) {rc : vw_C} (hrc : am_cl[ci]? = some rc) (hb : b < rc.2.2) (hlink : Jvm.Cond.fieldLink me.1.cls k (rc.2.1 b).1 (rc.2.1 b).2.1 (rc.2.1 b).2.2.1 ∈ am_tb)
    (hfin : (rc.2.1 b).2.2.2 = false ∨ (me.1.name = "<init>" ∧ (rc.2.1 b).1 = me.1.cls)) {ty : FieldType} (hty : parseFieldDescriptor (rc.2.1 b).2.2.1 = some ty) {v : Value} (hn : narrow ty v = v) (hfit : fits ty v = true) (hdec : decode me.2.1 pc = .ok (.putfield k, 3)) {rest : List Value}
    (kk : ∀ (H' : Heap) (L : List Loc), H'.size = H.size → (∀ q, q ≠ B + g → H'[q]? = H[q]?) → t_OB (B + g) (D.1 ci) rc.2.2 (D.2 ci) H' (updV (am_fv (am_ad B ra) (I g) fs) b v) → va_S (fun q => B ≤ q) s.heap H' (locs ++ L) → W p l e R s m args below meth c H' (locs ++ L) cells slots Q (F0 m (pc + 3) LS rest)) : W p l e R s m args below meth c H locs cells slots Q (F0 m pc LS (v :: .ref (am_ad B ra g) :: rest)) := by
  obtain ⟨hme', hx, hb0, hml, hown, hts, hr, hin, hlk⟩ := hC
  have had : am_ad B ra g = B + g := am_ad_lt (Nat.lt_of_lt_of_le (am_lt hl) hH.2.1)
  obtain ⟨rc', hrc', hfl, cell, q1, q2, q3, q4⟩ := am_cellO hH hl
  obtain rfl : rc' = rc := Option.some.inj (hrc'.symm.trans hrc)
  obtain ⟨hSl, hfc, kC, hkC, hkind⟩ := hG.1 ci _ hrc
  obtain ⟨cf, kf, fi, f, hi, hsl⟩ := hSl b hb
  have hcl := am_cls hrc
  have hap := va_apart (own := me.1.cls) (D := D) (cl := am_cl) (tys := []) hts hcl.1 (am_ty rc') hcl.2.1 hcl.2.2.1 ⟨hG.1, fun k q z => by simp at z⟩ hrc
  have hlay := hts _ (hcl.1 _ (u_in_lay hb))
  have hst := (u_facts hfc hkC (u_lays hts hcl.1 hb) hi).1
  unfold u_lay at hlay
  have fin : ∀ H' : Heap, H'[am_ad B ra g]? = some (cell.setSlot f.slot v) → H'.size = H.size → (∀ q, q ≠ am_ad B ra g → H'[q]? = H[q]?) → W p l e R s m args below meth c H' (locs ++ [⟨am_ad B ra g, f.slot⟩]) cells slots Q (F0 m (pc + 3) LS rest) := by
    intro H' e1 e2 e3
    rw [hsl] at e1
    refine kk H' _ e2 (fun q hq => e3 q (by rw [had]; exact hq)) ?_ (hS.put e2 e3 (by rw [had]; exact Nat.le_add_right _ _))
    rw [← had]
    exact ⟨_, e1, q2, q3, t_set q4 hap hb v⟩
  cases hf : (rc'.2.1 b).2.2.2 with
  | false =>
    rw [hf, if_neg (by decide)] at hlay
    have h6 := u_store hfc hkC hkind hlay hi hty hn hfit
    exact W.putK hx hb0 (f := f) ⟨hown, hts _ hlink, ⟨_, _, _, hi⟩, hst⟩ (by rw [q2]; exact h6) q1 q3 (by rw [hsl]; exact k2_hasslot (q4 b hb)) rfl rfl hdec fin
  | true =>
    rw [if_pos hf] at hlay
    rcases hfin with z | ⟨hi1, hi2⟩
    · rw [hf] at z
      cases z
    · have hcf : m.cls = cf := by
        obtain ⟨_, _, c', _, _, _, -, -, hf', -, -, -, hown2, -⟩ := Cond.laysFinal_spec hlay
        have e1 : c' = cf := by have := hi.symm.trans hf'; simp at this; exact this.1.symm
        rw [hi2] at hown2
        rw [← e1]; exact Option.some.inj (hown.symm.trans hown2)
      have h6 := u_fits hfc hkC hkind (Or.inr hlay) hi hty hn hfit
      exact W.putFinK hx hb0 hown (hts _ hlink) hi hst hcf (hin hi1) (by rw [q2]; exact h6) q1 q3 (by rw [hsl]; exact k2_hasslot (q4 b hb)) rfl rfl hdec fin
theorem am_okG_put {k : Nat} (h : am_okG me (.putfield k) len a b ew imm = true) : len = 3 ∧ ∃ r, am_cl[a]? = some r ∧ b < r.2.2 ∧ Jvm.Cond.fieldLink me.1.cls k (r.2.1 b).1 (r.2.1 b).2.1 (r.2.1 b).2.2.1 ∈ am_tb ∧ ((r.2.1 b).2.2.2 = false ∨ (me.1.name = "<init>" ∧ (r.2.1 b).1 = me.1.cls)) ∧ (parseFieldDescriptor (r.2.1 b).2.2.1 = some .boolean → Value.isDefault imm = false) := by
  unfold am_okG at h
  obtain ⟨h1, h3⟩ := Bool.and_eq_true_iff.mp h
  obtain ⟨h1, h2⟩ := Bool.and_eq_true_iff.mp h1
  obtain ⟨r, hr, hb, hl⟩ := am_lnk_of h2
  rw [hr] at h3
  obtain ⟨h4, h5⟩ := Bool.and_eq_true_iff.mp h3
  refine ⟨Nat.eq_of_beq_eq_true h1, r, hr, hb, hl, ?_, fun hz => ?_⟩
  · rcases Bool.or_eq_true_iff.mp h4 with h6 | h6
    · exact Or.inl (by simpa using h6)
    · obtain ⟨h7, h8⟩ := Bool.and_eq_true_iff.mp h6
      exact Or.inr ⟨of_decide_eq_true h7, of_decide_eq_true h8⟩
  · rw [hz] at h5
    simpa using h5
/-- a row of an array of ints (of bytes, of booleans) is set -/
theorem am_arrI {ty : FieldType} {L : List (Option Nat)} (ht : ty = .int ∨ ty = .byte ∨ ty = .boolean) (hH : am_H B ra D s lay I J H) (hl : lay[h]? = some (.inl (ty, n, L))) {cA : ClassId} (hA : ArrOfT s cA ty ∧ va_RA s cA ty) {q : Nat} {x : Int32} {H' : Heap} (e1 : H'[am_ad B ra h]? = some ((arrV cA n (am_ct (am_ad B ra) I J h ty L)).setSlot q (.int x))) (e2 : H'.size = H.size) (e3 : ∀ q, q ≠ am_ad B ra h → H'[q]? = H[q]?) : am_H B ra D s lay (am_up I h q x) J H' := by
  have had : am_ad B ra h = B + h := am_ad_lt (Nat.lt_of_lt_of_le (am_lt hl) hH.2.1)
  refine am_H_upd hH (am_lt hl) e2 (fun z hz => e3 z (by rw [had]; exact hz)) (fun g hg => am_up_ne hg) (fun _ _ => rfl) rfl (fun _ _ => rfl) (fun l' hl' => ?_)
  rw [hl] at hl'
  cases hl'
  refine ⟨cA, hA, ?_⟩
  rw [← had, e1, arrV_store, am_upV_i ht]
theorem am_t6 (hK : ∀ (d mid pc : Nat) (ls : am_L) (st : List Value) (lay : List am_Lay) (I : am_I) (J : am_J) (res : am_R), K d mid pc ls st lay I J = some res → am_WW X B ra D d mid pc ls st lay I J res) (hent : am_ent mid pc = some (6, i, len, imm, a, b, ew, sw)) (h : am_hw K d mid pc ls st lay I J i len a b imm = some res) : am_WW X B ra D d mid pc ls st lay I J res := by
  obtain ⟨me, hme, hdec0, hok0⟩ := am_ok_of hent
  have hdec : decode me.2.1 pc = .ok (i, len) := hdec0
  have hok : am_okG me i len a b ew imm = true := hok0
  clear hdec0 hok0
  unfold am_hw at h
  split at h
  · -- putfield, an int
    rename_i k x g r
    obtain ⟨rfl, rc, hrc, hbN, hlink, hfin, hbl⟩ := am_okG_put hok
    split at h
    · rename_i ci fs hl
      split at h
      · rename_i hfs
        obtain ⟨hc0, h3⟩ := am_bif h
        obtain ⟨hca, hx01⟩ := Bool.and_eq_true_iff.mp hc0
        obtain rfl := Nat.eq_of_beq_eq_true hca
        have hn := hK _ _ _ _ _ _ _ _ _ h3
        refine ⟨hn.1, hn.2.1, fun p l e R s m args below meth c me' H locs LS cells slots mc ms Q hC hG hd hr hH hS hL hE => ?_⟩
        obtain rfl := am_me hme hC.1
        obtain ⟨rc', hrc', hfl, -⟩ := am_cellO hH hl
        obtain rfl : rc' = rc := Option.some.inj (hrc'.symm.trans hrc)
        have hty := (hfl.2 b).1 hfs
        have hnf : ∃ ty, parseFieldDescriptor (rc'.2.1 b).2.2.1 = some ty ∧ narrow ty (.int x) = .int x ∧ fits ty (.int x) = true := by
          rcases hty with z | z
          · exact ⟨_, z, vp_nar_int x, rfl⟩
          · have h4 := hbl z
            rw [h4] at hx01
            have h5 : x = 0 ∨ x = 1 := by simpa using hx01
            rcases h5 with rfl | rfl
            · exact ⟨_, z, narrow_b0, rfl⟩
            · exact ⟨_, z, narrow_b1, rfl⟩
        obtain ⟨ty, h1, h2, h4⟩ := hnf
        refine am_putW hC hG hH hS hl hrc hbN hlink hfin h1 h2 h4 hdec fun H' L e2 e3 e4 hS' => ?_
        refine hn.2.2 p l e R s m args below meth c _ H' _ LS cells slots mc ms Q hC hG hd hr ?_ hS' hL hE
        refine am_H_upd hH (am_lt hl) e2 e3 (fun g' hg => am_up_ne hg) (fun _ _ => rfl) rfl (fun _ _ => rfl) (fun l' hl' => ?_)
        rw [hl] at hl'
        cases hl'
        exact ⟨_, hrc, hfl, e4.to (fun j _ => am_fv_int hfs j)⟩
      · cases h
    · cases h
  · -- putfield, a reference
    rename_i k q g r
    obtain ⟨rfl, rc, hrc, hbN, hlink, hfin, hbl⟩ := am_okG_put hok
    split at h
    · rename_i ci fs hl
      split at h
      · rename_i v0 hfs
        obtain ⟨hca, h3⟩ := am_bif h
        obtain rfl := Nat.eq_of_beq_eq_true hca
        have hn := hK _ _ _ _ _ _ _ _ _ h3
        have hz := am_sz_set lay g _ (.inr (ci, fs.set b (some (.ref q)))) hl (by show (fs.set b (some (.ref q))).length = fs.length; rw [List.length_set])
        refine ⟨by have := hn.1; rwa [List.length_set] at this, by have := hn.2.1; rwa [hz] at this, fun p l e R s m args below meth c me' H locs LS cells slots mc ms Q hC hG hd hr hH hS hL hE => ?_⟩
        obtain rfl := am_me hme hC.1
        obtain ⟨rc', hrc', hfl, -⟩ := am_cellO hH hl
        obtain rfl : rc' = rc := Option.some.inj (hrc'.symm.trans hrc)
        have hty := (hfl.2 b).2 _ hfs
        have hnf : ∃ ty, parseFieldDescriptor (rc'.2.1 b).2.2.1 = some ty ∧ narrow ty (.ref (am_ad B ra q)) = .ref (am_ad B ra q) ∧ fits ty (.ref (am_ad B ra q)) = true := by
          rcases hty with ⟨C, z⟩ | ⟨t, z⟩
          · exact ⟨_, z, rfl, rfl⟩
          · exact ⟨_, z, rfl, rfl⟩
        obtain ⟨ty, h1, h2, h4⟩ := hnf
        refine am_putW hC hG hH hS hl hrc hbN hlink hfin h1 h2 h4 hdec fun H' L e2 e3 e4 hS' => ?_
        refine hn.2.2 p l e R s m args below meth c _ H' _ LS cells slots mc ms Q hC hG hd (by rw [hz, List.length_set]; exact hr) ?_ hS' hL hE
        refine am_H_upd hH (am_lt hl) e2 e3 (fun _ _ => rfl) (fun _ _ => rfl) (List.length_set ..) (fun g' hg => List.getElem?_set_ne (fun z => hg z.symm)) (fun l' hl' => ?_)
        rw [List.getElem?_set_self (am_lt hl)] at hl'
        cases hl'
        refine ⟨_, hrc, ⟨by rw [List.length_set]; exact hfl.1, fun k' => ?_⟩, e4.to (fun j _ => am_fv_ref (by rw [hfl.1]; exact hbN) j)⟩
        by_cases hk : k' = b
        · subst hk
          rw [List.getElem?_set_self (by rw [hfl.1]; exact hbN)]
          exact ⟨fun z => (by cases z), fun _ _ => hty⟩
        · rw [List.getElem?_set_ne (fun z => hk z.symm)]
          exact hfl.2 k'
      · cases h
    · cases h
  · -- iastore
    rename_i x j g r
    have h1 : Nat.beq len 1 = true := hok
    obtain rfl := Nat.eq_of_beq_eq_true h1
    split at h
    · rename_i n L hl
      obtain ⟨q, hq, h3⟩ := Option.bind_eq_some_iff.mp h
      have hn := hK _ _ _ _ _ _ _ _ _ h3
      refine ⟨hn.1, hn.2.1, fun p l e R s m args below meth c me' H locs LS cells slots mc ms Q hC hG hd hr hH hS hL hE => ?_⟩
      obtain rfl := am_me hme hC.1
      obtain ⟨cA, hA, hc⟩ := am_cellA hH hl
      have hi := am_inN (cA := cA) (f := am_ct (am_ad B ra) I J g .int L) hq
      obtain ⟨-, hqe⟩ := am_ix_of hq
      refine W.iast hC.2.1 hC.2.2.1 hc (hA.1 n _) (fun z => by cases z) hi.1 rfl rfl hdec fun H' e1 e2 e3 => ?_
      rw [hqe] at e1 ⊢
      exact hn.2.2 p l e R s m args below meth c _ H' _ LS cells slots mc ms Q hC hG hd hr (am_arrI (Or.inl rfl) hH hl hA e1 e2 e3) (hS.put e2 e3 (by rw [am_ad_lt (Nat.lt_of_lt_of_le (am_lt hl) hH.2.1)]; exact Nat.le_add_right _ _)) hL hE
    · cases h
  · -- bastore
    rename_i x j g r
    have h1 : Nat.beq len 1 = true := hok
    obtain rfl := Nat.eq_of_beq_eq_true h1
    split at h
    · rename_i n L hl
      obtain ⟨q, hq, h3⟩ := Option.bind_eq_some_iff.mp h
      have hn := hK _ _ _ _ _ _ _ _ _ h3
      refine ⟨hn.1, hn.2.1, fun p l e R s m args below meth c me' H locs LS cells slots mc ms Q hC hG hd hr hH hS hL hE => ?_⟩
      obtain rfl := am_me hme hC.1
      obtain ⟨cA, hA, hc⟩ := am_cellA hH hl
      have hi := am_inN (cA := cA) (f := am_ct (am_ad B ra) I J g .byte L) hq
      obtain ⟨-, hqe⟩ := am_ix_of hq
      refine W.bast hC.2.1 hC.2.2.1 hc (hA.1 n _) (fun z => by cases z) hi.1 rfl rfl hdec fun H' e1 e2 e3 => ?_
      rw [hqe] at e1 ⊢
      exact hn.2.2 p l e R s m args below meth c _ H' _ LS cells slots mc ms Q hC hG hd hr (am_arrI (Or.inr (Or.inl rfl)) hH hl hA e1 e2 e3) (hS.put e2 e3 (by rw [am_ad_lt (Nat.lt_of_lt_of_le (am_lt hl) hH.2.1)]; exact Nat.le_add_right _ _)) hL hE
    · rename_i n L hl
      obtain ⟨q, hq, h3⟩ := Option.bind_eq_some_iff.mp h
      have hn := hK _ _ _ _ _ _ _ _ _ h3
      refine ⟨hn.1, hn.2.1, fun p l e R s m args below meth c me' H locs LS cells slots mc ms Q hC hG hd hr hH hS hL hE => ?_⟩
      obtain rfl := am_me hme hC.1
      obtain ⟨cA, hA, hc⟩ := am_cellA hH hl
      have hi := am_inN (cA := cA) (f := am_ct (am_ad B ra) I J g .boolean L) hq
      obtain ⟨-, hqe⟩ := am_ix_of hq
      refine W.zast hC.2.1 hC.2.2.1 hc (hA.1 n _) (fun z => by cases z) hi.1 rfl rfl hdec fun H' e1 e2 e3 => ?_
      rw [hqe] at e1 ⊢
      exact hn.2.2 p l e R s m args below meth c _ H' _ LS cells slots mc ms Q hC hG hd hr (am_arrI (Or.inr (Or.inr rfl)) hH hl hA e1 e2 e3) (hS.put e2 e3 (by rw [am_ad_lt (Nat.lt_of_lt_of_le (am_lt hl) hH.2.1)]; exact Nat.le_add_right _ _)) hL hE
    · cases h
  · -- lastore
    rename_i x j g r
    have h1 : Nat.beq len 1 = true := hok
    obtain rfl := Nat.eq_of_beq_eq_true h1
    split at h
    · rename_i n L hl
      obtain ⟨q, hq, h3⟩ := Option.bind_eq_some_iff.mp h
      have hn := hK _ _ _ _ _ _ _ _ _ h3
      refine ⟨hn.1, hn.2.1, fun p l e R s m args below meth c me' H locs LS cells slots mc ms Q hC hG hd hr hH hS hL hE => ?_⟩
      obtain rfl := am_me hme hC.1
      obtain ⟨cA, hA, hc⟩ := am_cellA hH hl
      have had : am_ad B ra g = B + g := am_ad_lt (Nat.lt_of_lt_of_le (am_lt hl) hH.2.1)
      have hi := am_inN (cA := cA) (f := am_ct (am_ad B ra) I J g .long L) hq
      obtain ⟨-, hqe⟩ := am_ix_of hq
      refine W.last hC.2.1 hC.2.2.1 hc (hA.1 n _) (fun z => by cases z) hi.1 rfl rfl hdec fun H' e1 e2 e3 => ?_
      rw [hqe] at e1 ⊢
      refine hn.2.2 p l e R s m args below meth c _ H' _ LS cells slots mc ms Q hC hG hd hr ?_ (hS.put e2 e3 (by rw [had]; exact Nat.le_add_right _ _)) hL hE
      refine am_H_upd hH (am_lt hl) e2 (fun z hz => e3 z (by rw [had]; exact hz)) (fun _ _ => rfl) (fun g' hg => am_up_ne hg) rfl (fun _ _ => rfl) (fun l' hl' => ?_)
      rw [hl] at hl'
      cases hl'
      refine ⟨cA, hA, ?_⟩
      rw [← had, e1, arrV_store, am_upV_l]
    · cases h
  · -- aastore
    rename_i v j g r
    have h1 : Nat.beq len 1 = true := hok
    obtain rfl := Nat.eq_of_beq_eq_true h1
    split at h
    · rename_i C n L hl
      split at h
      · rename_i ci fs hlv
        split at h
        · rename_i rc hrc
          obtain ⟨hcC0, h2⟩ := am_bif h
          obtain ⟨hcC, hLn⟩ := Bool.and_eq_true_iff.mp hcC0
          have hLn := Nat.eq_of_beq_eq_true hLn
          obtain ⟨q, hq, h3⟩ := Option.bind_eq_some_iff.mp h2
          have hcC := of_decide_eq_true hcC
          obtain ⟨hvp, hqe⟩ := am_ix_of hq
          have hn := hK _ _ _ _ _ _ _ _ _ h3
          have hz := am_sz_set lay g _ (.inl (.object C, n, L.set q (some v))) hl rfl
          refine ⟨by have := hn.1; rwa [List.length_set] at this, by have := hn.2.1; rwa [hz] at this, fun p l e R s m args below meth c me' H locs LS cells slots mc ms Q hC hG hd hr hH hS hL hE => ?_⟩
          obtain rfl := am_me hme hC.1
          obtain ⟨cA, hA, hc⟩ := am_cellA hH hl
          have had : am_ad B ra g = B + g := am_ad_lt (Nat.lt_of_lt_of_le (am_lt hl) hH.2.1)
          have hi := am_inN (cA := cA) (f := am_ct (am_ad B ra) I J g (.object C) L) hq
          obtain ⟨rc', hrc', hfl, cellV, g1, g2, g3, -⟩ := am_cellO hH hlv
          have hcls := (hG.1 ci rc hrc).2
          obtain ⟨kA, comp, k1, k2, k3, -⟩ := hA.2
          rw [hcC] at hcls
          have hcomp : comp = D.1 ci := Option.some.inj (k3.symm.trans hcls.1)
          subst hcomp
          obtain ⟨kC, hkC, -⟩ := hcls.2
          have hlt : j.toNatClampNeg < n := Nat.not_le.mp fun z => hvp (Or.inr z)
          refine W.aast hC.2.1 hC.2.2.1 hc (fun q z => by cases z) (fun z => by cases z) k1 k2 rfl hkC ⟨fun z => hvp (Or.inl z), by rw [arrV_size]; exact hlt⟩ g1 (fun q z => by rw [g3] at z; cases z) (by rw [g2]; exact hkC) (by rw [g2]; exact va_assign hcls) rfl rfl hdec fun H' e1 e2 e3 => ?_
          rw [hqe] at e1 ⊢
          refine hn.2.2 p l e R s m args below meth c _ H' _ LS cells slots mc ms Q hC hG hd (by rw [hz, List.length_set]; exact hr) ?_ (hS.put e2 e3 (by rw [had]; exact Nat.le_add_right _ _)) hL hE
          refine am_H_upd hH (am_lt hl) e2 (fun z hz => e3 z (by rw [had]; exact hz)) (fun _ _ => rfl) (fun _ _ => rfl) (List.length_set ..) (fun g' hg => List.getElem?_set_ne (fun z => hg z.symm)) (fun l' hl' => ?_)
          rw [List.getElem?_set_self (am_lt hl)] at hl'
          cases hl'
          refine ⟨cA, hA, ?_⟩
          have hu := am_upV_r (ad := am_ad B ra) (I := I) (J := J) (g := g) (q := q) (v := v) (n := n) (C := C) (L := L) (by rw [← hqe]; exact hlt) hLn
          rw [← had, e1, arrV_store, hu]
        · cases h
      · cases h
    · cases h
  · cases h
end
