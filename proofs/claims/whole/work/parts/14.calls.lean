set_option maxRecDepth 100000
def am_gt : List Jvm.Cond := lw_tbl.filter goodWord
theorem am_gt_tb {w : Jvm.Cond} (h : w ∈ am_gt) : w ∈ am_tb ∧ goodWord w = true := by
  obtain ⟨h1, h2⟩ := List.mem_filter.mp h
  refine ⟨am_tbi h1 ?_, h2⟩
  cases w <;> first | rfl | (cases h2; done)
theorem am_tb_of {s : State} {args : Array Value} (hg : ∀ w ∈ am_gt, w.before args s = true) (hN : am_Nst s) : ∀ w ∈ am_tb, w.before args s = true := by
  intro w hw
  obtain ⟨h1, h2⟩ := List.mem_filter.mp hw
  have h3 := List.all_eq_true.mp am_goodall w h1
  rw [h2] at h3
  simp only [Bool.not_true, Bool.or_false] at h3
  rcases Bool.or_eq_true_iff.mp h3 with h4 | h4
  · exact hg w (List.mem_filter.mpr ⟨h1, h4⟩)
  · exact am_Nst_use hN h1 h4
theorem am_goodIn {me : am_ME} (h : Jvm.Cond.code me.1 me.2.1 me.2.2.1 me.2.2.2 ∈ lw_tbl) : GoodIn am_tb (Jvm.Cond.code me.1 me.2.1 me.2.2.1 me.2.2.2 :: am_gt) := by
  intro w hw
  rcases List.mem_cons.mp hw with rfl | z
  · exact ⟨am_tbi h, good_of_word rfl⟩
  · exact ⟨(am_gt_tb z).1, good_of_word (am_gt_tb z).2⟩
section
variable {X : am_X} {B : Nat} {ra : Nat → Nat} {D : va_G} {d mid pc pc' : Nat} {ls ls' : am_L} {st st' : List Value} {lay : List am_Lay} {I : am_I} {J : am_J} {res : am_R} {i : Instr} {len a b ew : Nat} {imm : Value} {sw : List (Int32 × Nat)} {K : am_K}
theorem am_met (l : Launch) {me : am_ME} {vs : List Value} (hme : am_MT[mid]? = some me) (hmk : am_mok me = true) (hlen : (am_sl vs).length ≤ me.2.2.1) (hW : am_WW X B ra D d mid 0 (am_args me.2.2.1 vs) [] lay I J res) : Met l me.1 (Jvm.Cond.code me.1 me.2.1 me.2.2.1 me.2.2.2 :: am_gt) { frames := d, cells := res.2.1.length - lay.length, slots := am_sz res.2.1 - am_sz lay, locals := 40 * d } (fun v U => v = (vs.map (am_cv (am_ad B ra))).toArray ∧ am_G B ra D X U ∧ am_H B ra D U lay I J U.heap) (fun _ st o t => o = .returned (res.1.map (am_cv (am_ad B ra))) ∧ am_H B ra D t res.2.1 res.2.2.1 res.2.2.2 t.heap ∧ va_F (fun q => B ≤ q) st t) (res.2.1.length - lay.length) (am_sz res.2.1 - am_sz lay) (fun q => B ≤ q) := by
  refine Met.ofW (cc := me.2.1) (maxL := me.2.2.1) (ret := me.2.2.2) (Bool.and_eq_true_iff.mp hmk).1 rfl ?_
  intro p e s m args below meth c s₁ Bd hml hv
  obtain ⟨rfl, hG, hH⟩ := hv
  have hx := Bd.exec
  have hb := Bd.bytes
  have hr := Bd.returns
  have hts := atoms_spec (ws := Jvm.Cond.code me.1 me.2.1 me.2.2.1 me.2.2.2 :: am_gt) Bd.pre
  have hown : s.vm.findClass me.1.cls = some m.cls := findClass_of_methodNamed Bd.named
  have hlocks := Bd.notSynchronized
  have hin : meth.name = me.1.name := (name_of_methodNamed Bd.named Bd.method).1
  have hl := lv_entry (vs.map (am_cv (am_ad B ra))) (n := me.2.2.1) (by rw [am_sl_len]; exact hlen)
  rw [lg_entry_eq]
  generalize (lg_sl (vs.map (am_cv (am_ad B ra))) ++ List.replicate (me.2.2.1 - (lg_sl (vs.map (am_cv (am_ad B ra)))).length) Slot.unset).toArray = LS at hl ⊢
  have hl2 := am_args_has hl
  rw [← hml] at hl2
  refine hW.2.2 p l e _ s m _ below meth c me s.heap [] LS 0 0 (res.2.1.length - lay.length) (am_sz res.2.1 - am_sz lay) _ ⟨hme, hx, hb, hml, hown, am_tb_of (fun w hw => hts w (List.mem_cons_of_mem _ hw)) hG.2.2.2.2.2, hr, fun z => hin.trans z, hlocks⟩ hG ⟨Nat.le_refl _, Nat.le_refl _⟩ ⟨by have := hW.1; omega, by have := hW.2.1; omega, Nat.le_refl _, Nat.le_refl _⟩ hH va_S.rf (by rw [hml] at hl2; rw [hml]; exact hl2) ?_
  intro pc' LS' H' locs' hH' hS' hrt
  obtain ⟨rv, lay', I', J'⟩ := res
  match rv, hrt with
  | none, hrt => exact W.vret hx hb (by rw [hr]; exact hrt.2) (fun t ht hw => ⟨rfl, by rw [ht]; exact am_H_moved hw.alike hH', hS'.F ht⟩) hS'.2.2 hrt.1
  | some (.int v), hrt =>
    rcases hrt.2 with z | ⟨z, z1⟩
    · exact W.iret hx hb (by rw [hr]; exact z) (fun t ht hw => ⟨rfl, by rw [ht]; exact am_H_moved hw.alike hH', hS'.F ht⟩) hS'.2.2 hrt.1
    · exact W.zret hx hb (by rw [hr]; exact z) (by rcases z1 with rfl | rfl <;> rfl) (fun t ht hw => ⟨rfl, by rw [ht]; exact am_H_moved hw.alike hH', hS'.F ht⟩) hS'.2.2 hrt.1
  | some (.long v), hrt => exact W.lret hx hb (by rw [hr]; exact hrt.2) (fun t ht hw => ⟨rfl, by rw [ht]; exact am_H_moved hw.alike hH', hS'.F ht⟩) hS'.2.2 hrt.1
  | some (.ref v), hrt =>
    obtain ⟨C, z⟩ := hrt.2
    exact W.aret (v := .ref (am_ad B ra v)) hx hb (by rw [hr]; exact z) (Or.inl ⟨C, rfl⟩) (Or.inr ⟨_, rfl⟩) (fun t ht hw => ⟨rfl, by rw [ht]; exact am_H_moved hw.alike hH', hS'.F ht⟩) hS'.2.2 hrt.1
theorem am_tl (ad : Nat → Nat) (r : Option Value) (st : List Value) : (r.map (am_cv ad)).toList ++ st.map (am_cv ad) = (r.toList ++ st).map (am_cv ad) := by
  cases r <;> rfl
theorem am_vs_sum (ad : Nat → Nat) (st : List Value) : ((st.map (am_cv ad)).map fun v => v.category).sum = am_vsum st := by
  unfold am_vsum
  rw [List.map_map]
  congr 2
  funext v
  exact am_cv_cat ad v
theorem am_stk (ad : Nat → Nat) (t : Nat) (st : List Value) : st.map (am_cv ad) = (((st.take t).reverse).map (am_cv ad)).reverse ++ (st.drop t).map (am_cv ad) := by
  rw [List.map_reverse, List.reverse_reverse, ← List.map_append, List.take_append_drop]
theorem am_rok_of {k g : Nat} {y : MethodName} {As : List Value} (h : am_rok (.invokevirtual k) y lay (.ref g :: As) = true) : ∃ ci fs rc, lay[g]? = some (.inr (ci, fs)) ∧ am_cl[ci]? = some rc ∧ rc.1 = y.cls := by
  unfold am_rok at h
  dsimp only at h
  split at h
  · rename_i ci fs hl
    split at h
    · rename_i rc hrc
      exact ⟨ci, fs, rc, hl, hrc, of_decide_eq_true h⟩
    · cases h
  · cases h
theorem am_t8 (hK : ∀ (d mid pc : Nat) (ls : am_L) (st : List Value) (lay : List am_Lay) (I : am_I) (J : am_J) (res : am_R), K d mid pc ls st lay I J = some res → am_WW X B ra D d mid pc ls st lay I J res) (hent : am_ent mid pc = some (8, i, len, imm, a, b, ew, sw)) (h : am_call K d mid pc ls st lay I J i a b = some res) : am_WW X B ra D d mid pc ls st lay I J res := by
  obtain ⟨me, hme, hdec0, hok0⟩ := am_ok_of hent
  have hdec : decode me.2.1 pc = .ok (i, len) := hdec0
  have hok : am_okI me i len a b ew = true := hok0
  clear hdec0 hok0
  unfold am_call at h
  split at h
  · rename_i d' me' hme2
    obtain ⟨hc0, h1⟩ := am_bif h
    obtain ⟨ha0, hc1⟩ := Bool.and_eq_true_iff.mp hc0
    obtain ⟨ht0, hc2⟩ := Bool.and_eq_true_iff.mp hc1
    obtain ⟨hs0, hc3⟩ := Bool.and_eq_true_iff.mp hc2
    obtain ⟨hl0, hrok⟩ := Bool.and_eq_true_iff.mp hc3
    have ht0 := Nat.le_of_ble_eq_true ht0
    have hs0 := Nat.le_of_ble_eq_true hs0
    have hl0 := Nat.le_of_ble_eq_true hl0
    clear hc0 hc1 hc2 hc3 h
    obtain ⟨q, hq, h2⟩ := Option.bind_eq_some_iff.mp h1
    have hcal := hK _ _ _ _ _ _ _ _ _ hq
    have hn := hK _ _ _ _ _ _ _ _ _ h2
    clear hq h2 h1
    have hmk := am_mok_of hme2 ha0
    obtain ⟨hpl, hm1⟩ := Bool.and_eq_true_iff.mp hmk
    have hcd := am_cdall a hme2 ha0
    obtain ⟨hini, hm3⟩ := Bool.and_eq_true_iff.mp hm1
    obtain ⟨hmh, hm4⟩ := Bool.and_eq_true_iff.mp hm3
    obtain ⟨hvh, hmx⟩ := Bool.and_eq_true_iff.mp hm4
    have hini := am_tbi (of_decide_eq_true hini)
    have hmh := of_decide_eq_true hmh
    have hvh := of_decide_eq_true hvh
    have hmx := Nat.le_of_ble_eq_true hmx
    unfold am_okI at hok
    obtain ⟨hl3, hokA⟩ := Bool.and_eq_true_iff.mp hok
    clear hok
    obtain rfl := Nat.eq_of_beq_eq_true hl3
    rw [hme2] at hokA
    obtain ⟨hnp0, hok2⟩ := Bool.and_eq_true_iff.mp hokA
    have hnp := of_decide_eq_true hnp0
    clear hokA hnp0
    refine ⟨Nat.le_trans hcal.1 hn.1, Nat.le_trans hcal.2.1 hn.2.1, fun p l e R s m args below meth c me'' H locs LS cells slots mc ms Q hC hG hd hr hH hS hL hE => ?_⟩
    obtain rfl := am_me hme hC.1
    obtain ⟨hme', hx, hb0, hml, hown, hts, hr0, hin, hlk⟩ := id hC
    have hM := am_met l hme2 hmk hl0 hcal
    obtain ⟨r1, r2, r3, r4⟩ := hr
    have c1 := hcal.1
    have c2 := hcal.2.1
    have n1 := hn.1
    have n2 := hn.2.1
    have hbl : FrameBlind (fun v U => v = (((st.take (am_tk i b)).reverse).map (am_cv (am_ad B ra))).toArray ∧ am_G B ra D X U ∧ am_H B ra D U lay I J U.heap) := fun a U g mk z => ⟨z.1, am_G_moved (u := U) (U := U.calling g mk a) (Vm.Alike.refl U.vm) z.2.1.2.2.2.2.1 (fun _ _ _ => rfl) (am_Nst_same (s := U) (U := U.calling g mk a) rfl z.2.1.2.2.2.2.2) z.2.1, am_H_moved (U := U.calling g mk a) (Vm.Alike.refl U.vm) z.2.2⟩
    have hpc : ∀ U : State, U.heap = H → s.WarmedH U.vm → ((((st.take (am_tk i b)).reverse).map (am_cv (am_ad B ra))).toArray = (((st.take (am_tk i b)).reverse).map (am_cv (am_ad B ra))).toArray ∧ am_G B ra D X U ∧ am_H B ra D U lay I J U.heap) := fun U hU hw => ⟨rfl, am_G_moved hw.alike (by rw [hU]; exact Nat.le_trans hG.2.2.2.2.1 hS.1) (fun a0 z1 z2 => by rw [hU]; exact hS.2.1 a0 z1 z2) (am_Nst_warm hw hG.2.2.2.2.2) hG, by rw [hU]; exact am_H_moved hw.alike hH⟩
    have hR : d' + 1 ≤ R.frames ∧ 8 + (me'.2.2.1 + 11) + 40 * d' ≤ R.locals := ⟨hd.1, by have := hd.2; omega⟩
    have hd3 : me'.1.cls ≠ "java/lang/invoke/MethodHandle" ∧ me'.1.cls ≠ "java/lang/invoke/VarHandle" ∧ (parseMethodDescriptor me'.1.desc).map (fun d => d.parameters.length) = some b := ⟨hmh, hvh, hnp⟩
    have hroom : 2 * (F0 m pc LS (st.map (am_cv (am_ad B ra)))).monitorRoom + (((st.drop (am_tk i b)).map (am_cv (am_ad B ra))).map fun v => v.category).sum ≤ 8 := lv_room (by rw [am_vs_sum]; exact hs0)
    have hfit : cells + (q.2.1.length - lay.length) ≤ R.cells ∧ slots + (am_sz q.2.1 - am_sz lay) ≤ R.slots := ⟨by omega, by omega⟩
    have hlen : (st.take (am_tk i b)).reverse.length = am_tk i b := by rw [List.length_reverse, List.length_take]; omega
    have key : va_Run p l e R s m args below meth c H locs cells slots (q.2.1.length - lay.length) (am_sz q.2.1 - am_sz lay) (F0 m pc LS (st.map (am_cv (am_ad B ra)))) ((st.drop (am_tk i b)).map (am_cv (am_ad B ra))) (fun st o t => o = .returned (q.1.map (am_cv (am_ad B ra))) ∧ am_H B ra D t q.2.1 q.2.2.1 q.2.2.2 t.heap ∧ va_F (fun q => B ≤ q) st t) (fun q => B ≤ q) := by
      cases i with
      | invokestatic k =>
        obtain ⟨hlink, hstat⟩ := Bool.and_eq_true_iff.mp hok2
        have hstat := am_tbi (of_decide_eq_true hstat)
        rcases Bool.or_eq_true_iff.mp hlink with hk | hk
        · exact va_runS (As := ((st.take b).reverse).map (am_cv (am_ad B ra))) ⟨hx, hb0, hml, hown, hts⟩ hM ⟨callB_of b hts (am_goodIn hcd) rfl rfl rfl (hts _ hini) (hts _ (am_in hk)) hd3 hR, hts _ hstat⟩ ⟨hbl, hpc⟩ rfl (by rw [List.length_map]; exact hlen) (hL.1.trans hml) (am_stk _ b st) hroom hdec hfit
        · exact va_runSN (host := "WordTree") (As := ((st.take b).reverse).map (am_cv (am_ad B ra))) ⟨hx, hb0, hml, hown, hts⟩ hM ⟨va_cnB b hts (am_goodIn hcd) rfl rfl rfl (hG.2.2.2.2.2 _ (List.mem_of_getElem? (of_decide_eq_true hk)) rfl) (hts _ hini) hd3 hR, hts _ hstat, trivial⟩ ⟨hbl, hpc⟩ rfl (by rw [List.length_map]; exact hlen) (hL.1.trans hml) (am_stk _ b st) hroom hdec hfit
      | invokevirtual k =>
        obtain ⟨hk1, hsel⟩ := Bool.and_eq_true_iff.mp hok2
        obtain ⟨hk, hinst⟩ := Bool.and_eq_true_iff.mp hk1
        have hinst := am_tbi (of_decide_eq_true hinst)
        have hsel := am_tbi (of_decide_eq_true hsel)
        generalize hvs : (st.take (am_tk (.invokevirtual k) b)).reverse = vs at hrok hM hbl hpc hlen
        cases vs with
        | nil => exact absurd (show false = true from hrok) (by decide)
        | cons v0 As0 =>
          cases v0 with
          | ref g =>
            obtain ⟨ci, fs, rc, hlg, hrc, hcC⟩ := am_rok_of hrok
            obtain ⟨rc', hrc', hfl, cell, g1, g2, g3, -⟩ := am_cellO hH hlg
            have hcls := (hG.1 ci rc hrc).2
            refine va_runV (C := me'.1.cls) (As := As0.map (am_cv (am_ad B ra))) ⟨hx, hb0, hml, hown, hts⟩ hM ⟨callB_of b hts (am_goodIn hcd) rfl rfl rfl (hts _ hini) (hts _ (am_in hk)) hd3 hR, hts _ hinst, hts _ hsel⟩ ⟨hbl, ⟨cell, g1, by rw [g3]; rfl, by rw [← hcC, g2]; exact hcls.1⟩, hpc⟩ rfl ?_ (hL.1.trans hml) ?_ hroom hdec hfit
            · rw [List.length_map]
              rw [List.length_cons] at hlen
              exact Nat.succ.inj hlen
            · have h9 := am_stk (am_ad B ra) (am_tk (.invokevirtual k) b) st
              rw [hvs, List.map_cons, List.reverse_cons, List.append_assoc] at h9
              exact h9
          | _ => exact absurd (show false = true from hrok) (by decide)
      | invokespecial k =>
        obtain ⟨hk1, hrn⟩ := Bool.and_eq_true_iff.mp hok2
        obtain ⟨hk2, hnm⟩ := Bool.and_eq_true_iff.mp hk1
        obtain ⟨hk, hinst⟩ := Bool.and_eq_true_iff.mp hk2
        have hinst := am_tbi (of_decide_eq_true hinst)
        have hnm := of_decide_eq_true hnm
        have hrn := of_decide_eq_true hrn
        generalize hvs : (st.take (am_tk (.invokespecial k) b)).reverse = vs at hrok hM hbl hpc hlen
        cases vs with
        | nil => exact absurd (show false = true from hrok) (by decide)
        | cons v0 As0 =>
          cases v0 with
          | ref g =>
            have hM2 := hM
            rw [hrn] at hM2
            have hcd2 := am_goodIn hcd
            rw [hrn] at hcd2
            refine va_runI (As := As0.map (am_cv (am_ad B ra))) ⟨hx, hb0, hml, hown, hts⟩ hM2 ⟨callB_of b hts hcd2 rfl rfl rfl (hts _ hini) (hts _ (am_in hk)) hd3 hR, hnm, hts _ hinst⟩ ⟨hbl, hpc⟩ rfl ?_ (hL.1.trans hml) ?_ hroom hdec hfit
            · rw [List.length_map]
              rw [List.length_cons] at hlen
              exact Nat.succ.inj hlen
            · have h9 := am_stk (am_ad B ra) (am_tk (.invokespecial k) b) st
              rw [hvs, List.map_cons, List.reverse_cons, List.append_assoc] at h9
              exact h9
          | _ => exact absurd (show false = true from hrok) (by decide)
      | _ => cases hok2
    intro T hT XX
    obtain ⟨v, st₀, t, T', L, h0, X', hL', e1, e2, ⟨hv, hH1, hF⟩, stp⟩ := key T hT XX
    cases hv
    have hvm : s.vm.Alike t.vm := by rw [← e2]; exact X'.warmed.alike
    have hH2 : am_H B ra D s q.2.1 q.2.2.1 q.2.2.2 T'.heap := by rw [e1]; exact am_H_moved hvm.symm hH1
    have hS2 : va_S (fun q => B ≤ q) s.heap T'.heap (locs ++ L) := by
      obtain ⟨f1, f2⟩ := hF
      rw [h0] at f1 f2
      refine ⟨Nat.le_trans hS.1 (by rw [e1]; exact f1), fun z z1 z2 => ?_, fun z hz => ?_⟩
      · rw [e1, f2 z (Nat.lt_of_lt_of_le z1 hS.1) z2]
        exact hS.2.1 z z1 z2
      · rcases List.mem_append.mp hz with z1 | z1
        · exact hS.2.2 z z1
        · exact hL' z z1
    have hnx := hn.2.2 p l e R s m args below meth c _ T'.heap (locs ++ L) LS (cells + (q.2.1.length - lay.length)) (slots + (am_sz q.2.1 - am_sz lay)) mc ms Q hC hG hd ⟨by omega, by omega, r3, r4⟩ hH2 hS2 hL hE
    rw [← am_tl] at hnx
    obtain ⟨t2, a1, b1⟩ := hnx T' rfl X'
    exact ⟨t2, stp t2 a1, b1⟩
  · cases h
theorem am_mm_aux {me : am_ME} {k : Nat} (ha : a = 88 ∨ a = 139) (hok : am_okI me (.invokestatic k) len a b ew = true) : len = 3 ∧ ∃ nm, (nm = "max" ∧ a = 88 ∨ nm = "min" ∧ a = 139) ∧ Jvm.Cond.methodLink me.1.cls k ⟨"java/lang/Math", nm, "(II)I"⟩ ∈ am_tb := by
  unfold am_okI at hok
  obtain ⟨hl3, hokA⟩ := Bool.and_eq_true_iff.mp hok
  refine ⟨Nat.eq_of_beq_eq_true hl3, ?_⟩
  have hne : ∀ y : MethodName, y.cls = "java/lang/Math" → ¬ Jvm.Cond.methodLinkNest me.1.cls k y "WordTree" ∈ lw_tbl := by
    intro y hy hw
    have := List.all_eq_true.mp am_nonest _ hw
    exact of_decide_eq_true this hy
  rcases ha with rfl | rfl
  · refine ⟨"max", Or.inl ⟨rfl, rfl⟩, ?_⟩
    rw [show am_MT[88]? = some (⟨"java/lang/Math", "max", "(II)I"⟩, prog_14_method_65_code, 2, some .int) from rfl] at hokA
    obtain ⟨-, hok2⟩ := Bool.and_eq_true_iff.mp hokA
    obtain ⟨hlink, -⟩ := Bool.and_eq_true_iff.mp hok2
    rcases Bool.or_eq_true_iff.mp hlink with hk | hk
    · exact am_in hk
    · exact absurd (List.mem_of_getElem? (of_decide_eq_true hk)) (hne _ rfl)
  · refine ⟨"min", Or.inr ⟨rfl, rfl⟩, ?_⟩
    rw [show am_MT[139]? = some (⟨"java/lang/Math", "min", "(II)I"⟩, prog_14_method_69_code, 2, some .int) from rfl] at hokA
    obtain ⟨-, hok2⟩ := Bool.and_eq_true_iff.mp hokA
    obtain ⟨hlink, -⟩ := Bool.and_eq_true_iff.mp hok2
    rcases Bool.or_eq_true_iff.mp hlink with hk | hk
    · exact am_in hk
    · exact absurd (List.mem_of_getElem? (of_decide_eq_true hk)) (hne _ rfl)
theorem am_t8m {d' k : Nat} {x y : Int32} {f : Int32 → Int32 → Int32} (hent : am_ent mid pc = some (8, .invokestatic k, len, imm, a, b, ew, sw)) (hf : (a = 88 ∧ f = fun x y => if x < y then y else x) ∨ (a = 139 ∧ f = fun x y => if y < x then y else x)) (hs : Nat.ble (am_vsum st) 8 = true) (hn : am_WW X B ra D (d' + 1) mid (pc + 3) ls (.int (f x y) :: st) lay I J res) : am_WW X B ra D (d' + 1) mid pc ls (.int y :: .int x :: st) lay I J res := by
  obtain ⟨me, hme, hdec0, hok0⟩ := am_ok_of hent
  have hdec : decode me.2.1 pc = .ok (.invokestatic k, len) := hdec0
  have hok : am_okI me (.invokestatic k) len a b ew = true := hok0
  clear hdec0 hok0
  obtain ⟨rfl, nm, hnm, hlink⟩ := am_mm_aux (by rcases hf with z | z; exact Or.inl z.1; exact Or.inr z.1) hok
  refine ⟨hn.1, hn.2.1, fun p l e R s m args below meth c me' H locs LS cells slots mc ms Q hC hG hd hr hH hS hL hE => ?_⟩
  obtain rfl := am_me hme hC.1
  have kk := hn.2.2 p l e R s m args below meth c _ H locs LS cells slots mc ms Q hC hG hd hr hH hS hL hE
  obtain ⟨hme', hx, hb0, hml, hown, hts, hr0, hin, hlk⟩ := hC
  obtain ⟨r1, r2, r3, r4⟩ := hr
  have n1 := hn.1
  have n2 := hn.2.1
  have hsum := am_vs_sum (am_ad B ra) st
  have hs := Nat.le_of_ble_eq_true hs
  have hd2 := hd.2
  have hd1 := hd.1
  rcases hf with ⟨rfl, rfl⟩ | ⟨rfl, rfl⟩
  · obtain ⟨rfl, -⟩ : nm = "max" ∧ True := by rcases hnm with z | z; exact ⟨z.1, trivial⟩; exact absurd z.2 (by decide)
    exact va_mmax hx hb0 hL.1.symm hown (hts _ hlink) (hts (Jvm.Cond.static Jvm.Lib.Math.max.name) (am_tbi (by decide +kernel))) (hts (Jvm.Cond.initialized "java/lang/Math") (am_tbi (by decide +kernel))) (hts (Jvm.Cond.code Jvm.Lib.Math.max.name Jvm.Lib.Math.max.code 2 (some .int)) (am_tbi (by decide +kernel))) (by omega) (by rw [hsum]; omega) (by omega) (by omega) hdec kk
  · obtain ⟨rfl, -⟩ : nm = "min" ∧ True := by rcases hnm with z | z; exact absurd z.2 (by decide); exact ⟨z.1, trivial⟩
    exact va_mmin hx hb0 hL.1.symm hown (hts _ hlink) (hts (Jvm.Cond.static Jvm.Lib.Math.min.name) (am_tbi (by decide +kernel))) (hts (Jvm.Cond.initialized "java/lang/Math") (am_tbi (by decide +kernel))) (hts (Jvm.Cond.code Jvm.Lib.Math.min.name Jvm.Lib.Math.min.code 2 (some .int)) (am_tbi (by decide +kernel))) (by omega) (by rw [hsum]; omega) (by omega) (by omega) hdec kk
theorem am_t9 (hent : am_ent mid pc = some (9, i, len, imm, a, b, ew, sw)) (h : am_ret mid st lay I J i = some res) : am_WW X B ra D d mid pc ls st lay I J res := by
  obtain ⟨me, hme, hdec0, hok0⟩ := am_ok_of hent
  have hdec : decode me.2.1 pc = .ok (i, len) := hdec0
  have hok : Nat.beq len 1 = true := hok0
  obtain rfl := Nat.eq_of_beq_eq_true hok
  clear hdec0 hok0
  unfold am_ret at h
  rw [hme] at h
  dsimp only at h
  split at h
  · rename_i v hret
    cases h
    refine ⟨Nat.le_refl _, Nat.le_refl _, fun p l e R s m args below meth c me' H locs LS cells slots mc ms Q hC hG hd hr hH hS hL hE => ?_⟩
    obtain rfl := am_me hme hC.1
    obtain ⟨r1, r2, r3, r4⟩ := hr
    replace r1 : cells + lay.length = mc + lay.length := r1
    replace r2 : slots + am_sz lay = ms + am_sz lay := r2
    obtain rfl : cells = mc := by omega
    obtain rfl : slots = ms := by omega
    exact hE pc LS H locs hH hS ⟨hdec, Or.inl hret⟩
  · rename_i v hret
    split at h
    · rename_i hv
      cases h
      refine ⟨Nat.le_refl _, Nat.le_refl _, fun p l e R s m args below meth c me' H locs LS cells slots mc ms Q hC hG hd hr hH hS hL hE => ?_⟩
      obtain rfl := am_me hme hC.1
      obtain ⟨r1, r2, r3, r4⟩ := hr
      replace r1 : cells + lay.length = mc + lay.length := r1
      replace r2 : slots + am_sz lay = ms + am_sz lay := r2
      obtain rfl : cells = mc := by omega
      obtain rfl : slots = ms := by omega
      exact hE pc LS H locs hH hS ⟨hdec, Or.inr ⟨hret, hv⟩⟩
    · cases h
  · rename_i v hret
    cases h
    refine ⟨Nat.le_refl _, Nat.le_refl _, fun p l e R s m args below meth c me' H locs LS cells slots mc ms Q hC hG hd hr hH hS hL hE => ?_⟩
    obtain rfl := am_me hme hC.1
    obtain ⟨r1, r2, r3, r4⟩ := hr
    replace r1 : cells + lay.length = mc + lay.length := r1
    replace r2 : slots + am_sz lay = ms + am_sz lay := r2
    obtain rfl : cells = mc := by omega
    obtain rfl : slots = ms := by omega
    exact hE pc LS H locs hH hS ⟨hdec, hret⟩
  · rename_i C g hret
    cases h
    refine ⟨Nat.le_refl _, Nat.le_refl _, fun p l e R s m args below meth c me' H locs LS cells slots mc ms Q hC hG hd hr hH hS hL hE => ?_⟩
    obtain rfl := am_me hme hC.1
    obtain ⟨r1, r2, r3, r4⟩ := hr
    replace r1 : cells + lay.length = mc + lay.length := r1
    replace r2 : slots + am_sz lay = ms + am_sz lay := r2
    obtain rfl : cells = mc := by omega
    obtain rfl : slots = ms := by omega
    exact hE pc LS H locs hH hS ⟨hdec, C, hret⟩
  · rename_i hret
    cases h
    refine ⟨Nat.le_refl _, Nat.le_refl _, fun p l e R s m args below meth c me' H locs LS cells slots mc ms Q hC hG hd hr hH hS hL hE => ?_⟩
    obtain rfl := am_me hme hC.1
    obtain ⟨r1, r2, r3, r4⟩ := hr
    replace r1 : cells + lay.length = mc + lay.length := r1
    replace r2 : slots + am_sz lay = ms + am_sz lay := r2
    obtain rfl : cells = mc := by omega
    obtain rfl : slots = ms := by omega
    exact hE pc LS H locs hH hS ⟨hdec, hret⟩
  · cases h
theorem am_t11 {d' g : Nat} (hent : am_ent mid pc = some (11, i, len, imm, a, b, ew, sw)) (hs : Nat.ble (am_vsum st) 8 = true) (hn : am_WW X B ra D (d' + 1) mid (pc + 3) ls st lay I J res) : am_WW X B ra D (d' + 1) mid pc ls (.ref g :: st) lay I J res := by
  obtain ⟨me, hme, hdec0, hok0⟩ := am_ok_of hent
  have hdec : decode me.2.1 pc = .ok (i, len) := hdec0
  have hok : am_okJ me i len ew = true := hok0
  clear hdec0 hok0
  refine am_same hn fun p l e R s m args below meth c me' H locs LS cells slots Q hC hG hd hH hS hL kk => ?_
  obtain ⟨hme', hx, hb, hml, hown, hts, hr, hin, hlk⟩ := hC
  obtain rfl := am_me hme hme'
  have kk := kk LS hL
  unfold am_okJ at hok
  split at hok
  · obtain ⟨h1, h2⟩ := Bool.and_eq_true_iff.mp hok
    obtain rfl := Nat.eq_of_beq_eq_true h1
    have hroom : 2 * (F0 m pc LS ((Value.ref g :: st).map (am_cv (am_ad B ra)))).monitorRoom + ((st.map (am_cv (am_ad B ra))).map fun v => v.category).sum ≤ 8 := lv_room (by rw [am_vs_sum]; exact Nat.le_of_ble_eq_true hs)
    exact W.objInit hx hb hown (hts _ (am_in h2)) (hts (Jvm.Cond.instanceMethod Jvm.Lib.objectInit) (am_tbi (by decide +kernel))) (hts (Jvm.Cond.code Jvm.Lib.objectInit ⟨#[0xb1]⟩ 1 none) (am_tbi (by decide +kernel))) rfl hL.1 rfl hdec (by omega) (by have := hd.2; omega) kk
  · cases hok
end
