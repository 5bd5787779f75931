/-! THE SMALL MACHINE AGAINST THE LARGE ONE: values, locals, heap -/
def am_ad (B : Nat) (ra : Nat → Nat) (h : Nat) : Nat := if h < 1000 then B + h else ra h
theorem am_ad_lt {B : Nat} {ra : Nat → Nat} {h : Nat} (hh : h < 1000) : am_ad B ra h = B + h := if_pos hh
theorem am_ad_ge {B : Nat} {ra : Nat → Nat} {h : Nat} (hh : 1000 ≤ h) : am_ad B ra h = ra h := if_neg (Nat.not_lt.mpr hh)
def am_cv (ad : Nat → Nat) (v : Value) : Value := match v with
  | .ref h => .ref (ad h)
  | v => v
theorem am_cv_cat (ad : Nat → Nat) (v : Value) : (am_cv ad v).category = v.category := by cases v <;> rfl
def am_ls (ad : Nat → Nat) (ls : am_L) : List (Nat × Value) := ls.zipIdx.filterMap fun q => q.1.map fun v => (q.2, am_cv ad v)
theorem am_ls_mem {ad : Nat → Nat} {ls : am_L} {i : Nat} {x : Value} : (i, x) ∈ am_ls ad ls ↔ ∃ v, ls[i]? = some (some v) ∧ am_cv ad v = x := by
  unfold am_ls
  rw [List.mem_filterMap]
  constructor
  · rintro ⟨q, hq, h⟩
    have h1 := List.mem_zipIdx_iff_getElem?.mp hq
    obtain ⟨v, hv, e⟩ := Option.map_eq_some_iff.mp h
    cases e
    exact ⟨v, by rw [h1, hv], rfl⟩
  · rintro ⟨v, hv, rfl⟩
    exact ⟨(some v, i), List.mem_zipIdx_iff_getElem?.mpr hv, rfl⟩
theorem am_ls_at {ad : Nat → Nat} {ls : am_L} {LS : Array Slot} {nL i : Nat} {v : Value} (h : lv_has LS nL (am_ls ad ls)) (hv : ls[i]? = some (some v)) : LS[i]? = some (.val (am_cv ad v)) := h.2.2 (i, am_cv ad v) (am_ls_mem.mpr ⟨v, hv, rfl⟩)
theorem am_cut_get {ls : am_L} {a i : Nat} {u : Value} (h : (am_cut ls a)[i]? = some (some u)) : ls[i]? = some (some u) ∧ (i + 1 = a → u.category ≠ 2) := by
  unfold am_cut at h
  cases a with
  | zero => exact ⟨h, fun z => by omega⟩
  | succ b =>
    dsimp only at h
    split at h
    · rename_i v hv
      cases hb : Nat.beq v.category 2 with
      | true =>
        rw [hb] at h
        simp only [cond_true] at h
        rw [List.getElem?_set] at h
        by_cases e : b = i
        · rw [if_pos e] at h
          split at h <;> cases h
        · rw [if_neg e] at h
          exact ⟨h, fun z => absurd (by omega) e⟩
      | false =>
        rw [hb] at h
        simp only [cond_false] at h
        refine ⟨h, fun z hc => ?_⟩
        have : i = b := by omega
        subst this
        rw [hv] at h
        cases h
        rw [hc] at hb
        cases hb
    · rename_i hne
      refine ⟨h, fun z _ => hne u ?_⟩
      have : i = b := by omega
      subst this
      exact h
theorem am_set1 {ad : Nat → Nat} {LS : Array Slot} {nL a : Nat} {ls : am_L} {v : Value} (hc : v.category = 1) (h : lv_has LS nL ((a, am_cv ad v) :: (am_ls ad ls).filter (fun q => !(q.1 == a) && !(q.1 + 1 == a && q.2.category == 2)))) : lv_has LS nL (am_ls ad (am_set ls a v)) := by
  refine ⟨h.1, h.2.1, fun q hq => h.2.2 q ?_⟩
  obtain ⟨i, x⟩ := q
  obtain ⟨u, hu, rfl⟩ := am_ls_mem.mp hq
  have hs : am_set ls a v = (am_cut ls a).set a (some v) := by unfold am_set; rw [hc]; rfl
  rw [hs, List.getElem?_set] at hu
  by_cases e : a = i
  · rw [if_pos e] at hu
    split at hu
    · cases hu
      subst e
      exact List.mem_cons_self
    · cases hu
  · rw [if_neg e] at hu
    obtain ⟨h1, h2⟩ := am_cut_get hu
    refine List.mem_cons_of_mem _ (List.mem_filter.mpr ⟨am_ls_mem.mpr ⟨u, h1, rfl⟩, ?_⟩)
    have e' : ¬ i = a := fun z => e z.symm
    simp only [am_cv_cat, Bool.and_eq_true, Bool.not_eq_true', beq_eq_false_iff_ne, ne_eq, e', not_false_eq_true, true_and, Bool.and_eq_false_iff]
    by_cases z : i + 1 = a
    · exact Or.inr (h2 z)
    · exact Or.inl z
theorem am_set2 {ad : Nat → Nat} {LS : Array Slot} {nL a : Nat} {ls : am_L} {v : Value} (hc : v.category = 2) (h : lv_has LS nL ((a, am_cv ad v) :: (am_ls ad ls).filter (fun q => !(q.1 == a) && (!(q.1 == a + 1) && !(q.1 + 1 == a && q.2.category == 2))))) : lv_has LS nL (am_ls ad (am_set ls a v)) := by
  refine ⟨h.1, h.2.1, fun q hq => h.2.2 q ?_⟩
  obtain ⟨i, x⟩ := q
  obtain ⟨u, hu, rfl⟩ := am_ls_mem.mp hq
  have hs : am_set ls a v = ((am_cut ls a).set a (some v)).set (a + 1) none := by unfold am_set; rw [hc]; rfl
  rw [hs, List.getElem?_set] at hu
  by_cases e1 : a + 1 = i
  · rw [if_pos e1] at hu
    split at hu <;> cases hu
  · rw [if_neg e1, List.getElem?_set] at hu
    by_cases e : a = i
    · rw [if_pos e] at hu
      split at hu
      · cases hu
        subst e
        exact List.mem_cons_self
      · cases hu
    · rw [if_neg e] at hu
      obtain ⟨h1, h2⟩ := am_cut_get hu
      refine List.mem_cons_of_mem _ (List.mem_filter.mpr ⟨am_ls_mem.mpr ⟨u, h1, rfl⟩, ?_⟩)
      have e' : ¬ i = a := fun z => e z.symm
      have e2 : ¬ i = a + 1 := fun z => e1 z.symm
      simp only [am_cv_cat, Bool.and_eq_true, Bool.not_eq_true', beq_eq_false_iff_ne, ne_eq, e', e2, not_false_eq_true, true_and, Bool.and_eq_false_iff]
      by_cases z : i + 1 = a
      · exact Or.inr (h2 z)
      · exact Or.inl z
theorem am_sl_mem {ad : Nat → Nat} : ∀ (vs : List Value) (off i : Nat) (v : Value), (am_sl vs)[i]? = some (some v) → (off + i, am_cv ad v) ∈ lv_args off (vs.map (am_cv ad)) := by
  intro vs
  induction vs with
  | nil => intro off i v h; simp [am_sl] at h
  | cons u r ih =>
    intro off i v h
    unfold am_sl at h
    show _ ∈ (off, am_cv ad u) :: lv_args (if (am_cv ad u).category = 2 then off + 2 else off + 1) (r.map (am_cv ad))
    rw [am_cv_cat]
    cases hb : Nat.beq u.category 2 with
    | true =>
      rw [hb] at h
      simp only [cond_true] at h
      have hc : u.category = 2 := Nat.eq_of_beq_eq_true hb
      rw [if_pos hc]
      match i, h with
      | 0, h =>
        simp at h
        subst h
        exact List.mem_cons_self
      | 1, h => simp at h
      | j + 2, h =>
        have := ih (off + 2) j v (by simpa using h)
        rw [show off + (j + 2) = off + 2 + j by omega]
        exact List.mem_cons_of_mem _ this
    | false =>
      rw [hb] at h
      simp only [cond_false] at h
      have hc : ¬ u.category = 2 := fun z => by rw [z] at hb; cases hb
      rw [if_neg hc]
      match i, h with
      | 0, h =>
        simp at h
        subst h
        exact List.mem_cons_self
      | j + 1, h =>
        have := ih (off + 1) j v (by simpa using h)
        rw [show off + (j + 1) = off + 1 + j by omega]
        exact List.mem_cons_of_mem _ this
theorem am_sl_len (ad : Nat → Nat) : ∀ vs : List Value, (lg_sl (vs.map (am_cv ad))).length = (am_sl vs).length := by
  intro vs
  induction vs with
  | nil => rfl
  | cons u r ih =>
    have h1 : (lg_sl ((u :: r).map (am_cv ad))).length = (if (am_cv ad u).category = 2 then 2 else 1) + (lg_sl (r.map (am_cv ad))).length := by
      show (((am_cv ad u) :: r.map (am_cv ad)).flatMap _).length = _
      rw [List.flatMap_cons, List.length_append]
      congr 1
      by_cases hc : (am_cv ad u).category = 2
      · rw [if_pos hc, if_pos hc]; rfl
      · rw [if_neg hc, if_neg hc]; rfl
    rw [h1, ih, am_cv_cat]
    show _ = (bif Nat.beq u.category 2 then some u :: none :: am_sl r else some u :: am_sl r).length
    cases hb : Nat.beq u.category 2 with
    | true =>
      rw [if_pos (Nat.eq_of_beq_eq_true hb)]
      simp only [cond_true, List.length_cons]
      omega
    | false =>
      rw [if_neg (fun z => by rw [z] at hb; cases hb)]
      simp only [cond_false, List.length_cons]
      omega
theorem am_args_has {ad : Nat → Nat} {LS : Array Slot} {n : Nat} {vs : List Value} (h : lv_has LS n (lv_args 0 (vs.map (am_cv ad)))) : lv_has LS n (am_ls ad (am_args n vs)) := by
  refine ⟨h.1, h.2.1, fun q hq => h.2.2 q ?_⟩
  obtain ⟨i, x⟩ := q
  obtain ⟨u, hu, rfl⟩ := am_ls_mem.mp hq
  unfold am_args at hu
  by_cases hi : i < (am_sl vs).length
  · rw [List.getElem?_append_left hi] at hu
    have := am_sl_mem (ad := ad) vs 0 i u hu
    rwa [Nat.zero_add] at this
  · rw [List.getElem?_append_right (by omega)] at hu
    have := List.eq_of_mem_replicate (List.mem_of_getElem? hu)
    cases this
theorem am_ix_of {i : Int32} {n q : Nat} (h : am_ix i n = some q) : vp_in i n ∧ i.toNatClampNeg = q := by
  unfold am_ix at h
  split at h
  · cases h
  · rename_i hn
    cases h
    exact ⟨hn, rfl⟩
/-! the heap -/
def am_ct (ad : Nat → Nat) (I : am_I) (J : am_J) (h : Nat) (ty : FieldType) (L : List (Option Nat)) : Nat → Value := match ty with
  | .long => fun j => .long (J h j)
  | .object _ => fun j => va_rf ((L.getD j none).map ad)
  | _ => fun j => .int (I h j)
def am_fv (ad : Nat → Nat) (i : Nat → Int32) (fs : List (Option Value)) (k : Nat) : Value := match fs[k]? with
  | some (some v) => am_cv ad v
  | some none => .int (i k)
  | none => .null
/-- a field's place in the plan is of its type -/
def am_fok (r : vw_C) (fs : List (Option Value)) : Prop := ∀ k : Nat, (fs[k]? = some none → parseFieldDescriptor (r.2.1 k).2.2.1 = some .int ∨ parseFieldDescriptor (r.2.1 k).2.2.1 = some .boolean) ∧ ∀ v, fs[k]? = some (some v) → (∃ C, parseFieldDescriptor (r.2.1 k).2.2.1 = some (.object C)) ∨ ∃ t, parseFieldDescriptor (r.2.1 k).2.2.1 = some (.array t)
def am_at (B : Nat) (ra : Nat → Nat) (D : va_G) (s : State) (I : am_I) (J : am_J) (H : Heap) (h : Nat) (l : am_Lay) : Prop := match l with
  | .inl (ty, n, L) => ∃ cA : ClassId, (ArrOfT s cA ty ∧ va_RA s cA ty) ∧ H[B + h]? = some (arrV cA n (am_ct (am_ad B ra) I J h ty L))
  | .inr (ci, fs) => ∃ r : vw_C, am_cl[ci]? = some r ∧ (fs.length = r.2.2 ∧ am_fok r fs) ∧ t_OB (B + h) (D.1 ci) r.2.2 (D.2 ci) H (am_fv (am_ad B ra) (I h) fs)
def am_H (B : Nat) (ra : Nat → Nat) (D : va_G) (s : State) (lay : List am_Lay) (I : am_I) (J : am_J) (H : Heap) : Prop := H.size = B + lay.length ∧ lay.length ≤ 1000 ∧ (∀ (h : Nat) (l : am_Lay), lay[h]? = some l → am_at B ra D s I J H h l) ∧ ∀ h k : Nat, lay.length ≤ h → I h k = 0 ∧ J h k = 0
theorem am_ct_eq {ad : Nat → Nat} {I I' : am_I} {J J' : am_J} {h : Nat} {ty : FieldType} {L : List (Option Nat)} (hI : I' h = I h) (hJ : J' h = J h) : am_ct ad I' J' h ty L = am_ct ad I J h ty L := by
  unfold am_ct
  rw [hI, hJ]
theorem am_at_kept {B : Nat} {ra : Nat → Nat} {D : va_G} {s : State} {I I' : am_I} {J J' : am_J} {H H' : Heap} {h : Nat} {l : am_Lay} (he : H'[B + h]? = H[B + h]?) (hI : I' h = I h) (hJ : J' h = J h) (ha : am_at B ra D s I J H h l) : am_at B ra D s I' J' H' h l := by
  cases l with
  | inl q =>
    obtain ⟨ty, n, L⟩ := q
    obtain ⟨cA, hk, hc⟩ := ha
    exact ⟨cA, hk, by rw [he, am_ct_eq hI hJ]; exact hc⟩
  | inr q =>
    obtain ⟨ci, fs⟩ := q
    obtain ⟨r, hr, hf, hc⟩ := ha
    refine ⟨r, hr, hf, ?_⟩
    rw [hI]
    exact hc.kept he
theorem am_at_moved {B : Nat} {ra : Nat → Nat} {D : va_G} {s U : State} {I : am_I} {J : am_J} {H : Heap} {h : Nat} {l : am_Lay} (hvm : s.vm.Alike U.vm) (ha : am_at B ra D s I J H h l) : am_at B ra D U I J H h l := by
  cases l with
  | inl q =>
    obtain ⟨ty, n, L⟩ := q
    obtain ⟨cA, hk, hc⟩ := ha
    exact ⟨cA, ⟨arrOfT_moved hvm hk.1, hk.2.moved hvm⟩, hc⟩
  | inr q => exact ha
theorem am_H_moved {B : Nat} {ra : Nat → Nat} {D : va_G} {s U : State} {lay : List am_Lay} {I : am_I} {J : am_J} {H : Heap} (hvm : s.vm.Alike U.vm) (ha : am_H B ra D s lay I J H) : am_H B ra D U lay I J H := ⟨ha.1, ha.2.1, fun h l hl => am_at_moved hvm (ha.2.2.1 h l hl), ha.2.2.2⟩
theorem am_lt {lay : List am_Lay} {h : Nat} {l : am_Lay} (hl : lay[h]? = some l) : h < lay.length := (List.getElem?_eq_some_iff.mp hl).1
/-- one cell changes -/
theorem am_H_upd {B : Nat} {ra : Nat → Nat} {D : va_G} {s : State} {lay lay' : List am_Lay} {I I' : am_I} {J J' : am_J} {H H' : Heap} {h : Nat} (hH : am_H B ra D s lay I J H) (hlt : h < lay.length) (hsz : H'.size = H.size) (ho : ∀ q, q ≠ B + h → H'[q]? = H[q]?) (hI : ∀ g, g ≠ h → I' g = I g) (hJ : ∀ g, g ≠ h → J' g = J g) (hl : lay'.length = lay.length) (hg : ∀ g, g ≠ h → lay'[g]? = lay[g]?) (hat : ∀ l, lay'[h]? = some l → am_at B ra D s I' J' H' h l) : am_H B ra D s lay' I' J' H' := by
  refine ⟨by rw [hsz, hH.1, hl], by rw [hl]; exact hH.2.1, fun g l hgl => ?_, fun g k hk => ?_⟩
  · by_cases e : g = h
    · subst e
      exact hat l hgl
    · rw [hg g e] at hgl
      exact am_at_kept (ho _ (by omega)) (hI g e) (hJ g e) (hH.2.2.1 g l hgl)
  · rw [hl] at hk
    have e : g ≠ h := by omega
    rw [hI g e, hJ g e]
    exact hH.2.2.2 g k hk
/-- one cell comes -/
theorem am_H_new {B : Nat} {ra : Nat → Nat} {D : va_G} {s : State} {lay : List am_Lay} {I : am_I} {J : am_J} {H H' : Heap} {x : am_Lay} (hH : am_H B ra D s lay I J H) (hlt : lay.length < 1000) (hsz : H'.size = H.size + 1) (ho : ∀ q, q < H.size → H'[q]? = H[q]?) (hat : am_at B ra D s I J H' lay.length x) : am_H B ra D s (lay ++ [x]) I J H' := by
  refine ⟨by rw [hsz, hH.1, List.length_append]; rfl, by rw [List.length_append]; exact hlt, fun g l hgl => ?_, fun g k hk => ?_⟩
  · by_cases e : g < lay.length
    · rw [List.getElem?_append_left e] at hgl
      exact am_at_kept (ho _ (by rw [hH.1]; omega)) rfl rfl (hH.2.2.1 g l hgl)
    · have h1 := (List.getElem?_eq_some_iff.mp hgl).1
      rw [List.length_append] at h1
      have h2 : g = lay.length := by simp at h1; omega
      subst h2
      rw [List.getElem?_append_right (Nat.le_refl _), Nat.sub_self] at hgl
      cases hgl
      exact hat
  · rw [List.length_append] at hk
    exact hH.2.2.2 g k (by simp at hk; omega)
/-- the words that every method knows: all but those of where statics lie -/
def am_nl (w : Jvm.Cond) : Bool := match w with
  | .laysStatic .. => false
  | .privateMethod _ => false
  | _ => true
def am_tb : List Jvm.Cond := lw_tbl.filter am_nl
theorem am_tbi {w : Jvm.Cond} (h : w ∈ lw_tbl) (hw : am_nl w = true := by rfl) : w ∈ am_tb := List.mem_filter.mpr ⟨h, hw⟩
/-- words that go over a call by rows of their own -/
def am_spec (w : Jvm.Cond) : Bool := match w with
  | .methodLinkNest .. => true
  | .fieldLinkNest .. => true
  | .arrayOver (.object _) => true
  | _ => false
def am_Nst (s : State) : Prop := ∀ w ∈ lw_tbl, am_spec w = true → w.before #[] s = true
theorem am_Nst_warm {s U : State} (hW : s.WarmedH U.vm) (h : am_Nst s) : am_Nst U := by
  intro w hw hs
  have h1 := h w hw hs
  cases w with
  | methodLinkNest a i x g => exact va_Nw.warmM hW h1
  | fieldLinkNest a i b n d g => exact va_Nw.warmF hW h1
  | arrayOver t =>
    cases t with
    | object C => exact va_AO.moved hW.alike h1
    | _ => cases hs
  | _ => cases hs
theorem am_Nst_same {s U : State} (hv : s.vm = U.vm) (h : am_Nst s) : am_Nst U := by
  intro w hw hs
  have h1 := h w hw hs
  cases w with
  | methodLinkNest a i x g => exact va_Nw.same rfl hv h1
  | fieldLinkNest a i b n d g => exact va_Nw.same rfl hv h1
  | arrayOver t =>
    cases t with
    | object C => exact va_AO.moved (by rw [hv]; exact Vm.Alike.refl _) h1
    | _ => cases hs
  | _ => cases hs
theorem am_Nst_use {s : State} {args : Array Value} (h : am_Nst s) {w : Jvm.Cond} (hw : w ∈ lw_tbl) (hs : am_spec w = true) : w.before args s = true := by
  have h1 := h w hw hs
  cases w with
  | methodLinkNest a i x g => exact va_Nw.use rfl h1
  | fieldLinkNest a i b n d g => exact va_Nw.use rfl h1
  | arrayOver t =>
    cases t with
    | object C => exact va_AO.use h1
    | _ => cases hs
  | _ => cases hs
/-- what a method's start knows besides its cells -/
def am_G (B : Nat) (ra : Nat → Nat) (D : va_G) (X : am_X) (s : State) : Prop :=
  (∀ (c : Nat) (q : vw_C), am_cl[c]? = some q → u_Kn s q.1 q.2.1 q.2.2 (D.1 c) (D.2 c)) ∧
  (∀ (h n : Nat) (f : Nat → Int32), X.1 h = some (n, f) → 1000 ≤ h ∧ va_T .int (ra h) n (fun j => .int (f j)) (fun q => B ≤ q) s s.heap) ∧
  (∀ (h n : Nat) (f : Nat → Int64), X.2 h = some (n, f) → 1000 ≤ h ∧ va_T .long (ra h) n (fun j => .long (f j)) (fun q => B ≤ q) s s.heap) ∧
  (∀ (k : Nat) (q : String × String), am_stat[k]? = some q → va_Z "WordTree" q.1 q.2 (.ref (ra (1001 + k))) (fun q => B ≤ q) s s.heap) ∧ B ≤ s.heap.size ∧ am_Nst s
theorem am_G_moved {B : Nat} {ra : Nat → Nat} {D : va_G} {X : am_X} {u U : State} (hvm : u.vm.Alike U.vm) (hsz : B ≤ U.heap.size) (hk : ∀ a : Nat, a < u.heap.size → ¬ B ≤ a → U.heap[a]? = u.heap[a]?) (hN : am_Nst U) (h : am_G B ra D X u) : am_G B ra D X U := by
  obtain ⟨h1, h2, h3, h4, h5, -⟩ := h
  exact ⟨fun c q hq => u_Kn_moved hvm (h1 c q hq), fun g n f hf => ⟨(h2 g n f hf).1, va_T.kept (va_T.moved hvm (h2 g n f hf).2) hk⟩, fun g n f hf => ⟨(h3 g n f hf).1, va_T.kept (va_T.moved hvm (h3 g n f hf).2) hk⟩, fun k q hq => va_Z.kept (va_Z.moved hvm (h4 k q hq)) hk, hsz, hN⟩
def am_lsz (l : am_Lay) : Nat := match l with
  | .inl q => q.2.1
  | .inr q => q.2.length
def am_sz (lay : List am_Lay) : Nat := (lay.map am_lsz).sum
theorem am_sz_new (lay : List am_Lay) (x : am_Lay) : am_sz (lay ++ [x]) = am_sz lay + am_lsz x := by simp [am_sz]
theorem am_sz_set : ∀ (lay : List am_Lay) (h : Nat) (l x : am_Lay), lay[h]? = some l → am_lsz x = am_lsz l → am_sz (lay.set h x) = am_sz lay := by
  intro lay
  induction lay with
  | nil => intro h l x hl _; simp at hl
  | cons a r ih =>
    intro h l x hl e
    cases h with
    | zero =>
      simp at hl
      subst hl
      simp [am_sz, e]
    | succ k =>
      have := ih k l x (by simpa using hl) e
      simp only [List.set_cons_succ, am_sz, List.map_cons, List.sum_cons] at this ⊢
      rw [this]
