/-! THE CLAIM OUT OF ONE WALK OF THE LAW'S BODY. Your part is whole_start (and what it stands on); all else here is the same for every law, but numbers. -/
def R_law : String := "WordTreeLaw"
def lw_P (b : Addr) (xs : List Int32) (args : Array Value) (s : State) : Prop := args = #[.ref b] ∧ s.IntsAt b xs ∧ xs.length ≤ 3072 ∧ (Jvm.Cond.and given_1 narrow_1).before args s = true
def lw_Q (_ : Array Value) (s : State) (o : Outcome) (t : State) : Prop := o = .returned (some (.int 1)) ∧ Framed s o t [] 600000 7302250
def lw_Z (below : List Frame) (a : Array Value) (s : State) : State → Prop := fun t => ∃ o, t.status = .running ∧ Ended t below o ∧ lw_Q a s o t
/-- the law's own end, with 1 on the stack, nothing written that was there before, its room as the claim has it -/
theorem lw_ret {p : Program} {l : Launch} {e : Env} {s : State} {m : MethodId} {below : List Frame} {meth : Method} {c : Code} {b : Nat} (hx : p.tables.exec = Jvm.exec) (hb : c.code = code) (hr : meth.sig.returnType = ret) (hlocks : meth.locks = false) {pc : Nat} {H : Heap} {ls : Array Slot} (hdg : decode code pc = .ok (.ireturn, 1)) : W p l e room_1 s m #[Value.ref b] below meth c H [] 600000 7302250 (lw_Z below #[Value.ref b] s) (F0 m pc ls [.int 1]) := by
  intro T hT X
  obtain ⟨fs, hret, hrun, hended, hW, hframe⟩ := X.leave (v := some (.int 1)) (hlocks := hlocks) (fun h => by rw [hr] at h; cases h)
  have hmeth' : T.vm.method? m = some meth := X.method'
  refine ⟨T.setFrames fs, ?_, .returned (some (.int 1)), hrun, hended, rfl, ⟨_, rfl⟩, hW, hframe⟩
  jvm_step X.here [X.here.top, hx, hb, hdg, hmeth', hr, ret, narrow_b1]
  (try refine ⟨rfl, ?_⟩); (try refine ⟨rfl, ?_⟩)
  first | (intro acts; rw [hret _ acts rfl rfl rfl]) | rw [hret _ _ rfl rfl rfl]
  exact Steps.refl _
/-- what holds at the law's entry: the machine, the code, the tables' words (any of lw_tbl by 'hts w (by decide +kernel)'), the script of L ints xs at the cell b, what the Statement gives of the start (any of its parts by flat_of_before) -/
def lw_At (p : Program) (s : State) (m : MethodId) (meth : Method) (c : Code) (b L : Nat) (xs : Nat → Int32) : Prop :=
  p.tables.exec = Jvm.exec ∧ c.code = code ∧ meth.sig.returnType = ret ∧ c.maxLocals = 4 ∧ s.vm.findClass R_law = some m.cls ∧ (∀ w ∈ lw_tbl, w.before #[Value.ref b] s = true) ∧ va_X b L xs s s.heap ∧ b < s.heap.size ∧ meth.locks = false ∧ (Jvm.Cond.and given_1 narrow_1).before #[Value.ref b] s = true

/-! WHAT IS LEFT: a claim of the small machine alone -/
def am_s1 (j : Nat) : Int64 := ([1937073000, 24947, 6385252, 478694368626, 26995, 97, 1802071652, 28518, 1885434484, 28530] : List Int64).getD j 0
def am_s2 (j : Nat) : Int64 := ([1937073000, 24947, 6385252, 478694368626, 26995, 97, 1802071652, 28518, 1885434484, 28518, 28530] : List Int64).getD j 0
def am_s3 (j : Nat) : Int32 := ([0, 2, 4, 8, 10, 11] : List Int32).getD j 0
def am_s4 (j : Nat) : Int32 := ([0, 0, 0, 1, 2] : List Int32).getD j 0
def am_s5 (j : Nat) : Int32 := ([2, 2, 3, 1, 1] : List Int32).getD j 0
def am_s6 (j : Nat) : Int32 := ([0, 1, 1, 0, 0] : List Int32).getD j 0
def am_XX (L : Nat) (xs : Nat → Int32) : am_X := (fun h => bif Nat.beq h 1000 then some (L, xs) else bif Nat.beq h 1003 then some (6, am_s3) else bif Nat.beq h 1004 then some (5, am_s4) else bif Nat.beq h 1005 then some (5, am_s5) else bif Nat.beq h 1006 then some (5, am_s6) else none, fun h => bif Nat.beq h 1001 then some (10, am_s1) else bif Nat.beq h 1002 then some (11, am_s2) else none)
def am_claim : Prop := ∀ (L : Nat) (xs : Nat → Int32), L ≤ 3072 → ∃ (n : Nat) (I : am_I) (J : am_J), am_exec (am_XX L xs) n 40 147 0 [some (.ref 1000), none, none, none] [] [] (fun _ _ => 0) (fun _ _ => 0) = some (some (.int 1), am_lay, I, J)
def am_vt (v : Value) : Jvm.Term := match v with
  | .int x => .int x
  | .long x => .long x
  | _ => .int 0
def am_vtok (v : Value) : Bool := match v with
  | .int _ => true
  | .long _ => true
  | _ => false
set_option maxRecDepth 100000 in
theorem am_statT {args : Array Value} {s : State} {A : Nat → Prop} (hs : ∀ c ∈ flatC (Jvm.Cond.and given_1 narrow_1), c.before args s = true) (hA : ∀ a : Nat, a < s.heap.size → ¬ A a) (hts : ∀ w ∈ lw_tbl, w.before args s = true) (nm ds : String) (ty : FieldType) (N : Nat) (f : Nat → Value) (hN : N < 2 ^ 31) (h1 : Jvm.Cond.arrayOf (.static "WordTree" nm ds) ty ∈ flatC (Jvm.Cond.and given_1 narrow_1)) (h2 : Jvm.Cond.eq (.length (.static "WordTree" nm ds)) (.int (Int32.ofNat N)) ∈ flatC (Jvm.Cond.and given_1 narrow_1)) (h3 : ∀ j, j < N → am_vtok (f j) = true ∧ Jvm.Cond.eq (.elem (.static "WordTree" nm ds) (.int (Int32.ofNat j))) (am_vt (f j)) ∈ flatC (Jvm.Cond.and given_1 narrow_1)) (h4 : Jvm.Cond.laysStatic "WordTree" nm ds ∈ lw_tbl) : ∃ t : Nat, va_T ty t N f A s s.heap ∧ va_Z "WordTree" nm ds (.ref t) A s s.heap := by
  have hlen : (Jvm.Term.length (.static "WordTree" nm ds)).eval args s none [] s = some (.int (Int32.ofNat N)) := by
    obtain ⟨y, e1, e2⟩ := Cond.eq_one (show (Jvm.Cond.eq _ _).holds args s none s [] = true from hs _ h2)
    rw [e1]
    exact e2.symm
  have hel : ∀ j : Nat, j < N → (Jvm.Term.elem (.static "WordTree" nm ds) (.int (Int32.ofNat j))).eval args s none [] s = some (f j) := by
    intro j hj
    obtain ⟨hv, hm⟩ := h3 j hj
    obtain ⟨y, e1, e2⟩ := Cond.eq_one (show (Jvm.Cond.eq _ _).holds args s none s [] = true from hs _ hm)
    rw [e1, ← e2]
    generalize f j = v at hv ⊢
    cases v with
    | int x => rfl
    | long x => rfl
    | _ => cases hv
  obtain ⟨t, ht, hT⟩ := va_Tof (A := A) hN (hs _ h1) hlen hel hA
  exact ⟨t, hT, va_Zof (hts _ h4) (hts (Jvm.Cond.initialized "WordTree") (by decide +kernel)) ht hA⟩
set_option maxHeartbeats 4000000 in
set_option maxRecDepth 100000 in
theorem whole_of {p : Program} {e : Env} {s : State} {m : MethodId} {below : List Frame} {meth : Method} {c : Code} (hcl : am_claim) (l : Launch) {b L : Nat} {xs : Nat → Int32} (hL : L ≤ 3072) (C0 : lw_At p s m meth c b L xs) : W p l e room_1 s m #[Value.ref b] below meth c s.heap [] 0 0 (lw_Z below #[Value.ref b] s) (entryFrame m ([Value.ref b] : List Value).toArray 4) := by
  obtain ⟨hx, hb, hr, hml, hown, hts, hX, hbl, hlocks, hgv⟩ := id C0
  have hs := flat_of_before _ hgv
  have hA : ∀ a : Nat, a < s.heap.size → ¬ (fun q : Nat => s.heap.size ≤ q) a := fun a h z => Nat.not_le.mpr h z
  obtain ⟨t1, hT1, hZ1⟩ := am_statT (A := fun q : Nat => s.heap.size ≤ q) hs hA hts "SMALL_WORDS" "[J" .long 10 (fun j => .long (am_s1 j)) (by decide) (by decide +kernel) (by decide +kernel) (by decide +kernel) (by decide +kernel)
  obtain ⟨t2, hT2, hZ2⟩ := am_statT (A := fun q : Nat => s.heap.size ≤ q) hs hA hts "FORM_WORDS" "[J" .long 11 (fun j => .long (am_s2 j)) (by decide) (by decide +kernel) (by decide +kernel) (by decide +kernel) (by decide +kernel)
  obtain ⟨t3, hT3, hZ3⟩ := am_statT (A := fun q : Nat => s.heap.size ≤ q) hs hA hts "FORM_STARTS" "[I" .int 6 (fun j => .int (am_s3 j)) (by decide) (by decide +kernel) (by decide +kernel) (by decide +kernel) (by decide +kernel)
  obtain ⟨t4, hT4, hZ4⟩ := am_statT (A := fun q : Nat => s.heap.size ≤ q) hs hA hts "FORM_KINDS" "[I" .int 5 (fun j => .int (am_s4 j)) (by decide) (by decide +kernel) (by decide +kernel) (by decide +kernel) (by decide +kernel)
  obtain ⟨t5, hT5, hZ5⟩ := am_statT (A := fun q : Nat => s.heap.size ≤ q) hs hA hts "FORM_WEIGHTS" "[I" .int 5 (fun j => .int (am_s5 j)) (by decide) (by decide +kernel) (by decide +kernel) (by decide +kernel) (by decide +kernel)
  obtain ⟨t6, hT6, hZ6⟩ := am_statT (A := fun q : Nat => s.heap.size ≤ q) hs hA hts "FORM_TURNS" "[I" .int 5 (fun j => .int (am_s6 j)) (by decide) (by decide +kernel) (by decide +kernel) (by decide +kernel) (by decide +kernel)
  obtain ⟨scr, hX1, hX2, hX3, hX4, hX5⟩ := hX
  have hT0 : va_T .int b L (fun j => .int (xs j)) (fun q : Nat => s.heap.size ≤ q) s s.heap := ⟨scr, hX1, hX2, hX3, by omega, by rw [hX4], hX5, hA b hbl⟩
  have htb : ∀ w ∈ am_tb, w.before #[Value.ref b] s = true := fun w hw => hts w (List.mem_filter.mp hw).1
  have hNst : am_Nst s := by
    intro w hw hsp
    have h1 := hts w hw
    cases w with
    | methodLinkNest a i x g => exact va_Nw.of rfl h1
    | fieldLinkNest a i b n d g => exact va_Nw.of rfl h1
    | arrayOver t =>
      cases t with
      | object C => exact va_AO.of h1
      | _ => cases hsp
    | _ => cases hsp
  have hkn : ∀ k : Nat, ∃ q : ClassId × (Nat → Nat), ∀ r : vw_C, am_cl[k]? = some r → u_Kn s r.1 r.2.1 r.2.2 q.1 q.2 := by
    intro k
    cases hk : am_cl[k]? with
    | none => exact ⟨(0, fun _ => 0), fun r hr => by cases hr⟩
    | some r =>
      have hc := am_cls hk
      obtain ⟨cC, iS, h1⟩ := u_known (n := r.2.2) htb hc.1 (htb _ hc.2.2.2.1)
      exact ⟨(cC, iS), fun r' hr' => by cases hr'; exact h1⟩
  obtain ⟨dd, hdd⟩ := Classical.axiomOfChoice hkn
  obtain ⟨n, I', J', hexec⟩ := hcl L xs hL
  let ra : Nat → Nat := fun h => if h = 1000 then b else if h = 1001 then t1 else if h = 1002 then t2 else if h = 1003 then t3 else if h = 1004 then t4 else if h = 1005 then t5 else t6
  have hW := am_sound (B := s.heap.size) (ra := ra) (D := (fun k => (dd k).1, fun k => (dd k).2)) n 40 147 0 _ _ _ _ _ _ hexec
  have hG : am_G s.heap.size ra (fun k => (dd k).1, fun k => (dd k).2) (am_XX L xs) s := by
    refine ⟨fun k q hq => hdd k q hq, fun h n f hf => ?_, fun h n f hf => ?_, fun k q hq => ?_, Nat.le_refl _, hNst⟩
    · unfold am_XX at hf
      dsimp only at hf
      cases h0 : Nat.beq h 1000 with
      | true => rw [h0] at hf; cases hf; obtain rfl := Nat.eq_of_beq_eq_true h0; exact ⟨by decide, hT0⟩
      | false =>
        rw [h0] at hf
        cases h3 : Nat.beq h 1003 with
        | true => rw [h3] at hf; cases hf; obtain rfl := Nat.eq_of_beq_eq_true h3; exact ⟨by decide, hT3⟩
        | false =>
          rw [h3] at hf
          cases h4 : Nat.beq h 1004 with
          | true => rw [h4] at hf; cases hf; obtain rfl := Nat.eq_of_beq_eq_true h4; exact ⟨by decide, hT4⟩
          | false =>
            rw [h4] at hf
            cases h5 : Nat.beq h 1005 with
            | true => rw [h5] at hf; cases hf; obtain rfl := Nat.eq_of_beq_eq_true h5; exact ⟨by decide, hT5⟩
            | false =>
              rw [h5] at hf
              cases h6 : Nat.beq h 1006 with
              | true => rw [h6] at hf; cases hf; obtain rfl := Nat.eq_of_beq_eq_true h6; exact ⟨by decide, hT6⟩
              | false => rw [h6] at hf; cases hf
    · unfold am_XX at hf
      dsimp only at hf
      cases h0 : Nat.beq h 1001 with
      | true => rw [h0] at hf; cases hf; obtain rfl := Nat.eq_of_beq_eq_true h0; exact ⟨by decide, hT1⟩
      | false =>
        rw [h0] at hf
        cases h3 : Nat.beq h 1002 with
        | true => rw [h3] at hf; cases hf; obtain rfl := Nat.eq_of_beq_eq_true h3; exact ⟨by decide, hT2⟩
        | false => rw [h3] at hf; cases hf
    · match k, hq with
      | 0, hq => cases hq; exact hZ1
      | 1, hq => cases hq; exact hZ2
      | 2, hq => cases hq; exact hZ3
      | 3, hq => cases hq; exact hZ4
      | 4, hq => cases hq; exact hZ5
      | 5, hq => cases hq; exact hZ6
      | k + 6, hq => simp [am_stat] at hq
  have hH : am_H s.heap.size ra (fun k => (dd k).1, fun k => (dd k).2) s [] (fun _ _ => 0) (fun _ _ => 0) s.heap := ⟨rfl, by decide, fun h l hl => by simp at hl, fun _ _ _ => ⟨rfl, rfl⟩⟩
  have hl := lv_entry ([Value.ref b]) (n := 4) (Nat.le_of_ble_eq_true rfl)
  rw [lg_entry_eq]
  generalize (lg_sl ([Value.ref b]) ++ List.replicate (4 - (lg_sl ([Value.ref b])).length) Slot.unset).toArray = LS at hl ⊢
  have hl2 : lv_has LS 4 (am_ls (am_ad s.heap.size ra) (am_args 4 [.ref 1000])) := am_args_has (vs := [.ref 1000]) hl
  refine hW.2.2 p l e room_1 s m #[Value.ref b] below meth c (⟨"WordTreeLaw", "law", "([I)Z"⟩, code, 4, some .boolean) s.heap [] LS 0 0 122 (am_sz am_lay) (lw_Z below #[Value.ref b] s) ⟨rfl, hx, hb, hml, hown, htb, hr, ?_, hlocks⟩ hG ⟨by decide, by decide⟩ ⟨rfl, rfl, by decide, by decide +kernel⟩ hH va_S.rf (by rw [hml]; exact hl2) ?_
  · exact fun z => absurd z (by decide)
  · intro pc' LS' H' locs' hH' hS' hrt
    refine va_forget (fun q hq => hS'.2.2 q hq) ?_
    refine W.widen (k := 600000) (n := 7302250) (by decide) (by decide +kernel) ?_
    exact lw_ret hx hb hr hlocks hrt.1
