/-! ONE STEP OF THE SMALL MACHINE IS A STEP OF THE LARGE ONE -/
def am_C (mid : Nat) (p : Program) (s : State) (m : MethodId) (args : Array Value) (meth : Method) (c : Code) (me : am_ME) : Prop :=
  am_MT[mid]? = some me ∧ p.tables.exec = Jvm.exec ∧ c.code = me.2.1 ∧ c.maxLocals = me.2.2.1 ∧ s.vm.findClass me.1.cls = some m.cls ∧ (∀ w ∈ am_tb, w.before args s = true) ∧ meth.sig.returnType = me.2.2.2 ∧ (me.1.name = "<init>" → meth.name = "<init>") ∧ meth.locks = false
/-- an instruction that returns this value -/
def am_rt (me : am_ME) (pc : Nat) (r : Option Value) : Prop := match r with
  | none => decode me.2.1 pc = .ok (.return_, 1) ∧ me.2.2.2 = none
  | some (.int v) => decode me.2.1 pc = .ok (.ireturn, 1) ∧ (me.2.2.2 = some .int ∨ (me.2.2.2 = some .boolean ∧ (v = 0 ∨ v = 1)))
  | some (.long _) => decode me.2.1 pc = .ok (.lreturn, 1) ∧ me.2.2.2 = some .long
  | some (.ref _) => decode me.2.1 pc = .ok (.areturn, 1) ∧ ∃ C, me.2.2.2 = some (.object C)
  | _ => False
def am_End (B : Nat) (ra : Nat → Nat) (D : va_G) (me : am_ME) (res : am_R) (p : Program) (l : Launch) (e : Env) (R : Room) (s : State) (m : MethodId) (args : Array Value) (below : List Frame) (meth : Method) (c : Code) (mc ms : Nat) (Q : State → Prop) : Prop :=
  ∀ (pc : Nat) (LS : Array Slot) (H : Heap) (locs : List Loc), am_H B ra D s res.2.1 res.2.2.1 res.2.2.2 H → va_S (fun q => B ≤ q) s.heap H locs → am_rt me pc res.1 → W p l e R s m args below meth c H locs mc ms Q (F0 m pc LS ((res.1.map (am_cv (am_ad B ra))).toList))
def am_WW (X : am_X) (B : Nat) (ra : Nat → Nat) (D : va_G) (d mid pc : Nat) (ls : am_L) (st : List Value) (lay : List am_Lay) (I : am_I) (J : am_J) (res : am_R) : Prop :=
  lay.length ≤ res.2.1.length ∧ am_sz lay ≤ am_sz res.2.1 ∧ ∀ (p : Program) (l : Launch) (e : Env) (R : Room) (s : State) (m : MethodId) (args : Array Value) (below : List Frame) (meth : Method) (c : Code) (me : am_ME) (H : Heap) (locs : List Loc) (LS : Array Slot) (cells slots mc ms : Nat) (Q : State → Prop),
    am_C mid p s m args meth c me → am_G B ra D X s → (d ≤ R.frames ∧ 40 * d ≤ R.locals) → (cells + res.2.1.length = mc + lay.length ∧ slots + am_sz res.2.1 = ms + am_sz lay ∧ mc ≤ R.cells ∧ ms ≤ R.slots) →
    am_H B ra D s lay I J H → va_S (fun q => B ≤ q) s.heap H locs → lv_has LS c.maxLocals (am_ls (am_ad B ra) ls) →
    am_End B ra D me res p l e R s m args below meth c mc ms Q → W p l e R s m args below meth c H locs cells slots Q (F0 m pc LS (st.map (am_cv (am_ad B ra))))
theorem am_bif {α : Type} {c : Bool} {x : Option α} {y : α} (h : (bif c then x else none) = some y) : c = true ∧ x = some y := by
  cases c with
  | true => exact ⟨rfl, h⟩
  | false => cases h
section
variable {X : am_X} {B : Nat} {ra : Nat → Nat} {D : va_G} {d mid pc pc' : Nat} {ls ls' : am_L} {st st' : List Value} {lay : List am_Lay} {I : am_I} {J : am_J} {res : am_R} {i : Instr} {len a b ew : Nat} {imm : Value} {sw : List (Int32 × Nat)}
/-- the cells stay as they are -/
theorem am_same (hn : am_WW X B ra D d mid pc' ls' st' lay I J res) (k : ∀ (p : Program) (l : Launch) (e : Env) (R : Room) (s : State) (m : MethodId) (args : Array Value) (below : List Frame) (meth : Method) (c : Code) (me : am_ME) (H : Heap) (locs : List Loc) (LS : Array Slot) (cells slots : Nat) (Q : State → Prop), am_C mid p s m args meth c me → am_G B ra D X s → (d ≤ R.frames ∧ 40 * d ≤ R.locals) → am_H B ra D s lay I J H → va_S (fun q => B ≤ q) s.heap H locs → lv_has LS c.maxLocals (am_ls (am_ad B ra) ls) →
    (∀ LS' : Array Slot, lv_has LS' c.maxLocals (am_ls (am_ad B ra) ls') → W p l e R s m args below meth c H locs cells slots Q (F0 m pc' LS' (st'.map (am_cv (am_ad B ra))))) → W p l e R s m args below meth c H locs cells slots Q (F0 m pc LS (st.map (am_cv (am_ad B ra))))) : am_WW X B ra D d mid pc ls st lay I J res :=
  ⟨hn.1, hn.2.1, fun p l e R s m args below meth c me H locs LS cells slots mc ms Q hC hG hd hr hH hS hL hE => k p l e R s m args below meth c me H locs LS cells slots Q hC hG hd hH hS hL (fun LS' hL' => hn.2.2 p l e R s m args below meth c me H locs LS' cells slots mc ms Q hC hG hd hr hH hS hL' hE)⟩
theorem am_me {me me' : am_ME} (h : am_MT[mid]? = some me) (h' : am_MT[mid]? = some me') : me' = me := Option.some.inj (h'.symm.trans h)
theorem am_in {w : Jvm.Cond} {k : Nat} (h : decide (lw_tbl[k]? = some w) = true) (hw : am_nl w = true := by rfl) : w ∈ am_tb := am_tbi (List.mem_of_getElem? (of_decide_eq_true h)) hw
theorem am_t0 (hent : am_ent mid pc = some (0, i, len, imm, a, b, ew, sw)) (hn : am_WW X B ra D d mid (pc + len) ls (imm :: st) lay I J res) : am_WW X B ra D d mid pc ls st lay I J res := by
  obtain ⟨me, hme, hdec0, hok0⟩ := am_ok_of hent
  have hdec : decode me.2.1 pc = .ok (i, len) := hdec0
  have hok : am_okA me i len imm ew = true := hok0
  refine am_same hn fun p l e R s m args below meth c me' H locs LS cells slots Q hC hG hd hH hS hL kk => ?_
  obtain ⟨hme', hx, hb, hml, hown, hts, hr, hin, hlk⟩ := hC
  obtain rfl := am_me hme hme'
  have kk := kk LS hL
  unfold am_okA at hok
  split at hok
  all_goals first | (cases hok; done) | skip
  all_goals (obtain ⟨h1, h2⟩ := Bool.and_eq_true_iff.mp hok; obtain rfl := Nat.eq_of_beq_eq_true h1)
  · exact lv_iconst hx hb hdec (of_decide_eq_true h2) kk
  · exact lv_bipush hx hb hdec (of_decide_eq_true h2) kk
  · exact lv_sipush hx hb hdec (of_decide_eq_true h2) kk
  · exact lv_lconst hx hb hdec (of_decide_eq_true h2) kk
  · exact lv_ldc2 hx hb hown (hts _ (am_in h2)) hdec kk
  · exact lv_ldcw hx hb hown (hts _ (am_in h2)) hdec kk
theorem am_t1 {v : Value} (hent : am_ent mid pc = some (1, i, len, imm, a, b, ew, sw)) (hv : ls[a]? = some (some v)) (ht : am_ldok i v = true) (hn : am_WW X B ra D d mid (pc + len) ls (v :: st) lay I J res) : am_WW X B ra D d mid pc ls st lay I J res := by
  obtain ⟨me, hme, hdec0, hok0⟩ := am_ok_of hent
  have hdec : decode me.2.1 pc = .ok (i, len) := hdec0
  have hok : am_okB i len a = true := hok0
  refine am_same hn fun p l e R s m args below meth c me' H locs LS cells slots Q hC hG hd hH hS hL kk => ?_
  obtain ⟨hme', hx, hb, hml, hown, hts, hr, hin, hlk⟩ := hC
  obtain rfl := am_me hme hme'
  have kk := kk LS hL
  have hat := am_ls_at hL hv
  unfold am_okB at hok
  split at hok
  all_goals first | (cases hok; done) | skip
  all_goals (obtain ⟨h1, h2⟩ := Bool.and_eq_true_iff.mp hok; obtain rfl := Nat.eq_of_beq_eq_true h1; have h2 := Nat.eq_of_beq_eq_true h2)
  all_goals (cases v <;> first | (cases ht; done) | skip)
  · subst h2; exact lv_iload hx hb hdec hat kk
  · exact lv_iload_n hx hb hdec h2 hat kk
  · subst h2; exact lv_lload hx hb hdec hat kk
  · exact lv_lload_n hx hb hdec h2 hat kk
  · subst h2; exact lv_aload hx hb hdec hat kk
  · exact lv_aload_n hx hb hdec h2 hat kk
theorem am_t2 {v : Value} (hent : am_ent mid pc = some (2, i, len, imm, a, b, ew, sw)) (ht : am_stok i v = true) (hn : am_WW X B ra D d mid (pc + len) (am_set ls a v) st lay I J res) : am_WW X B ra D d mid pc ls (v :: st) lay I J res := by
  obtain ⟨me, hme, hdec0, hok0⟩ := am_ok_of hent
  have hdec : decode me.2.1 pc = .ok (i, len) := hdec0
  have hok : am_okC me i len a = true := hok0
  refine am_same hn fun p l e R s m args below meth c me' H locs LS cells slots Q hC hG hd hH hS hL kk => ?_
  obtain ⟨hme', hx, hb, hml, hown, hts, hr, hin, hlk⟩ := hC
  obtain rfl := am_me hme hme'
  unfold am_okC at hok
  split at hok
  all_goals first | (cases hok; done) | skip
  all_goals (obtain ⟨h1, h3⟩ := Bool.and_eq_true_iff.mp hok; obtain ⟨h1, h2⟩ := Bool.and_eq_true_iff.mp h1; obtain rfl := Nat.eq_of_beq_eq_true h1; have h2 := Nat.eq_of_beq_eq_true h2; have h3 := Nat.le_of_ble_eq_true h3; rw [← hml] at h3)
  all_goals (cases v <;> first | (cases ht; done) | skip)
  · subst h2; exact lv_istore hx hb hdec hL h3 rfl (fun LS' h' => kk LS' (am_set1 rfl h'))
  · exact lv_istore_n hx hb hdec h2 hL h3 rfl (fun LS' h' => kk LS' (am_set1 rfl h'))
  · subst h2; exact lv_lstore hx hb hdec hL h3 rfl (fun LS' h' => kk LS' (am_set2 rfl h'))
  · exact lv_lstore_n hx hb hdec h2 hL h3 rfl (fun LS' h' => kk LS' (am_set2 rfl h'))
  · subst h2; exact lv_astore hx hb hdec hL h3 rfl (fun LS' h' => kk LS' (am_set1 rfl h'))
  · exact lv_astore_n hx hb hdec h2 hL h3 rfl (fun LS' h' => kk LS' (am_set1 rfl h'))
theorem am_t10 {x v : Int32} (hent : am_ent mid pc = some (10, i, len, .int v, a, b, ew, sw)) (hv : ls[a]? = some (some (.int x))) (hn : am_WW X B ra D d mid (pc + len) (am_set ls a (.int (x + v))) st lay I J res) : am_WW X B ra D d mid pc ls st lay I J res := by
  obtain ⟨me, hme, hdec0, hok0⟩ := am_ok_of hent
  have hdec : decode me.2.1 pc = .ok (i, len) := hdec0
  refine am_same hn fun p l e R s m args below meth c me' H locs LS cells slots Q hC hG hd hH hS hL kk => ?_
  obtain ⟨hme', hx, hb, hml, hown, hts, hr, hin, hlk⟩ := hC
  obtain rfl := am_me hme hme'
  cases i with
  | iinc k n =>
    have hok : (Nat.beq len 3 && Nat.beq k a && decide (Int32.ofInt n = v) && Nat.blt a me'.2.2.1) = true := hok0
    obtain ⟨h1, h4⟩ := Bool.and_eq_true_iff.mp hok
    obtain ⟨h1, h3⟩ := Bool.and_eq_true_iff.mp h1
    obtain ⟨h1, h2⟩ := Bool.and_eq_true_iff.mp h1
    obtain rfl := Nat.eq_of_beq_eq_true h1
    obtain rfl := Nat.eq_of_beq_eq_true h2
    have h3 := of_decide_eq_true h3
    have h4 : k < c.maxLocals := by rw [hml]; exact Nat.le_of_ble_eq_true h4
    obtain ⟨j, hj⟩ := List.mem_iff_getElem?.mp (am_ls_mem.mpr ⟨_, hv, rfl⟩ : (k, am_cv (am_ad B ra) (.int x)) ∈ am_ls (am_ad B ra) ls)
    exact lv_iinc (v := x + v) hx hb hdec hL hj (by rw [h3]) h4 rfl (fun LS' h' => kk LS' (am_set1 rfl h'))
  | _ => exact absurd (show false = true from hok0) (by decide)
theorem am_t3 (hent : am_ent mid pc = some (3, i, len, imm, a, b, ew, sw)) (hal : am_alu i st = some st') (hn : am_WW X B ra D d mid (pc + len) ls st' lay I J res) : am_WW X B ra D d mid pc ls st lay I J res := by
  obtain ⟨me, hme, hdec0, hok0⟩ := am_ok_of hent
  have hdec : decode me.2.1 pc = .ok (i, len) := hdec0
  have hok : Nat.beq len 1 = true := hok0
  obtain rfl := Nat.eq_of_beq_eq_true hok
  refine am_same hn fun p l e R s m args below meth c me' H locs LS cells slots Q hC hG hd hH hS hL kk => ?_
  obtain ⟨hme', hx, hb, hml, hown, hts, hr, hin, hlk⟩ := hC
  obtain rfl := am_me hme hme'
  have kk := kk LS hL
  unfold am_alu at hal
  split at hal
  · cases hal; exact lv_iadd hx hb hdec kk
  · cases hal; exact lv_isub hx hb hdec kk
  · cases hal; exact lv_imul hx hb hdec kk
  · cases hal; exact lv_iand hx hb hdec kk
  · cases hal; exact lv_ior hx hb hdec kk
  · cases hal; exact lv_ixor hx hb hdec kk
  · cases hal; exact lv_ishl hx hb hdec kk
  · cases hal; exact lv_ishr hx hb hdec kk
  · cases hal; exact lv_iushr hx hb hdec rfl kk
  · split at hal
    · cases hal
    · rename_i hne; cases hal; exact lv_idiv hx hb hdec hne kk
  · split at hal
    · cases hal
    · rename_i hne; cases hal; exact lv_irem hx hb hdec hne kk
  · cases hal; exact lv_land hx hb hdec kk
  · cases hal; exact lv_lor hx hb hdec kk
  · cases hal; exact lv_lshl hx hb hdec rfl kk
  · cases hal; exact lv_lshr hx hb hdec rfl kk
  · cases hal; exact lv_lushr hx hb hdec rfl kk
  · cases hal; exact W.lcmp hx hb hdec kk
  · cases hal; exact lv_i2l hx hb hdec rfl kk
  · cases hal; exact lv_l2i hx hb hdec rfl kk
  · cases hal; exact lv_i2b hx hb hdec rfl kk
  · obtain ⟨hc, hal⟩ := am_bif hal
    cases hal
    exact lv_dup hx hb hdec (by rw [am_cv_cat]; exact Nat.eq_of_beq_eq_true hc) kk
  · obtain ⟨hc, hal⟩ := am_bif hal
    cases hal
    obtain ⟨hc1, hc2⟩ := Bool.and_eq_true_iff.mp hc
    exact lv_dup2_11 hx hb hdec (by rw [am_cv_cat]; exact Nat.eq_of_beq_eq_true hc1) (by rw [am_cv_cat]; exact Nat.eq_of_beq_eq_true hc2) kk
  · cases hal
end
