/-! BITS (begun with rows of kit/laws/BITS.to-paste), longs, bytes, small words, words -/
def bt (x : Int32) (i : Nat) : Bool := x.toBitVec.getLsbD i
theorem b_ext {x y : Int32} (h : ∀ i, i < 32 → bt x i = bt y i) : x = y := Int32.toBitVec_inj.mp (BitVec.eq_of_getLsbD_eq (fun i hi => h i hi))
theorem b_and (x y : Int32) (i : Nat) : bt (x &&& y) i = (bt x i && bt y i) := by unfold bt; rw [Int32.toBitVec_and, BitVec.getLsbD_and]
theorem b_big {x : Int32} {i : Nat} (h : 32 ≤ i) : bt x i = false := BitVec.getLsbD_of_ge _ _ h
theorem b_255 (i : Nat) : bt 255 i = decide (i < 8) := by
  rcases Nat.lt_or_ge i 32 with h | h
  · exact (by decide +kernel : ∀ i, i < 32 → bt 255 i = decide (i < 8)) i h
  · rw [b_big h, decide_eq_false (by omega)]
theorem b_ushr (n : Nat) (hn : n < 32) (x : Int32) (i : Nat) : bt ((x.toUInt32 >>> ((nI n).toUInt32 &&& Int32.toUInt32 31)).toInt32) i = bt x (n + i) := by
  show (x.toUInt32 >>> ((nI n).toUInt32 &&& Int32.toUInt32 31)).toBitVec.getLsbD i = x.toUInt32.toBitVec.getLsbD (n + i)
  rw [UInt32.toBitVec_shiftRight]
  show (x.toUInt32.toBitVec >>> (((nI n).toUInt32 &&& Int32.toUInt32 31).toBitVec % 32).toNat).getLsbD i = _
  rw [s_u n hn, BitVec.getLsbD_ushiftRight]
theorem b_sshr (n : Nat) (hn : n < 32) (x : Int32) {i : Nat} (hi : i < 32) : bt (x >>> (nI n &&& 31)) i = if n + i < 32 then bt x (n + i) else bt x 31 := by
  unfold bt
  rw [Int32.toBitVec_shiftRight]
  show (x.toBitVec.sshiftRight ((nI n &&& 31).toBitVec.smod 32).toNat).getLsbD i = _
  rw [s_l n hn, BitVec.getLsbD_sshiftRight, BitVec.msb_eq_getLsbD_last]
  simp [hi]
theorem fb_maskL (n k : Nat) : lN n &&& lN (2 ^ k - 1) = lN (n % 2 ^ k) := by rw [fb_andL, Nat.and_two_pow_sub_one_eq_mod]
theorem fa_byte_low (x : Int32) : (x &&& 255).toInt8 = x.toInt8 := by
  apply Int8.toBitVec_inj.1
  apply BitVec.eq_of_getLsbD_eq
  intro i hi
  have h2 : (255 : Int32).toBitVec.getLsbD i = true := by
    have : ∀ j : Fin 8, (255 : Int32).toBitVec.getLsbD j.val = true := by decide +kernel
    exact this ⟨i, hi⟩
  have h4 : (x &&& 255).toBitVec.getLsbD i = x.toBitVec.getLsbD i := by
    show (x.toBitVec &&& (255 : Int32).toBitVec).getLsbD i = _
    rw [BitVec.getLsbD_and, h2, Bool.and_true]
  have h3 : i < 32 := by omega
  first
    | (show (((x &&& 255).toBitVec).signExtend 8).getLsbD i = (x.toBitVec.signExtend 8).getLsbD i; rw [BitVec.getLsbD_signExtend, BitVec.getLsbD_signExtend, if_pos h3, if_pos h3, h4])
    | (show (((x &&& 255).toBitVec).setWidth 8).getLsbD i = (x.toBitVec.setWidth 8).getLsbD i; rw [BitVec.getLsbD_setWidth, BitVec.getLsbD_setWidth, h4])
    | (simp [hi, h3, h4]; done)
theorem fa_byte_small {n : Nat} (h : n < 128) : (nI n).toInt8.toInt32 = nI n := by
  have : ∀ j : Fin 128, (nI j.val).toInt8.toInt32 = nI j.val := by decide +kernel
  exact this ⟨n, h⟩
theorem l_tn {n : Nat} (h : n < 2 ^ 64) : (lN n).toBitVec.toNat = n := Nat.mod_eq_of_lt h
theorem s_uL : ∀ n, n < 64 → (((nI n).toInt64.toUInt64 &&& Int64.toUInt64 63).toBitVec % 64).toNat = n := by decide +kernel
theorem s_lL : ∀ n, n < 64 → (((nI n).toInt64 &&& 63).toBitVec.smod 64).toNat = n := by decide +kernel
theorem l_ushrN {n : Nat} (hn : n < 2 ^ 64) {k : Nat} (hk : k < 64) : ((lN n).toUInt64 >>> ((nI k).toInt64.toUInt64 &&& Int64.toUInt64 63)).toInt64 = lN (n / 2 ^ k) := by
  apply Int64.toBitVec_inj.mp
  apply BitVec.eq_of_toNat_eq
  have e : ((lN n).toUInt64 >>> ((nI k).toInt64.toUInt64 &&& Int64.toUInt64 63)).toInt64.toBitVec = (lN n).toBitVec >>> (((nI k).toInt64.toUInt64 &&& Int64.toUInt64 63).toBitVec % 64).toNat := UInt64.toBitVec_shiftRight _ _
  rw [e, s_uL k hk, BitVec.toNat_ushiftRight, Nat.shiftRight_eq_div_pow, l_tn hn, l_tn (Nat.lt_of_le_of_lt (Nat.div_le_self _ _) hn)]
theorem l_shlN {n : Nat} {k : Nat} (hk : k < 64) (h : n * 2 ^ k < 2 ^ 64) : lN n <<< ((nI k).toInt64 &&& 63) = lN (n * 2 ^ k) := by
  apply Int64.toBitVec_inj.mp
  apply BitVec.eq_of_toNat_eq
  have hn : n < 2 ^ 64 := Nat.lt_of_le_of_lt (Nat.le_mul_of_pos_right n (Nat.two_pow_pos k)) h
  show ((lN n).toBitVec <<< (((nI k).toInt64 &&& 63).toBitVec.smod 64).toNat).toNat = _
  rw [s_lL k hk, BitVec.toNat_shiftLeft, Nat.shiftLeft_eq, l_tn hn, l_tn h, Nat.mod_eq_of_lt h]
theorem l_shrN {n : Nat} (h : n < 2 ^ 63) {k : Nat} (hk : k < 64) : lN n >>> ((nI k).toInt64 &&& 63) = lN (n / 2 ^ k) := by
  apply Int64.toInt_inj.mp
  have h2 : n / 2 ^ k ≤ n := Nat.div_le_self _ _
  show ((lN n).toBitVec.sshiftRight (((nI k).toInt64 &&& 63).toBitVec.smod 64).toNat).toInt = _
  rw [s_lL k hk, BitVec.toInt_sshiftRight, show (lN n).toBitVec.toInt = (lN n).toInt from rfl, pk_lT h, pk_lT (by omega), Int.shiftRight_eq_div_pow]
  rfl
theorem l_cat {p c : Nat} (hc : c < 256) (hp : p < 2 ^ 56) : (lN p <<< ((8 : Int32).toInt64 &&& 63)) ||| (nI c).toInt64 = lN (p * 256 + c) := by
  have e := l_shlN (n := p) (k := 8) (by decide) (by omega)
  have e2 : lN p <<< ((8 : Int32).toInt64 &&& 63) = lN (p * 2 ^ 8) := e
  rw [e2, nI_l (by omega), fb_orL, Nat.mul_comm p (2 ^ 8), ← Nat.two_pow_add_eq_or_of_lt (i := 8) (by omega) p]
theorem l_eq0 {p : Nat} (hp : p < 2 ^ 63) : lg_cmp (lN p) 0 = 0 ↔ p = 0 := by
  rw [lg_cmp_0]
  exact pk_lEQ hp (by decide)
/-- a byte of the tape, as the reference holds it -/
def sx (b : Nat) : Int32 := (nI b).toInt8.toInt32
theorem sx_lo : ∀ b, b < 256 → (sx b < 97 ↔ b < 97 ∨ 128 ≤ b) := by decide +kernel
theorem sx_hi : ∀ b, b < 256 → (122 < sx b ↔ 122 < b ∧ b < 128) := by decide +kernel
theorem sx_32 : ∀ b, b < 256 → (sx b = 32 ↔ b = 32) := by decide +kernel
theorem sx_10 : ∀ b, b < 256 → (sx b = 10 ↔ b = 10) := by decide +kernel
def by_n (x : Int32) (s : Nat) : Nat := x.toBitVec.toNat / 2 ^ s % 256
theorem by_c_e (x : Int32) {s : Nat} (hs : s < 32) : by_c x (nI s) = nI (by_n x s) := by
  unfold by_c by_n
  rw [pk_and _ 8 (by decide), pk_ushr x (nI s) s (s_u s hs)]
theorem by_m_e (x : Int32) {s : Nat} (hs : s ≤ 24) : by_m x (nI s) = sx (by_n x s) := by
  unfold by_m sx
  rw [pk_vb, ← by_c_e x (by omega), ← fa_byte_low, show by_c x (nI s) = (x >>> (nI s &&& 31)) &&& 255 from ?_]
  unfold by_c
  apply b_ext
  intro i hi
  rw [b_and, b_and, b_255, b_ushr s (by omega), b_sshr s (by omega) x hi]
  by_cases h : i < 8
  · rw [if_pos (by omega)]
  · rw [decide_eq_false h, Bool.and_false, Bool.and_false]
def by_n4 (x : Int32) : List Nat := [by_n x 24, by_n x 16, by_n x 8, by_n x 0]
def by_n20 (x1 x2 x3 x4 x5 : Int32) : List Nat := by_n4 x1 ++ (by_n4 x2 ++ (by_n4 x3 ++ (by_n4 x4 ++ by_n4 x5)))
theorem by_c4_e (x : Int32) : by_c4 x = (by_n4 x).map nI := by
  have h1 : by_c x 24 = nI (by_n x 24) := by_c_e x (by decide)
  have h2 : by_c x 16 = nI (by_n x 16) := by_c_e x (by decide)
  have h3 : by_c x 8 = nI (by_n x 8) := by_c_e x (by decide)
  have h4 : by_c x 0 = nI (by_n x 0) := by_c_e x (by decide)
  unfold by_c4 by_n4
  rw [h1, h2, h3, h4]
  rfl
theorem by_m4_e (x : Int32) : by_m4 x = (by_n4 x).map sx := by
  have h1 : by_m x 24 = sx (by_n x 24) := by_m_e x (by decide)
  have h2 : by_m x 16 = sx (by_n x 16) := by_m_e x (by decide)
  have h3 : by_m x 8 = sx (by_n x 8) := by_m_e x (by decide)
  have h4 : by_m x 0 = sx (by_n x 0) := by_m_e x (by decide)
  unfold by_m4 by_n4
  rw [h1, h2, h3, h4]
  rfl
theorem by_c20_e (x1 x2 x3 x4 x5 : Int32) : by_c20 x1 x2 x3 x4 x5 = (by_n20 x1 x2 x3 x4 x5).map nI := by
  unfold by_c20 by_n20
  simp only [by_c4_e, List.map_append]
theorem by_m20_e (x1 x2 x3 x4 x5 : Int32) : by_m20 x1 x2 x3 x4 x5 = (by_n20 x1 x2 x3 x4 x5).map sx := by
  unfold by_m20 by_n20
  simp only [by_m4_e, List.map_append]
theorem by_n20_lt {x1 x2 x3 x4 x5 : Int32} : ∀ b ∈ by_n20 x1 x2 x3 x4 x5, b < 256 := by
  intro b hb
  unfold by_n20 by_n4 at hb
  simp only [List.mem_append, List.mem_cons, List.not_mem_nil, or_false] at hb
  have h : ∀ x s, by_n x s < 256 := fun x s => Nat.mod_lt _ (by decide)
  rcases hb with (h' | h' | h' | h') | (h' | h' | h' | h') | (h' | h' | h' | h') | (h' | h' | h' | h') | (h' | h' | h' | h') <;> (rw [h']; exact h _ _)
/-- the small words -/
def swd (k : Nat) : Nat := ([1937073000, 24947, 6385252, 478694368626, 26995, 97, 1802071652, 28518, 1885434484, 28530] : List Nat).getD k 0
def mb (p : Nat) : Prop := p ≠ 0 ∧ ∀ k, k < 10 → p ≠ swd k
theorem swd_lt : ∀ k, k < 10 → swd k < 2 ^ 63 := by decide
theorem s1_e : ∀ k, k < 10 → am_s1 k = lN (swd k)
  | 0, _ => rfl
  | 1, _ => rfl
  | 2, _ => rfl
  | 3, _ => rfl
  | 4, _ => rfl
  | 5, _ => rfl
  | 6, _ => rfl
  | 7, _ => rfl
  | 8, _ => rfl
  | 9, _ => rfl
  | _ + 10, h => absurd h (by omega)
theorem lg_cmp_ng {a b : Int64} : lg_cmp a b ≤ 0 ↔ ¬ a > b := by
  unfold lg_cmp
  by_cases h1 : a > b
  · rw [if_pos h1]
    exact ⟨fun z => absurd z (by decide), fun z => absurd h1 z⟩
  · rw [if_neg h1]
    refine ⟨fun _ => h1, fun _ => ?_⟩
    by_cases h2 : a = b
    · rw [if_pos h2]
      decide
    · rw [if_neg h2]
      decide
section
variable {L : Nat} {xs : Nat → Int32} {d : Nat} {P : Option Value → am_I → am_J → Prop} {I : am_I} {J : am_J} {p w : Nat} {v : Nat → Nat}
theorem mayc_lp {q : Int64} (h0 : ¬ ((∀ k, k < 10 → q ≠ am_s1 k) ∧ q > 0) → P (some (.int 0)) I J) (h1 : (∀ k, k < 10 → q ≠ am_s1 k) ∧ q > 0 → P (some (.int 1)) I J) : ∀ (m i : Nat), i + m = 10 → (∀ k, k < i → q ≠ am_s1 k) → am_To (am_XX L xs) d 22 10 [some (.long q), none, some (.ref 1001), some (.int (nI 10)), some (.int (nI i)), none, none] [] I J P := by
  intro m
  induction m with
  | zero =>
    intro i hi hno
    have e : i = 10 := by omega
    subst e
    refine bk_22_10 q (nI 10) (nI 10) I J (i_t (nI_le (Nat.le_refl 10) (by omega)) (i_c lg_cmp_ng (fun c => h0 (fun z => c z.2)) (fun c => h1 ⟨hno, Classical.not_not.mp c⟩)))
  | succ m ih =>
    intro i hi hno
    refine bk_22_10 q (nI 10) (nI i) I J (i_f (nI_ge (show i < 10 by omega) (by omega)) (x_i i rfl (i_c lg_cmp_0 (fun c => h0 (fun z => z.1 i (by omega) c)) (fun c => ?_))))
    rw [nI_1]
    refine ih (i + 1) (by omega) (fun k hk => ?_)
    by_cases e : k = i
    · subst e
      exact c
    · exact hno k (by omega)
theorem mayc_all {q : Int64} (hp : p < 2 ^ 63) (hq : q = lN p ∨ (p = 0 ∧ q = -1)) (h0 : ¬ mb p → P (some (.int 0)) I J) (h1 : mb p → P (some (.int 1)) I J) : am_To (am_XX L xs) d 22 0 [some (.long q), none, none, none, none, none, none] [] I J P := by
  have key : ((∀ k, k < 10 → q ≠ am_s1 k) ∧ q > 0) ↔ mb p := by
    rcases hq with rfl | ⟨rfl, rfl⟩
    · constructor
      · intro h
        refine ⟨fun z => ?_, fun k hk z => h.1 k hk (by rw [s1_e k hk, z])⟩
        subst z
        exact absurd h.2 (by decide)
      · intro h
        refine ⟨fun k hk z => h.2 k hk ((pk_lEQ hp (swd_lt k hk)).mp (by rw [z, s1_e k hk])), ?_⟩
        exact (pk_lLT (a := 0) (b := p) (by decide) hp).mpr (Nat.pos_of_ne_zero h.1)
    · exact ⟨fun h => absurd h.2 (by decide), fun h => absurd rfl h.1⟩
  exact bk_22_0 q I J (mayc_lp (fun z => h0 (fun y => z (key.mpr y))) (fun z => h1 (key.mp z)) 10 0 rfl (fun k hk => absurd hk (by omega)))
theorem sw_no (hp : p < 2 ^ 63) (k : Nat) (hk : k < 10) (e : lN p = lN (swd k)) : ¬ mb p := fun z => z.2 k hk ((pk_lEQ hp (swd_lt k hk)).mp e)
theorem maym_all (hp : p < 2 ^ 63) (h0 : ¬ mb p → P (some (.int 0)) I J) (h1 : mb p → P (some (.int 1)) I J) : am_To (am_XX L xs) d 105 0 [some (.long (lN p)), none] [] I J P := by
  refine bk_105_0 (lN p) I J (i_c (l_eq0 hp) (fun e => h0 (fun z => z.1 e)) (fun en => ?_))
  refine i_c lg_cmp_0 (fun e => h0 (sw_no hp 0 (by decide) e)) (fun e0 => ?_)
  refine i_c lg_cmp_0 (fun e => h0 (sw_no hp 1 (by decide) e)) (fun e1 => ?_)
  refine i_c lg_cmp_0 (fun e => h0 (sw_no hp 2 (by decide) e)) (fun e2 => ?_)
  refine i_c lg_cmp_0 (fun e => h0 (sw_no hp 3 (by decide) e)) (fun e3 => ?_)
  refine i_c lg_cmp_0 (fun e => h0 (sw_no hp 4 (by decide) e)) (fun e4 => ?_)
  refine i_c lg_cmp_0 (fun e => h0 (sw_no hp 5 (by decide) e)) (fun e5 => ?_)
  refine i_c lg_cmp_0 (fun e => h0 (sw_no hp 6 (by decide) e)) (fun e6 => ?_)
  refine i_c lg_cmp_0 (fun e => h0 (sw_no hp 7 (by decide) e)) (fun e7 => ?_)
  refine i_c lg_cmp_0 (fun e => h0 (sw_no hp 8 (by decide) e)) (fun e8 => ?_)
  refine i_c lg_cmp_0 (fun e => h0 (sw_no hp 9 (by decide) e)) (fun e9 => ?_)
  refine h1 ⟨en, fun k hk z => ?_⟩
  subst z
  match k, hk with
  | 0, _ => exact e0 rfl
  | 1, _ => exact e1 rfl
  | 2, _ => exact e2 rfl
  | 3, _ => exact e3 rfl
  | 4, _ => exact e4 rfl
  | 5, _ => exact e5 rfl
  | 6, _ => exact e6 rfl
  | 7, _ => exact e7 rfl
  | 8, _ => exact e8 rfl
  | 9, _ => exact e9 rfl
  | k + 10, hk => exact absurd hk (by omega)
end
/-- words by their packs: where a pack stands, what comes of bringing it -/
def wf (v : Nat → Nat) (p : Nat) : Nat → Nat → Option Nat
  | _, 0 => none
  | i, m + 1 => if v i = p then some i else wf v p (i + 1) m
theorem wf_eq {f : Nat → Int64} {v : Nat → Nat} {p : Nat} (hp : p < 2 ^ 63) : ∀ (m i : Nat), (∀ j, j < i + m → f j = lN (v j) ∧ v j < 2 ^ 63) → wd_from f (lN p) i m = wf v p i m := by
  intro m
  induction m with
  | zero => intro i _; rfl
  | succ m ih =>
    intro i h
    show (if f i = lN p then some i else wd_from f (lN p) (i + 1) m) = if v i = p then some i else wf v p (i + 1) m
    obtain ⟨h1, h2⟩ := h i (by omega)
    rw [ih (i + 1) (fun j hj => h j (by omega)), h1]
    by_cases e : v i = p
    · rw [if_pos e, if_pos (by rw [e])]
    · rw [if_neg e, if_neg (fun z => e ((pk_lEQ h2 hp).mp z))]
theorem wf_some {v : Nat → Nat} {p k : Nat} : ∀ (m i : Nat), wf v p i m = some k → i ≤ k ∧ k < i + m ∧ v k = p := by
  intro m
  induction m with
  | zero => intro i h; cases h
  | succ m ih =>
    intro i h
    unfold wf at h
    by_cases e : v i = p
    · rw [if_pos e] at h
      cases h
      exact ⟨Nat.le_refl _, by omega, e⟩
    · rw [if_neg e] at h
      obtain ⟨h1, h2, h3⟩ := ih (i + 1) h
      exact ⟨by omega, by omega, h3⟩
def br_r (w : Nat) (v : Nat → Nat) (p : Nat) : Option Nat := match wf v p 0 w with
  | some k => some k
  | none => if w < 24 then some w else none
def br_w (w : Nat) (v : Nat → Nat) (p : Nat) : Nat := match wf v p 0 w with
  | some _ => w
  | none => if w < 24 then w + 1 else w
def br_v (w : Nat) (v : Nat → Nat) (p : Nat) : Nat → Nat := match wf v p 0 w with
  | some _ => v
  | none => if w < 24 then (fun i => if i = w then p else v i) else v
/-- the words: how many, their packs -/
def WV (w : Nat) (v : Nat → Nat) : Prop := w ≤ 24 ∧ ∀ i, i < w → 0 < v i ∧ v i < 2 ^ 63
theorem br_ok {w : Nat} {v : Nat → Nat} {p : Nat} (h : WV w v) (hp : 0 < p) (hp2 : p < 2 ^ 63) : WV (br_w w v p) (br_v w v p) ∧ w ≤ br_w w v p ∧ (∀ k, br_r w v p = some k → k < br_w w v p) := by
  unfold br_w br_v br_r
  cases hf : wf v p 0 w with
  | some k =>
    obtain ⟨-, h2, -⟩ := wf_some _ _ hf
    exact ⟨h, Nat.le_refl _, fun j hj => by cases hj; show k < w; omega⟩
  | none =>
    dsimp only
    by_cases hw : w < 24
    · rw [if_pos hw, if_pos hw, if_pos hw]
      refine ⟨⟨by omega, fun i hi => ?_⟩, by omega, fun k hk => by cases hk; omega⟩
      by_cases e : i = w
      · dsimp only
        rw [if_pos e]
        exact ⟨hp, hp2⟩
      · dsimp only
        rw [if_neg e]
        exact h.2 i (by omega)
    · rw [if_neg hw, if_neg hw, if_neg hw]
      exact ⟨h, Nat.le_refl _, fun k hk => by cases hk⟩
def WCc (w : Nat) (v : Nat → Nat) (I : am_I) (J : am_J) : Prop := I 3 1 = nI w ∧ ∀ i, i < w → J 4 i = lN (v i)
def WCm (w : Nat) (v : Nat → Nat) (I : am_I) (J : am_J) : Prop := I 95 2 = nI w ∧ ∀ i, i < w → J 97 i = lN (v i)
section
variable {L : Nat} {xs : Nat → Int32} {d : Nat} {P : Option Value → am_I → am_J → Prop} {I : am_I} {J : am_J} {p w : Nat} {v : Nat → Nat}
theorem bring_c (hv : WV w v) (hw : WCc w v I J) (hp : p < 2 ^ 63) (h : ∀ I' J', (∀ g, g ≠ 3 → I' g = I g) → (∀ g, g ≠ 4 → J' g = J g) → WCc (br_w w v p) (br_v w v p) I' J' → P (some (.int (oI (br_r w v p)))) I' J') : am_To (am_XX L xs) d 25 0 [some (.ref 3), some (.long (lN p)), none, none] [] I J P := by
  have e : wd_from (J 4) (lN p) 0 w = wf v p 0 w := wf_eq hp w 0 (fun j hj => ⟨hw.2 j (by omega), (hv.2 j (by omega)).2⟩)
  unfold br_w br_v br_r at h
  refine bring_all hw.1 hv.1 (fun k hk => ?_) (fun hn => ⟨fun hlt => ?_, fun hlt => ?_⟩)
  · rw [e] at hk
    rw [hk] at h
    exact h I J (fun _ _ => rfl) (fun _ _ => rfl) hw
  · rw [e] at hn
    rw [hn] at h
    dsimp only at h
    rw [if_pos hlt, if_pos hlt, if_pos hlt] at h
    refine h _ _ (fun g hg => am_up_row hg) (fun g hg => am_up_row hg) ⟨am_up_s, fun i hi => ?_⟩
    by_cases c : i = w
    · subst c
      dsimp only
      rw [am_up_s, if_pos rfl]
    · dsimp only
      rw [am_up_k c, if_neg c]
      exact hw.2 i (by omega)
  · rw [e] at hn
    rw [hn] at h
    dsimp only at h
    rw [if_neg hlt, if_neg hlt, if_neg hlt] at h
    exact h I J (fun _ _ => rfl) (fun _ _ => rfl) hw
theorem number_m (hv : WV w v) (hw : WCm w v I J) (hp : p < 2 ^ 63) (h : ∀ I' J', (∀ g, g ≠ 95 → I' g = I g) → (∀ j, j ≠ 2 → I' 95 j = I 95 j) → (∀ g, g ≠ 97 → J' g = J g) → WCm (br_w w v p) (br_v w v p) I' J' → P (some (.int (oI (br_r w v p)))) I' J') : am_To (am_XX L xs) d 108 0 [some (.ref 95), some (.long (lN p)), none, none] [] I J P := by
  have e : wd_from (J 97) (lN p) 0 w = wf v p 0 w := wf_eq hp w 0 (fun j hj => ⟨hw.2 j (by omega), (hv.2 j (by omega)).2⟩)
  unfold br_w br_v br_r at h
  refine number_all hw.1 hv.1 (fun k hk => ?_) (fun hn => ⟨fun hlt => ?_, fun hlt => ?_⟩)
  · rw [e] at hk
    rw [hk] at h
    exact h I J (fun _ _ => rfl) (fun _ _ => rfl) (fun _ _ => rfl) hw
  · rw [e] at hn
    rw [hn] at h
    dsimp only at h
    rw [if_pos hlt, if_pos hlt, if_pos hlt] at h
    refine h _ _ (fun g hg => am_up_row hg) (fun j hj => am_up_k hj) (fun g hg => am_up_row hg) ⟨am_up_s, fun i hi => ?_⟩
    by_cases c : i = w
    · subst c
      dsimp only
      rw [am_up_s, if_pos rfl]
    · dsimp only
      rw [am_up_k c, if_neg c]
      exact hw.2 i (by omega)
  · rw [e] at hn
    rw [hn] at h
    dsimp only at h
    rw [if_neg hlt, if_neg hlt, if_neg hlt] at h
    exact h I J (fun _ _ => rfl) (fun _ _ => rfl) (fun _ _ => rfl) hw
end
