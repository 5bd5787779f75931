/-! Integer.bitCount -/
theorem and_cat {A X m M : Nat} (hA : A < 256) (hm : m < 256) : (A + 256 * X) &&& (m + 256 * M) = (A &&& m) + 256 * (X &&& M) := by
  have h1 := Nat.and_mod_two_pow (a := A + 256 * X) (b := m + 256 * M) (n := 8)
  have h2 := Nat.and_div_two_pow (a := A + 256 * X) (b := m + 256 * M) (n := 8)
  rw [show (A + 256 * X) % 2 ^ 8 = A by omega, show (m + 256 * M) % 2 ^ 8 = m by omega] at h1
  rw [show (A + 256 * X) / 2 ^ 8 = X by omega, show (m + 256 * M) / 2 ^ 8 = M by omega] at h2
  omega
theorem and_3 {A B C m : Nat} (hA : A < 256) (hB : B < 256) (hC : C < 256) (hm : m < 256) : (A + 256 * (B + 256 * C)) &&& (m + 256 * (m + 256 * (m + 256 * m))) = (A &&& m) + 256 * ((B &&& m) + 256 * (C &&& m)) := by
  rw [and_cat hA hm, and_cat hB hm]
  have h := and_cat (X := 0) (M := m) hC hm
  rw [Nat.mul_zero, Nat.add_zero, Nat.zero_and, Nat.mul_zero, Nat.add_zero] at h
  rw [h]
def bc1 (a : Nat) : Nat := a - ((a / 2) &&& 85)
def bc2 (a : Nat) : Nat := (a &&& 51) + ((a / 4) &&& 51)
theorem bc_d1 : ∀ a, a < 256 → ∀ r, r < 2 → (a / 2 + 128 * r) &&& 85 = (a / 2) &&& 85 := by decide +kernel
theorem bc_d1b : ∀ a, a < 256 → (a / 2) &&& 85 ≤ a := by decide +kernel
theorem bc_d2 : ∀ a, a < 256 → ∀ r, r < 4 → (a / 4 + 64 * r) &&& 51 = (a / 4) &&& 51 := by decide +kernel
theorem bc_d3 : ∀ a, a < 256 → bc2 (bc1 a) ≤ 68 ∧ bc2 (bc1 a) % 16 ≤ 4 ∧ (bc2 (bc1 a) + bc2 (bc1 a) / 16) % 16 = fb_ct (fun k => a.testBit k) 8 ∧ fb_ct (fun k => a.testBit k) 8 ≤ 8 := by decide +kernel
def bcN (u : Nat) : Nat :=
  let s1 := u - ((u / 2) &&& 1431655765)
  let s2 := (s1 &&& 858993459) + ((s1 / 4) &&& 858993459)
  let s3 := (s2 + s2 / 16) &&& 252645135
  let s4 := s3 + s3 / 256
  (s4 + s4 / 65536) &&& 63
theorem bc_1 {a b c : Nat} (ha : a < 256) (hb : b < 256) (hc : c < 256) : (a + 256 * (b + 256 * c)) - (((a + 256 * (b + 256 * c)) / 2) &&& 1431655765) = bc1 a + 256 * (bc1 b + 256 * bc1 c) := by
  have e : (a + 256 * (b + 256 * c)) / 2 = (a / 2 + 128 * (b % 2)) + 256 * ((b / 2 + 128 * (c % 2)) + 256 * (c / 2)) := by omega
  have e2 := and_3 (A := a / 2 + 128 * (b % 2)) (B := b / 2 + 128 * (c % 2)) (C := c / 2) (m := 85) (by omega) (by omega) (by omega) (by omega)
  rw [e, show (1431655765 : Nat) = 85 + 256 * (85 + 256 * (85 + 256 * 85)) by decide, e2, bc_d1 a ha _ (by omega), bc_d1 b hb _ (by omega)]
  have h1 := bc_d1b a ha
  have h2 := bc_d1b b hb
  have h3 := bc_d1b c hc
  unfold bc1
  omega
theorem bc_2 {a b c : Nat} (ha : a < 256) (hb : b < 256) (hc : c < 256) : ((a + 256 * (b + 256 * c)) &&& 858993459) + (((a + 256 * (b + 256 * c)) / 4) &&& 858993459) = bc2 a + 256 * (bc2 b + 256 * bc2 c) := by
  have e : (a + 256 * (b + 256 * c)) / 4 = (a / 4 + 64 * (b % 4)) + 256 * ((b / 4 + 64 * (c % 4)) + 256 * (c / 4)) := by omega
  have e1 := and_3 (m := 51) ha hb hc (by omega)
  have e2 := and_3 (A := a / 4 + 64 * (b % 4)) (B := b / 4 + 64 * (c % 4)) (C := c / 4) (m := 51) (by omega) (by omega) (by omega) (by omega)
  rw [e, show (858993459 : Nat) = 51 + 256 * (51 + 256 * (51 + 256 * 51)) by decide, e1, e2, bc_d2 a ha _ (by omega), bc_d2 b hb _ (by omega)]
  unfold bc2
  omega
theorem bc_15 (x : Nat) : x &&& 15 = x % 16 := Nat.and_two_pow_sub_one_eq_mod x 4
theorem bcN_e {u : Nat} (hu : u < 2 ^ 24) : bcN u = fb_ct (fun z => u.testBit z) 24 := by
  obtain ⟨a, b, c, ha, hb, hc, rfl⟩ : ∃ a b c, a < 256 ∧ b < 256 ∧ c < 256 ∧ u = a + 256 * (b + 256 * c) := ⟨u % 256, u / 256 % 256, u / 65536, by omega, by omega, by omega, by omega⟩
  obtain ⟨a1, a2, a3, a4⟩ := bc_d3 a ha
  obtain ⟨b1, b2, b3, b4⟩ := bc_d3 b hb
  obtain ⟨c1, c2, c3, c4⟩ := bc_d3 c hc
  have h1 : ∀ x, x < 256 → bc1 x < 256 := fun x hx => by unfold bc1; omega
  have hct : fb_ct (fun z => (a + 256 * (b + 256 * c)).testBit z) 24 = fb_ct (fun k => a.testBit k) 8 + (fb_ct (fun k => b.testBit k) 8 + fb_ct (fun k => c.testBit k) 8) := by
    have s1 := fb_ct_split (fun z => (a + 256 * (b + 256 * c)).testBit z) 8 16
    have s2 := fb_ct_split (fun z => (a + 256 * (b + 256 * c)).testBit (8 + z)) 8 8
    have q1 : fb_ct (fun z => (a + 256 * (b + 256 * c)).testBit z) 8 = fb_ct (fun k => a.testBit k) 8 := fb_ct_cong (fun k hk => by
      have e : (a + 256 * (b + 256 * c)) % 2 ^ 8 = a := by omega
      rw [← e, Nat.testBit_mod_two_pow, decide_eq_true hk, Bool.true_and, e])
    have q2 : fb_ct (fun z => (a + 256 * (b + 256 * c)).testBit (8 + z)) 8 = fb_ct (fun k => b.testBit k) 8 := fb_ct_cong (fun k hk => by
      have e : (a + 256 * (b + 256 * c)) / 2 ^ 8 = b + 256 * c := by omega
      have e2 : (b + 256 * c) % 2 ^ 8 = b := by omega
      rw [Nat.add_comm 8 k, ← Nat.testBit_div_two_pow, e, ← e2, Nat.testBit_mod_two_pow, decide_eq_true hk, Bool.true_and, e2])
    have q3 : fb_ct (fun k => (a + 256 * (b + 256 * c)).testBit (8 + (8 + k))) 8 = fb_ct (fun k => c.testBit k) 8 := fb_ct_cong (fun k hk => by
      have e : (a + 256 * (b + 256 * c)) / 2 ^ 16 = c := by omega
      rw [show 8 + (8 + k) = k + 16 by omega, ← Nat.testBit_div_two_pow, e])
    rw [show (24 : Nat) = 8 + 16 by decide, s1, q1, show (16 : Nat) = 8 + 8 by decide, s2, q2, q3]
  unfold bcN
  dsimp only
  rw [hct, bc_1 ha hb hc, bc_2 (h1 a ha) (h1 b hb) (h1 c hc)]
  generalize fb_ct (fun k => a.testBit k) 8 = ga at *
  generalize fb_ct (fun k => b.testBit k) 8 = gb at *
  generalize fb_ct (fun k => c.testBit k) 8 = gc at *
  generalize bc2 (bc1 a) = A at *
  generalize bc2 (bc1 b) = B at *
  generalize bc2 (bc1 c) = C at *
  have e3 : (A + 256 * (B + 256 * C) + (A + 256 * (B + 256 * C)) / 16) &&& 252645135 = ga + 256 * (gb + 256 * gc) := by
    have e : A + 256 * (B + 256 * C) + (A + 256 * (B + 256 * C)) / 16 = (A + A / 16 + 16 * (B % 16)) + 256 * ((B + B / 16 + 16 * (C % 16)) + 256 * (C + C / 16)) := by omega
    have e2 := and_3 (A := A + A / 16 + 16 * (B % 16)) (B := B + B / 16 + 16 * (C % 16)) (C := C + C / 16) (m := 15) (by omega) (by omega) (by omega) (by omega)
    rw [e, show (252645135 : Nat) = 15 + 256 * (15 + 256 * (15 + 256 * 15)) by decide, e2, bc_15, bc_15, bc_15]
    omega
  rw [e3]
  have e63 : ∀ x : Nat, x &&& 63 = x % 64 := fun x => Nat.and_two_pow_sub_one_eq_mod x 6
  rw [e63]
  clear e3 e63 hct h1 a1 a2 b1 b2 c1 c2 hu
  have f1 : (ga + 256 * (gb + 256 * gc)) / 256 = gb + 256 * gc := by omega
  rw [f1]
  have f2 : (ga + 256 * (gb + 256 * gc) + (gb + 256 * gc)) / 65536 = gc := by omega
  rw [f2]
  omega
section
variable {L : Nat} {xs : Nat → Int32} {d : Nat} {P : Option Value → am_I → am_J → Prop} {I : am_I} {J : am_J} {u : Nat}
theorem bitcount_c (hu : u < 2 ^ 24) (h : P (some (.int (nI (fb_ct (fun z => u.testBit z) 24)))) I J) : am_To (am_XX L xs) d 71 0 [some (.int (nI u))] [] I J P := by
  rw [← bcN_e hu] at h
  have hle : (u / 2) &&& 1431655765 ≤ u := Nat.le_trans Nat.and_le_left (Nat.div_le_self u 2)
  have sh : ∀ (n : Nat), n < 2 ^ 32 → ∀ (s : Int32) (k : Nat), s = nI k → k < 32 → ((nI n).toUInt32 >>> (s.toUInt32 &&& Int32.toUInt32 31)).toInt32 = nI (n / 2 ^ k) := fun n hn s k e hk => by
    rw [e]
    exact pk_ushrN hn (nI k) k (s_u k hk)
  have e1 : nI u - ((((nI u).toUInt32 >>> ((1 : Int32).toUInt32 &&& Int32.toUInt32 31)).toInt32) &&& (1431655765 : Int32)) = nI (u - ((u / 2) &&& 1431655765)) := by
    rw [sh u (by omega) 1 1 rfl (by omega), show (1431655765 : Int32) = nI 1431655765 from rfl, fa_and]
    exact pk_sub hle
  refine bk_71_0 _ I J ?_
  rw [e1]
  have h1 : u - ((u / 2) &&& 1431655765) < 2 ^ 24 := by omega
  unfold bcN at h
  dsimp only at h
  generalize u - ((u / 2) &&& 1431655765) = s1 at *
  have e2 : (nI s1 &&& (858993459 : Int32)) + ((((nI s1).toUInt32 >>> ((2 : Int32).toUInt32 &&& Int32.toUInt32 31)).toInt32) &&& (858993459 : Int32)) = nI ((s1 &&& 858993459) + ((s1 / 4) &&& 858993459)) := by
    rw [sh s1 (by omega) 2 2 rfl (by omega), show (858993459 : Int32) = nI 858993459 from rfl, fa_and, fa_and, nI_add]
  rw [e2]
  have h2 : (s1 &&& 858993459) + ((s1 / 4) &&& 858993459) < 2 ^ 25 := by
    have q1 : s1 &&& 858993459 ≤ s1 := Nat.and_le_left
    have q2 : (s1 / 4) &&& 858993459 ≤ s1 / 4 := Nat.and_le_left
    omega
  generalize (s1 &&& 858993459) + ((s1 / 4) &&& 858993459) = s2 at *
  have e3 : (nI s2 + (((nI s2).toUInt32 >>> ((4 : Int32).toUInt32 &&& Int32.toUInt32 31)).toInt32)) &&& (252645135 : Int32) = nI ((s2 + s2 / 16) &&& 252645135) := by
    rw [sh s2 (by omega) 4 4 rfl (by omega), nI_add, show (252645135 : Int32) = nI 252645135 from rfl, fa_and]
  rw [e3]
  have h3 : (s2 + s2 / 16) &&& 252645135 < 2 ^ 26 := by
    have q1 : (s2 + s2 / 16) &&& 252645135 ≤ s2 + s2 / 16 := Nat.and_le_left
    omega
  generalize (s2 + s2 / 16) &&& 252645135 = s3 at *
  have e4 : nI s3 + (((nI s3).toUInt32 >>> ((8 : Int32).toUInt32 &&& Int32.toUInt32 31)).toInt32) = nI (s3 + s3 / 256) := by
    rw [sh s3 (by omega) 8 8 rfl (by omega), nI_add]
  rw [e4]
  have h4 : s3 + s3 / 256 < 2 ^ 27 := by omega
  generalize s3 + s3 / 256 = s4 at *
  rw [sh s4 (by omega) 16 16 rfl (by omega), nI_add, show (63 : Int32) = nI 63 from rfl, fa_and]
  exact h
end
