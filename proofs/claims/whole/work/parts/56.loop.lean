/-! THE LAW'S LOOP, and the end of the proof -/
def lw_sw (x : Int32) : Nat := am_sw 832 x [(0, 136), (1, 199), (2, 222), (3, 245), (4, 268), (5, 291), (6, 324), (7, 387), (8, 430), (9, 493), (10, 516), (11, 549), (12, 582), (13, 615), (14, 648), (15, 681), (16, 714), (17, 737), (18, 750), (19, 773), (20, 786), (21, 809)]
theorem sw_law : ∀ k, k < 32 → lw_sw (nI k) = ([136, 199, 222, 245, 268, 291, 324, 387, 430, 493, 516, 549, 582, 615, 648, 681, 714, 737, 750, 773, 786, 809] : List Nat).getD k 832 := by decide +kernel
section
variable {L : Nat} {xs : Nat → Int32} {P : Option Value → am_I → am_J → Prop}
theorem law_lp (hL : L ≤ 3072) (hP : ∀ I J, P (some (.int 1)) I J) : ∀ (m i : Nat) (n : Nat) (b : Nat → Nat) (w : Nat) (v : Nat → Nat) (th : Nat → Bool) (sn : Nat → Nat) (S : Nat → Nat → Nat → Nat) (kp : KP) (I : am_I) (J : am_J), L < i + 6 * (m + 1) → i ≤ L + 6 → AVv n b w v th sn S kp → CL n b w v th sn S kp I J → MO n b w v th sn S kp I J → am_To (am_XX L xs) 40 147 18 [some (.ref 1000), some (.ref 0), some (.ref 95), some (.int (nI i))] [] I J P := by
  intro m
  induction m with
  | zero =>
    intro i n b w v th sn S kp I J h1 h2 hA hC hM
    refine bk_147_18 _ I J (i_t ?_ (hP I J))
    rw [Int32.lt_iff_toInt_lt, nI_toInt (by omega)]
    have e : (Int32.ofNat L - (6 : Int32)).toInt = (L : Int) - 6 := pk_sub_toInt (a := L) (b := 6) (by omega) (by omega)
    rw [e]
    omega
  | succ m ih =>
    intro i n b w v th sn S kp I J h1 h2 hA hC hM
    have e : (Int32.ofNat L - (6 : Int32)).toInt = (L : Int) - 6 := pk_sub_toInt (a := L) (b := 6) (by omega) (by omega)
    have ec : Int32.ofNat L - (6 : Int32) < nI i ↔ L < i + 6 := by
      rw [Int32.lt_iff_toInt_lt, nI_toInt (by omega), e]
      omega
    refine bk_147_18 _ I J (i_c ec (fun _ => hP I J) (fun c => x_i i rfl ?_))
    have hi : i + 6 ≤ L := by omega
    have G : LawG L xs i P := fun n b w v th sn S kp I J hA hC hM => ih (i + 6) n b w v th sn S kp I J (by omega) (by omega) hA hC hM
    obtain ⟨k, hk, ek⟩ := pk_andE (xs i) (m := 31) 5 (by decide)
    rw [ek]
    show am_To (am_XX L xs) 40 147 (lw_sw (nI k)) [some (.ref 1000), some (.ref 0), some (.ref 95), some (.int (nI i))] [] I J P
    rw [sw_law k hk]
    match k, hk with
    | 0, _ => exact st_feed hi hL G hA hC hM
    | 1, _ => exact st_text hi hL G hA hC hM
    | 2, _ => exact st_back hi hL G hA hC hM
    | 3, _ => exact st_signs hi hL G hA hC hM
    | 4, _ => exact st_word hi hL G hA hC hM
    | 5, _ => exact st_letter hi hL G hA hC hM
    | 6, _ => exact st_say hi hL G hA hC hM
    | 7, _ => exact st_weight hi hL G hA hC hM
    | 8, _ => exact st_reason hi hL G hA hC hM
    | 9, _ => exact st_parent hi hL G hA hC hM
    | 10, _ => exact st_why hi hL G hA hC hM
    | 11, _ => exact st_above hi hL G hA hC hM
    | 12, _ => exact st_below hi hL G hA hC hM
    | 13, _ => exact st_meets hi hL G hA hC hM
    | 14, _ => exact st_way hi hL G hA hC hM
    | 15, _ => exact st_shared hi hL G hA hC hM
    | 16, _ => exact st_senses hi hL G hA hC hM
    | 17, _ => exact st_sum hi hL G hA hC hM
    | 18, _ => exact st_best hi hL G hA hC hM
    | 19, _ => exact st_keep G hA hC hM
    | 20, _ => exact st_over hi hL G hA hC hM
    | 21, _ => exact st_count hi hL G hA hC hM
    | k + 22, _ =>
      show am_To (am_XX L xs) 40 147 832 [some (.ref 1000), some (.ref 0), some (.ref 95), some (.int (nI i))] [] I J P
      refine bk_147_832 _ I J ?_
      rw [show nI i + (6 : Int32) = nI (i + 6) from e_i i 6]
      exact G _ _ _ _ _ _ _ _ I J hA hC hM
end
theorem am_claim_proof : am_claim := by
  intro L xs hL
  have hs : am_To (am_XX L xs) 40 147 18 [some (.ref 1000), some (.ref 0), some (.ref 95), some (.int 0)] [] (am_up (fun _ _ => 0) 0 7 1) (fun _ _ => 0) (fun r _ _ => r = some (.int 1)) := by
    refine law_lp hL (fun _ _ => rfl) L 0 0 (fun _ => 0) 0 (fun _ => 0) (fun _ => false) (fun _ => 0) (fun _ _ _ => 0) none _ _ (by omega) (by omega) ⟨⟨by decide, fun j hj => absurd hj (Nat.not_lt_zero j)⟩, ⟨by decide, fun j hj => absurd hj (Nat.not_lt_zero j)⟩, ⟨fun T hT => ⟨Nat.zero_le 40, fun _ => rfl, fun k hk => absurd hk (Nat.not_lt_zero k)⟩, by decide, fun k hk => absurd hk (Nat.not_lt_zero k)⟩, fun p hp => (by cases hp)⟩ ⟨⟨rfl, fun j hj => absurd hj (Nat.not_lt_zero j)⟩, ⟨rfl, fun j hj => absurd hj (Nat.not_lt_zero j)⟩, ⟨fun T hT => ⟨⟨?_, fun k hk => absurd hk (Nat.not_lt_zero k)⟩, rfl⟩, ⟨rfl, fun k hk => absurd hk (Nat.not_lt_zero k)⟩⟩, fun c hc => ?_, fun j hj => ⟨0, by decide, rfl, fun p => ?_⟩, fun q => absurd q (by decide), rfl⟩ ⟨⟨rfl, fun j hj => absurd hj (Nat.not_lt_zero j)⟩, ⟨rfl, fun j hj => absurd hj (Nat.not_lt_zero j)⟩, ⟨fun T hT => ⟨rfl, fun q => (by cases q)⟩, ⟨rfl, fun k hk => absurd hk (Nat.not_lt_zero k)⟩⟩, rfl⟩
    · have := gH_e T hT
      rw [am_up_h (by omega)]
      rfl
    · rw [am_up_h (by decide)]
      have e : WT (fun _ => 0) (fun _ _ _ => 0) c = 0 := rfl
      rw [e]
      rfl
    · rw [Nat.zero_testBit]
      refine ⟨fun q => (by cases q), fun q => ?_⟩
      obtain ⟨k, hk, -⟩ := q
      exact absurd hk (Nat.not_lt_zero k)
  obtain ⟨n, r, I', J', h1, h2⟩ := ct_law (X := am_XX L xs) (fun _ _ => 0) (fun _ _ => 0) hs
  exact ⟨n, I', J', by rw [h1, h2]⟩
theorem whole_start {p : Program} {e : Env} {s : State} {m : MethodId} {below : List Frame} {meth : Method} {c : Code} (l : Launch) {b L : Nat} {xs : Nat → Int32} (hL : L ≤ 3072) (C0 : lw_At p s m meth c b L xs) : W p l e room_1 s m #[Value.ref b] below meth c s.heap [] 0 0 (lw_Z below #[Value.ref b] s) (entryFrame m ([Value.ref b] : List Value).toArray 4) := whole_of am_claim_proof l hL C0
