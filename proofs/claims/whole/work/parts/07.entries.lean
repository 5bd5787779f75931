set_option maxRecDepth 100000
theorem am_seg {α : Type} (P : α × Nat → Bool) (c : List α) (n : Nat) (hn : c.length ≤ 4 * n) (h : ∀ k, k < n → (((c.drop (4 * k)).take 4).zipIdx (4 * k)).all P = true) : c.zipIdx.all P = true := by
  refine List.all_eq_true.mpr fun q hq => ?_
  have h1 := List.mem_zipIdx_iff_getElem?.mp hq
  have h2 : q.2 < c.length := (List.getElem?_eq_some_iff.mp h1).1
  have h3 := List.all_eq_true.mp (h (q.2 / 4) (by omega)) q
  refine h3 (List.mk_mem_zipIdx_iff_le_and_getElem?_sub.mpr ⟨by omega, ?_⟩)
  rw [List.getElem?_take_of_lt (by omega), List.getElem?_drop, ← h1]
  congr 1
  omega
theorem am_ch147 : am_chk 147 am_c147 = true := by
  show (am_c147.zipIdx.all fun q => q.1.all fun r => am_ok (⟨"WordTreeLaw", "law", "([I)Z"⟩, code, 4, some (.boolean)) (16 * q.2 + r.1) r.2) = true
  refine am_seg _ _ 14 (by decide) fun k hk => ?_
  match k, hk with
  | 0, _ => exact am_sg0
  | 1, _ => exact am_sg1
  | 2, _ => exact am_sg2
  | 3, _ => exact am_sg3
  | 4, _ => exact am_sg4
  | 5, _ => exact am_sg5
  | 6, _ => exact am_sg6
  | 7, _ => exact am_sg7
  | 8, _ => exact am_sg8
  | 9, _ => exact am_sg9
  | 10, _ => exact am_sg10
  | 11, _ => exact am_sg11
  | 12, _ => exact am_sg12
  | 13, _ => exact am_sg13
  | k + 14, hk => exact absurd hk (by omega)
theorem am_zip : am_CT.zipIdx = [(am_c0, 0), (am_c1, 1), (am_c2, 2), (am_c3, 3), (am_c4, 4), (am_c5, 5), (am_c6, 6), (am_c7, 7), (am_c8, 8), (am_c9, 9), (am_c10, 10), (am_c11, 11), (am_c12, 12), (am_c13, 13), (am_c14, 14), (am_c15, 15), (am_c16, 16), (am_c17, 17), (am_c18, 18), (am_c19, 19), (am_c20, 20), (am_c21, 21), (am_c22, 22), (am_c23, 23), (am_c24, 24), (am_c25, 25), (am_c26, 26), (am_c27, 27), (am_c28, 28), (am_c29, 29), (am_c30, 30), (am_c31, 31), (am_c32, 32), (am_c33, 33), (am_c34, 34), (am_c35, 35), (am_c36, 36), (am_c37, 37), (am_c38, 38), (am_c39, 39), (am_c40, 40), (am_c41, 41), (am_c42, 42), (am_c43, 43), (am_c44, 44), (am_c45, 45), (am_c46, 46), (am_c47, 47), (am_c48, 48), (am_c49, 49), (am_c50, 50), (am_c51, 51), (am_c52, 52), (am_c53, 53), (am_c54, 54), (am_c55, 55), (am_c56, 56), (am_c57, 57), (am_c58, 58), (am_c59, 59), (am_c60, 60), (am_c61, 61), (am_c62, 62), (am_c63, 63), (am_c64, 64), (am_c65, 65), (am_c66, 66), (am_c67, 67), (am_c68, 68), (am_c69, 69), (am_c70, 70), (am_c71, 71), (am_c72, 72), (am_c73, 73), (am_c74, 74), (am_c75, 75), (am_c76, 76), (am_c77, 77), (am_c78, 78), (am_c79, 79), (am_c80, 80), (am_c81, 81), (am_c82, 82), (am_c83, 83), (am_c84, 84), (am_c85, 85), (am_c86, 86), (am_c87, 87), (am_c88, 88), (am_c89, 89), (am_c90, 90), (am_c91, 91), (am_c92, 92), (am_c93, 93), (am_c94, 94), (am_c95, 95), (am_c96, 96), (am_c97, 97), (am_c98, 98), (am_c99, 99), (am_c100, 100), (am_c101, 101), (am_c102, 102), (am_c103, 103), (am_c104, 104), (am_c105, 105), (am_c106, 106), (am_c107, 107), (am_c108, 108), (am_c109, 109), (am_c110, 110), (am_c111, 111), (am_c112, 112), (am_c113, 113), (am_c114, 114), (am_c115, 115), (am_c116, 116), (am_c117, 117), (am_c118, 118), (am_c119, 119), (am_c120, 120), (am_c121, 121), (am_c122, 122), (am_c123, 123), (am_c124, 124), (am_c125, 125), (am_c126, 126), (am_c127, 127), (am_c128, 128), (am_c129, 129), (am_c130, 130), (am_c131, 131), (am_c132, 132), (am_c133, 133), (am_c134, 134), (am_c135, 135), (am_c136, 136), (am_c137, 137), (am_c138, 138), (am_c139, 139), (am_c140, 140), (am_c141, 141), (am_c142, 142), (am_c143, 143), (am_c144, 144), (am_c145, 145), (am_c146, 146), (am_c147, 147)] := rfl
theorem am_chall : ∀ q ∈ am_CT.zipIdx, am_chk q.2 q.1 = true := by
  rw [am_zip]
  exact List.forall_mem_cons.mpr ⟨am_ch0, List.forall_mem_cons.mpr ⟨am_ch1, List.forall_mem_cons.mpr ⟨am_ch2, List.forall_mem_cons.mpr ⟨am_ch3, List.forall_mem_cons.mpr ⟨am_ch4, List.forall_mem_cons.mpr ⟨am_ch5, List.forall_mem_cons.mpr ⟨am_ch6, List.forall_mem_cons.mpr ⟨am_ch7, List.forall_mem_cons.mpr ⟨am_ch8, List.forall_mem_cons.mpr ⟨am_ch9, List.forall_mem_cons.mpr ⟨am_ch10, List.forall_mem_cons.mpr ⟨am_ch11, List.forall_mem_cons.mpr ⟨am_ch12, List.forall_mem_cons.mpr ⟨am_ch13, List.forall_mem_cons.mpr ⟨am_ch14, List.forall_mem_cons.mpr ⟨am_ch15, List.forall_mem_cons.mpr ⟨am_ch16, List.forall_mem_cons.mpr ⟨am_ch17, List.forall_mem_cons.mpr ⟨am_ch18, List.forall_mem_cons.mpr ⟨am_ch19, List.forall_mem_cons.mpr ⟨am_ch20, List.forall_mem_cons.mpr ⟨am_ch21, List.forall_mem_cons.mpr ⟨am_ch22, List.forall_mem_cons.mpr ⟨am_ch23, List.forall_mem_cons.mpr ⟨am_ch24, List.forall_mem_cons.mpr ⟨am_ch25, List.forall_mem_cons.mpr ⟨am_ch26, List.forall_mem_cons.mpr ⟨am_ch27, List.forall_mem_cons.mpr ⟨am_ch28, List.forall_mem_cons.mpr ⟨am_ch29, List.forall_mem_cons.mpr ⟨am_ch30, List.forall_mem_cons.mpr ⟨am_ch31, List.forall_mem_cons.mpr ⟨am_ch32, List.forall_mem_cons.mpr ⟨am_ch33, List.forall_mem_cons.mpr ⟨am_ch34, List.forall_mem_cons.mpr ⟨am_ch35, List.forall_mem_cons.mpr ⟨am_ch36, List.forall_mem_cons.mpr ⟨am_ch37, List.forall_mem_cons.mpr ⟨am_ch38, List.forall_mem_cons.mpr ⟨am_ch39, List.forall_mem_cons.mpr ⟨am_ch40, List.forall_mem_cons.mpr ⟨am_ch41, List.forall_mem_cons.mpr ⟨am_ch42, List.forall_mem_cons.mpr ⟨am_ch43, List.forall_mem_cons.mpr ⟨am_ch44, List.forall_mem_cons.mpr ⟨am_ch45, List.forall_mem_cons.mpr ⟨am_ch46, List.forall_mem_cons.mpr ⟨am_ch47, List.forall_mem_cons.mpr ⟨am_ch48, List.forall_mem_cons.mpr ⟨am_ch49, List.forall_mem_cons.mpr ⟨am_ch50, List.forall_mem_cons.mpr ⟨am_ch51, List.forall_mem_cons.mpr ⟨am_ch52, List.forall_mem_cons.mpr ⟨am_ch53, List.forall_mem_cons.mpr ⟨am_ch54, List.forall_mem_cons.mpr ⟨am_ch55, List.forall_mem_cons.mpr ⟨am_ch56, List.forall_mem_cons.mpr ⟨am_ch57, List.forall_mem_cons.mpr ⟨am_ch58, List.forall_mem_cons.mpr ⟨am_ch59, List.forall_mem_cons.mpr ⟨am_ch60, List.forall_mem_cons.mpr ⟨am_ch61, List.forall_mem_cons.mpr ⟨am_ch62, List.forall_mem_cons.mpr ⟨am_ch63, List.forall_mem_cons.mpr ⟨am_ch64, List.forall_mem_cons.mpr ⟨am_ch65, List.forall_mem_cons.mpr ⟨am_ch66, List.forall_mem_cons.mpr ⟨am_ch67, List.forall_mem_cons.mpr ⟨am_ch68, List.forall_mem_cons.mpr ⟨am_ch69, List.forall_mem_cons.mpr ⟨am_ch70, List.forall_mem_cons.mpr ⟨am_ch71, List.forall_mem_cons.mpr ⟨am_ch72, List.forall_mem_cons.mpr ⟨am_ch73, List.forall_mem_cons.mpr ⟨am_ch74, List.forall_mem_cons.mpr ⟨am_ch75, List.forall_mem_cons.mpr ⟨am_ch76, List.forall_mem_cons.mpr ⟨am_ch77, List.forall_mem_cons.mpr ⟨am_ch78, List.forall_mem_cons.mpr ⟨am_ch79, List.forall_mem_cons.mpr ⟨am_ch80, List.forall_mem_cons.mpr ⟨am_ch81, List.forall_mem_cons.mpr ⟨am_ch82, List.forall_mem_cons.mpr ⟨am_ch83, List.forall_mem_cons.mpr ⟨am_ch84, List.forall_mem_cons.mpr ⟨am_ch85, List.forall_mem_cons.mpr ⟨am_ch86, List.forall_mem_cons.mpr ⟨am_ch87, List.forall_mem_cons.mpr ⟨am_ch88, List.forall_mem_cons.mpr ⟨am_ch89, List.forall_mem_cons.mpr ⟨am_ch90, List.forall_mem_cons.mpr ⟨am_ch91, List.forall_mem_cons.mpr ⟨am_ch92, List.forall_mem_cons.mpr ⟨am_ch93, List.forall_mem_cons.mpr ⟨am_ch94, List.forall_mem_cons.mpr ⟨am_ch95, List.forall_mem_cons.mpr ⟨am_ch96, List.forall_mem_cons.mpr ⟨am_ch97, List.forall_mem_cons.mpr ⟨am_ch98, List.forall_mem_cons.mpr ⟨am_ch99, List.forall_mem_cons.mpr ⟨am_ch100, List.forall_mem_cons.mpr ⟨am_ch101, List.forall_mem_cons.mpr ⟨am_ch102, List.forall_mem_cons.mpr ⟨am_ch103, List.forall_mem_cons.mpr ⟨am_ch104, List.forall_mem_cons.mpr ⟨am_ch105, List.forall_mem_cons.mpr ⟨am_ch106, List.forall_mem_cons.mpr ⟨am_ch107, List.forall_mem_cons.mpr ⟨am_ch108, List.forall_mem_cons.mpr ⟨am_ch109, List.forall_mem_cons.mpr ⟨am_ch110, List.forall_mem_cons.mpr ⟨am_ch111, List.forall_mem_cons.mpr ⟨am_ch112, List.forall_mem_cons.mpr ⟨am_ch113, List.forall_mem_cons.mpr ⟨am_ch114, List.forall_mem_cons.mpr ⟨am_ch115, List.forall_mem_cons.mpr ⟨am_ch116, List.forall_mem_cons.mpr ⟨am_ch117, List.forall_mem_cons.mpr ⟨am_ch118, List.forall_mem_cons.mpr ⟨am_ch119, List.forall_mem_cons.mpr ⟨am_ch120, List.forall_mem_cons.mpr ⟨am_ch121, List.forall_mem_cons.mpr ⟨am_ch122, List.forall_mem_cons.mpr ⟨am_ch123, List.forall_mem_cons.mpr ⟨am_ch124, List.forall_mem_cons.mpr ⟨am_ch125, List.forall_mem_cons.mpr ⟨am_ch126, List.forall_mem_cons.mpr ⟨am_ch127, List.forall_mem_cons.mpr ⟨am_ch128, List.forall_mem_cons.mpr ⟨am_ch129, List.forall_mem_cons.mpr ⟨am_ch130, List.forall_mem_cons.mpr ⟨am_ch131, List.forall_mem_cons.mpr ⟨am_ch132, List.forall_mem_cons.mpr ⟨am_ch133, List.forall_mem_cons.mpr ⟨am_ch134, List.forall_mem_cons.mpr ⟨am_ch135, List.forall_mem_cons.mpr ⟨am_ch136, List.forall_mem_cons.mpr ⟨am_ch137, List.forall_mem_cons.mpr ⟨am_ch138, List.forall_mem_cons.mpr ⟨am_ch139, List.forall_mem_cons.mpr ⟨am_ch140, List.forall_mem_cons.mpr ⟨am_ch141, List.forall_mem_cons.mpr ⟨am_ch142, List.forall_mem_cons.mpr ⟨am_ch143, List.forall_mem_cons.mpr ⟨am_ch144, List.forall_mem_cons.mpr ⟨am_ch145, List.forall_mem_cons.mpr ⟨am_ch146, List.forall_mem_cons.mpr ⟨am_ch147, fun _ h => absurd h List.not_mem_nil⟩⟩⟩⟩⟩⟩⟩⟩⟩⟩⟩⟩⟩⟩⟩⟩⟩⟩⟩⟩⟩⟩⟩⟩⟩⟩⟩⟩⟩⟩⟩⟩⟩⟩⟩⟩⟩⟩⟩⟩⟩⟩⟩⟩⟩⟩⟩⟩⟩⟩⟩⟩⟩⟩⟩⟩⟩⟩⟩⟩⟩⟩⟩⟩⟩⟩⟩⟩⟩⟩⟩⟩⟩⟩⟩⟩⟩⟩⟩⟩⟩⟩⟩⟩⟩⟩⟩⟩⟩⟩⟩⟩⟩⟩⟩⟩⟩⟩⟩⟩⟩⟩⟩⟩⟩⟩⟩⟩⟩⟩⟩⟩⟩⟩⟩⟩⟩⟩⟩⟩⟩⟩⟩⟩⟩⟩⟩⟩⟩⟩⟩⟩⟩⟩⟩⟩⟩⟩⟩⟩⟩⟩⟩⟩⟩⟩⟩⟩
theorem am_find_mem {k : Nat} {q : am_E} : ∀ l : List (Nat × am_E), am_find k l = some q → (k, q) ∈ l := by
  intro l
  induction l with
  | nil => intro h; cases h
  | cons x r ih =>
    intro h
    unfold am_find at h
    cases hb : Nat.beq x.1 k with
    | true =>
      rw [hb] at h
      have e1 : x.1 = k := Nat.eq_of_beq_eq_true hb
      have e2 : x.2 = q := Option.some.inj h
      have : x = (k, q) := by rw [← e1, ← e2]
      rw [this]
      exact List.mem_cons_self
    | false =>
      rw [hb] at h
      exact List.mem_cons_of_mem _ (ih h)
theorem am_ok_of {mid pc : Nat} {q : am_E} (h : am_ent mid pc = some q) : ∃ me, am_MT[mid]? = some me ∧ decode me.2.1 pc = .ok (q.2.1, q.2.2.1) ∧ am_ok2 me pc q.1 q.2.1 q.2.2.1 q.2.2.2.1 q.2.2.2.2.1 q.2.2.2.2.2.1 q.2.2.2.2.2.2.1 q.2.2.2.2.2.2.2 = true := by
  unfold am_ent at h
  obtain ⟨c, hc, h⟩ := Option.bind_eq_some_iff.mp h
  obtain ⟨l, hl, h⟩ := Option.bind_eq_some_iff.mp h
  have hm := am_find_mem l h
  have h1 : am_chk mid c = true := am_chall (c, mid) (List.mem_zipIdx_iff_getElem?.mpr hc)
  unfold am_chk at h1
  cases hme : am_MT[mid]? with
  | none => rw [hme] at h1; cases h1
  | some me =>
    rw [hme] at h1
    have h2 := List.all_eq_true.mp h1 (l, pc / 16) (List.mem_zipIdx_iff_getElem?.mpr hl)
    have h3 := List.all_eq_true.mp h2 (pc % 16, q) hm
    have e1 : 16 * (pc / 16) + pc % 16 = pc := Nat.div_add_mod pc 16
    have h4 : am_ok me pc q = true := by
      have := h3
      rw [show 16 * (pc / 16) + pc % 16 = pc from e1] at this
      exact this
    unfold am_ok at h4
    obtain ⟨a, b⟩ := Bool.and_eq_true_iff.mp h4
    exact ⟨me, rfl, of_decide_eq_true a, b⟩
