/-! REASON of the reference -/
section
variable {L : Nat} {xs : Nat → Int32} {d : Nat} {P : Option Value → am_I → am_J → Prop} {I : am_I} {J : am_J} {T w k x y c n q : Nat} {th : Nat → Bool} {sn : Nat → Nat} {S : Nat → Nat → Nat → Nat} {a x1 x2 x3 x4 x5 : Int32} {v : Nat → Nat}
theorem rs_says (hv : EVv w th sn S) (hw : w ≤ 24) (hE : EVm th sn S I) (hk : k ≤ 2) (hx : x < 24) (hy : y < 24) (hq : q ≤ 3) (l0 : Nat) (h : P (some (.int (match kth (pS (S 12) (cl k x y)) 0 (sn 12) l0 with
    | some i => rsY (nI q) (S 12 i)
    | none => -1))) I J) : ∀ (m i l : Nat), i + m = sn 12 → l < 2 ^ 31 → kth (pS (S 12) (cl k x y)) 0 (sn 12) l0 = kth (pS (S 12) (cl k x y)) i m l → am_To (am_XX L xs) (d + 1) 121 188 [some (.ref 95), some (.int (nI k)), some (.int (nI x)), some (.int (nI y)), none, some (.int (nI q)), some (.int (nI l)), some (.int (nI i)), none, none] [] I J P := by
  have hsn := hv.2.1
  intro m
  induction m with
  | zero =>
    intro i l hi hl he
    have e : i = sn 12 := by omega
    subst e
    rw [he] at h
    exact bk_121_188 _ _ _ _ _ _ I J (i_t (by rw [hE.2.1]; exact nI_le (Nat.le_refl _) (by omega)) h)
  | succ m ih =>
    intro i l hi hl he
    obtain ⟨s1, s2, s3, s4, s5⟩ := hE.2.2 i (by omega)
    obtain ⟨v1, v2, v3, v4, v5, v6⟩ := hv.2.2 i (by omega)
    refine bk_121_188 _ _ _ _ _ _ I J (i_le (sn 12) i hE.2.1 rfl (fun c => by omega) (fun _ => x_i i rfl (x_i i rfl (x_i i rfl ?_))))
    refine islink_m rfl rfl rfl s2 s3 s4 (by omega) (by omega) hx hy (by omega) (by omega) (fun z => ?_) (fun z => ?_)
    · have k3 : S 12 i 0 < 3 := by
        have := (cl_inj (by omega) (by omega) (by omega) (by omega) hx hy).mp z
        omega
      rw [kth_s i m l, if_pos (pS_t.mpr z)] at he
      refine bk_121_224 _ _ _ _ _ _ 1 I J (i_f (by decide) (i_eq l 0 rfl rfl (fun l0' => ?_) (fun l0' => ?_)))
      · subst l0'
        dsimp only at he
        rw [he] at h
        dsimp only at h
        unfold rsY at h
        refine i_le 2 q rfl rfl (fun c1 => i_eq q 2 rfl rfl (fun c2 => x_i i rfl ?_) (fun c2 => x_i i rfl ?_)) (fun c1 => ?_)
        · rw [if_pos (by rw [c2]; rfl)] at h
          rw [s1]
          exact h
        · have e3 : q = 3 := by omega
          rw [if_neg (by rw [e3]; decide), if_pos (by rw [e3]; rfl)] at h
          rw [s5 k3]
          exact h
        · rw [if_neg (fun e => by have := (nI_eq (b := 2) (by omega) (by omega)).mp e; omega), if_neg (fun e => by have := (nI_eq (b := 3) (by omega) (by omega)).mp e; omega)] at h
          exact h
      · obtain ⟨l', rfl⟩ : ∃ l', l = l' + 1 := ⟨l - 1, by omega⟩
        dsimp only at he
        rw [pk_m1, nI_1]
        exact ih (i + 1) l' (by omega) (by omega) he
    · rw [kth_s i m l, if_neg (fun q => z (pS_t.mp q))] at he
      refine bk_121_224 _ _ _ _ _ _ 0 I J (i_t rfl ?_)
      rw [nI_1]
      exact ih (i + 1) l (by omega) hl he
theorem reason_lp (hv : EVv w th sn S) (hw : w ≤ 24) (hE : EVm th sn S I) (hk : k ≤ 2) (hx : x < 24) (hy : y < 24) (hq : q ≤ 3) (l0 : Nat) (h : P (some (.int (rsn sn S (cl k x y) (nI q) 0 12 l0))) I J) : ∀ (m T l : Nat), T + m = 12 → l < 2 ^ 31 → rsn sn S (cl k x y) (nI q) 0 12 l0 = rsn sn S (cl k x y) (nI q) T m l → am_To (am_XX L xs) (d + 1) 121 34 [some (.ref 95), some (.int (nI k)), some (.int (nI x)), some (.int (nI y)), none, some (.int (nI q)), some (.int (nI l)), some (.int (nI T)), none, none] [] I J P := by
  intro m
  induction m with
  | zero =>
    intro T l hT hl he
    have e : T = 12 := by omega
    subst e
    rw [he] at h
    exact bk_121_34 _ _ _ _ _ _ I J (i_t (by decide) (rs_says hv hw hE hk hx hy hq l h (sn 12) 0 l (by omega) hl rfl))
  | succ m ih =>
    intro T l hT hl he
    have hT12 : T < 12 := by omega
    obtain ⟨v1, v2, v3⟩ := hv.1 T hT12
    obtain ⟨e1, e2⟩ := hE.1 T hT12
    rw [rsn_s T m l] at he
    refine bk_121_34 _ _ _ _ _ _ I J (i_le 12 T rfl rfl (fun c => by omega) (fun _ => ?_))
    rw [show (100 : Int32) * nI T = nI (100 * T) from pk_mul 100 T]
    cases ht : th T with
    | false =>
      rw [ht] at e1
      have g : am_To (am_XX L xs) (d + 1) 121 34 [some (.ref 95), some (.int (nI k)), some (.int (nI x)), some (.int (nI y)), none, some (.int (nI q)), some (.int (nI l)), some (.int (nI T + 1)), none, none] [] I J P := by
        rw [nI_1]
        refine ih (T + 1) l (by omega) hl ?_
        rw [he, v2 ht]
        rfl
      exact bk_121_51 _ _ _ _ _ _ _ _ I J (x_i T rfl ⟨fun _ => g, fun _ => x_i T rfl (i_t e1 g)⟩)
    | true =>
      have hG := e2 ht
      rw [ht] at e1
      have e100 : ((100 : Int32) * nI T) + I 99 T = nI (100 * T + sn T) := by
        rw [hG.1, show (100 : Int32) * nI T = nI (100 * T) from pk_mul 100 T, nI_add]
      have hkn := kth_none (p := pS (S T) (cl k x y)) (sn T) 0 l
      rw [Nat.zero_add, show fb_ct (pS (S T) (cl k x y)) 0 = 0 from rfl, Nat.add_zero] at hkn
      have inner : ∀ (m2 i l' : Nat), i + m2 = sn T → l' = l - fb_ct (pS (S T) (cl k x y)) i → fb_ct (pS (S T) (cl k x y)) i ≤ l → kth (pS (S T) (cl k x y)) 0 (sn T) l = kth (pS (S T) (cl k x y)) i m2 l' → am_To (am_XX L xs) (d + 1) 121 51 [some (.ref 95), some (.int (nI k)), some (.int (nI x)), some (.int (nI y)), none, some (.int (nI q)), some (.int (nI l')), some (.int (nI T)), some (.int (nI (fb_ct (pS (S T) (cl k x y)) i))), some (.int (nI (100 * T + i)))] [] I J P := by
        intro m2
        induction m2 with
        | zero =>
          intro i l' hi hl' hle hke
          have e : i = sn T := by omega
          subst e
          refine bk_121_51 _ _ _ _ _ _ _ _ I J (x_i T rfl (i_t (by rw [e100]; exact nI_le (Nat.le_refl _) (by omega)) ?_))
          rw [nI_1]
          refine ih (T + 1) l' (by omega) (by omega) ?_
          rw [he, hkn.mpr hle, hl']
        | succ m2 ih2 =>
          intro i l' hi hl' hle hke
          obtain ⟨s1, s2, s3, s4, s5⟩ := hG.2 i (by omega)
          obtain ⟨u1, u2, u3, u4, u5⟩ := v3 i (by omega)
          have hcs := fb_ct_succ (pS (S T) (cl k x y)) i
          rw [kth_s i m2 l'] at hke
          refine bk_121_51 _ _ _ _ _ _ _ _ I J (x_i T rfl (i_le (100 * T + sn T) (100 * T + i) e100 rfl (fun c => by omega) (fun _ => x_i T rfl (i_f (by rw [e1]; decide) (x_i _ rfl (x_i _ rfl (x_i _ rfl ?_)))))))
          refine islink_m rfl rfl rfl s1 s2 s3 (by omega) (by omega) hx hy (by omega) (by omega) (fun z => ?_) (fun z => ?_)
          · rw [if_pos (pS_t.mpr z)] at hcs hke
            refine bk_121_106 _ _ _ _ _ _ _ _ 1 I J (i_f (by decide) (i_eq l' 0 rfl rfl (fun c => ?_) (fun c => ?_)))
            · subst c
              dsimp only at hke
              rw [hke] at he
              dsimp only at he
              rw [he] at h
              unfold rsS at h
              have hcl : fb_ct (pS (S T) (cl k x y)) i = l := by omega
              refine i_eq q 0 rfl rfl (fun c1 => ?_) (fun c1 => i_eq q 1 rfl rfl (fun c2 => x_i _ rfl ?_) (fun c2 => i_eq q 2 rfl rfl (fun c3 => ?_) (fun c3 => x_i _ rfl ?_)))
              · rw [if_pos (by rw [c1]; rfl)] at h
                rw [show (100 : Int32) * nI T = nI (100 * T) from pk_mul 100 T, nI_add, hcl]
                exact h
              · rw [if_neg (by rw [c2]; decide), if_pos (by rw [c2]; rfl)] at h
                rw [s5]
                exact h
              · rw [if_neg (by rw [c3]; decide), if_neg (by rw [c3]; decide), if_neg (by rw [c3]; decide)] at h
                exact h
              · have c4 : q = 3 := by omega
                rw [if_neg (by rw [c4]; decide), if_neg (by rw [c4]; decide), if_pos (by rw [c4]; rfl)] at h
                rw [s4]
                exact h
            · obtain ⟨l2, rfl⟩ : ∃ l2, l' = l2 + 1 := ⟨l' - 1, by omega⟩
              dsimp only at hke
              rw [pk_m1, nI_1, nI_1]
              have e := ih2 (i + 1) l2 (by omega) (by omega) (by omega) hke
              rw [hcs] at e
              exact e
          · rw [if_neg (fun q => z (pS_t.mp q))] at hcs hke
            refine bk_121_106 _ _ _ _ _ _ _ _ 0 I J (i_t rfl ?_)
            rw [nI_1]
            have e := ih2 (i + 1) l' (by omega) (by omega) (by omega) hke
            rw [hcs] at e
            exact e
      exact inner (sn T) 0 l (by omega) rfl (Nat.zero_le _) rfl
theorem reason_M (hv : EVv w th sn S) (hW : I 95 2 = nI w) (hw : w ≤ 24) (hE : EVm th sn S I) (h0 : ((∀ k x y, ¬ LinkA w x1 x2 x3 k x y) ∨ x4 < 0) → P (some (.int (-1))) I J) (h1 : ∀ k x y l, LinkA w x1 x2 x3 k x y → l < 2 ^ 31 → x4 = nI l → P (some (.int (rsn sn S (cl k x y) x5 0 12 l))) I J) : am_To (am_XX L xs) (d + 4) 121 0 [some (.ref 95), some (.int x1), some (.int x2), some (.int x3), some (.int x4), some (.int x5), none, none, none, none] [] I J P := by
  refine bk_121_0 _ _ _ _ _ I J (areasked_m hW hw (fun z => ?_) (fun k x y A => ?_))
  · exact bk_121_7 _ _ _ _ _ 0 I J (i_t rfl (h0 (Or.inl z)))
  · have A' := A
    obtain ⟨a1, a2, a3, a4, a5, a6, a7⟩ := A
    refine bk_121_7 _ _ _ _ _ 1 I J (i_f (by decide) ⟨fun z => h0 (Or.inr z), fun z => ?_⟩)
    obtain ⟨l, hl, rfl⟩ := nI_of z
    have h2 := h1 k x y l A' hl rfl
    subst a5
    subst a6
    subst a7
    refine isin_n (m := 3) (by omega) rfl (fun y2 => ?_) (fun q hq eq => ?_)
    · rw [rsn_out y2] at h2
      exact bk_121_22 _ _ _ _ _ 0 I J (i_t rfl h2)
    · subst eq
      exact bk_121_22 _ _ _ _ _ 1 I J (i_f (by decide) (reason_lp hv hw hE a1 (by omega) (by omega) hq l h2 12 0 l (by omega) hl rfl))
end
