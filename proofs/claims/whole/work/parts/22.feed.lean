def by_c20 (x1 x2 x3 x4 x5 : Int32) : List Int32 := by_c4 x1 ++ (by_c4 x2 ++ (by_c4 x3 ++ (by_c4 x4 ++ by_c4 x5)))
def by_m20 (x1 x2 x3 x4 x5 : Int32) : List Int32 := by_m4 x1 ++ (by_m4 x2 ++ (by_m4 x3 ++ (by_m4 x4 ++ by_m4 x5)))
section
variable {L : Nat} {xs : Nat → Int32} {d : Nat} {P : Option Value → am_I → am_J → Prop} {I : am_I} {J : am_J} {k : Nat} {x1 x2 x3 x4 x5 : Int32}
theorem feed_cond (hk2 : k ≤ 200) : nI k + 20 ≤ 200 ↔ k + 20 ≤ 200 := by
  rw [show (20 : Int32) = nI 20 from rfl, show (200 : Int32) = nI 200 from rfl, nI_add]
  exact nI_leI (by omega) (by omega)
theorem feed_c (hk : I 1 1 = nI k) (hk2 : k ≤ 200) (h1 : k + 20 ≤ 200 → P (some (.int (nI (k + 20)))) (tp_s 2 1 1 I k (by_c20 x1 x2 x3 x4 x5)) J) (h2 : ¬ k + 20 ≤ 200 → P (some (.int (-1))) I J) : am_To (am_XX L xs) (d + 1) 10 0 [some (.ref 0), some (.int x1), some (.int x2), some (.int x3), some (.int x4), some (.int x5)] [] I J P := by
  refine bk_10_0 x1 x2 x3 x4 x5 I J ⟨fun c => ?_, fun c => h2 (fun z => c ?_)⟩
  · rw [hk] at c
    have c := (feed_cond hk2).mp c
    have e1 : tp_s 2 1 1 I k (by_c4 x1) 1 1 = nI (k + 4) := tp_n _ _ _ hk
    have e2 : tp_s 2 1 1 (tp_s 2 1 1 I k (by_c4 x1)) (k + 4) (by_c4 x2) 1 1 = nI (k + 4 + 4) := tp_n _ _ _ e1
    have e3 : tp_s 2 1 1 (tp_s 2 1 1 (tp_s 2 1 1 I k (by_c4 x1)) (k + 4) (by_c4 x2)) (k + 4 + 4) (by_c4 x3) 1 1 = nI (k + 4 + 4 + 4) := tp_n _ _ _ e2
    have e4 : tp_s 2 1 1 (tp_s 2 1 1 (tp_s 2 1 1 (tp_s 2 1 1 I k (by_c4 x1)) (k + 4) (by_c4 x2)) (k + 4 + 4) (by_c4 x3)) (k + 4 + 4 + 4) (by_c4 x4) 1 1 = nI (k + 4 + 4 + 4 + 4) := tp_n _ _ _ e3
    have e5 : tp_s 2 1 1 I k (by_c20 x1 x2 x3 x4 x5) 1 1 = nI (k + 20) := tp_n _ _ _ hk
    refine put_all hk (by omega) ?_
    refine bk_10_26 x2 x3 x4 x5 _ J (put_all e1 (by omega) ?_)
    refine bk_10_34 x3 x4 x5 _ J (put_all e2 (by omega) ?_)
    refine bk_10_42 x4 x5 _ J (put_all e3 (by omega) ?_)
    refine bk_10_51 x5 _ J (put_all e4 (by omega) ?_)
    refine bk_10_60 _ J ?_
    have e : tp_s 2 1 1 I k (by_c20 x1 x2 x3 x4 x5) = tp_s 2 1 1 (tp_s 2 1 1 (tp_s 2 1 1 (tp_s 2 1 1 (tp_s 2 1 1 I k (by_c4 x1)) (k + 4) (by_c4 x2)) (k + 4 + 4) (by_c4 x3)) (k + 4 + 4 + 4) (by_c4 x4)) (k + 4 + 4 + 4 + 4) (by_c4 x5) := by
      unfold by_c20
      rw [tp_app, tp_app, tp_app, tp_app]
      rfl
    rw [← e, e5]
    exact h1 c
  · rw [hk]
    exact (feed_cond hk2).mpr z
theorem feed_m (hk : I 95 1 = nI k) (hk2 : k ≤ 200) (h1 : k + 20 ≤ 200 → P (some (.int (nI (k + 20)))) (tp_s 96 95 1 I k (by_m20 x1 x2 x3 x4 x5)) J) (h2 : ¬ k + 20 ≤ 200 → P (some (.int (-1))) I J) : am_To (am_XX L xs) (d + 1) 99 0 [some (.ref 95), some (.int x1), some (.int x2), some (.int x3), some (.int x4), some (.int x5)] [] I J P := by
  refine bk_99_0 x1 x2 x3 x4 x5 I J ⟨fun c => ?_, fun c => h2 (fun z => c ?_)⟩
  · rw [hk] at c
    have c := (feed_cond hk2).mp c
    have e1 : tp_s 96 95 1 I k (by_m4 x1) 95 1 = nI (k + 4) := tp_n _ _ _ hk
    have e2 : tp_s 96 95 1 (tp_s 96 95 1 I k (by_m4 x1)) (k + 4) (by_m4 x2) 95 1 = nI (k + 4 + 4) := tp_n _ _ _ e1
    have e3 : tp_s 96 95 1 (tp_s 96 95 1 (tp_s 96 95 1 I k (by_m4 x1)) (k + 4) (by_m4 x2)) (k + 4 + 4) (by_m4 x3) 95 1 = nI (k + 4 + 4 + 4) := tp_n _ _ _ e2
    have e4 : tp_s 96 95 1 (tp_s 96 95 1 (tp_s 96 95 1 (tp_s 96 95 1 I k (by_m4 x1)) (k + 4) (by_m4 x2)) (k + 4 + 4) (by_m4 x3)) (k + 4 + 4 + 4) (by_m4 x4) 95 1 = nI (k + 4 + 4 + 4 + 4) := tp_n _ _ _ e3
    have e5 : tp_s 96 95 1 I k (by_m20 x1 x2 x3 x4 x5) 95 1 = nI (k + 20) := tp_n _ _ _ hk
    refine four_all hk (by omega) ?_
    refine bk_99_20 x2 x3 x4 x5 _ J (four_all e1 (by omega) ?_)
    refine bk_99_25 x3 x4 x5 _ J (four_all e2 (by omega) ?_)
    refine bk_99_30 x4 x5 _ J (four_all e3 (by omega) ?_)
    refine bk_99_36 x5 _ J (four_all e4 (by omega) ?_)
    refine bk_99_42 _ J ?_
    have e : tp_s 96 95 1 I k (by_m20 x1 x2 x3 x4 x5) = tp_s 96 95 1 (tp_s 96 95 1 (tp_s 96 95 1 (tp_s 96 95 1 (tp_s 96 95 1 I k (by_m4 x1)) (k + 4) (by_m4 x2)) (k + 4 + 4) (by_m4 x3)) (k + 4 + 4 + 4) (by_m4 x4)) (k + 4 + 4 + 4 + 4) (by_m4 x5) := by
      unfold by_m20
      rw [tp_app, tp_app, tp_app, tp_app]
      rfl
    rw [← e, e5]
    exact h1 c
  · rw [hk]
    exact (feed_cond hk2).mpr z
end
