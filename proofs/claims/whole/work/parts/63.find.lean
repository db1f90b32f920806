/-! THE MODEL: finds, isOver, screenAt -/
theorem s_finds {h : pm_H} {M : Nat} (t : MK h M) (t2 : MK2 h M) (x y w hh : Int32) (Q : Option Value × pm_H → Prop) : pGo 167 0 [some (.ref M), some (.int x), some (.int y), some (.int w), some (.int hh)] [] h Q = Q (none, uA h (M + 15) (bx4 (rI h (M + 15)) x y w hh)) := by
  obtain ⟨-, -, -, -, -, -, -, -, -, -, -, -, k21, k15⟩ := t2
  simp (disch := omega) only [k167_0, k167_1, k167_4, k167_5, k167_6, k167_7, k167_8, k167_11, k167_12, k167_13, k167_14, k167_15, k167_18, k167_19, k167_20, k167_21, k167_22, k167_25, k167_26, k167_28, k167_29, if_true, if_false, ite_true, ite_false, not_true_eq_false, not_false_eq_true, true_or, or_true, false_or, or_false, and_self, ok_n0, ok_ni, ok_nr, ok_nl, va_rf_some, va_rf_none, true_and, and_true, List.length_nil, List.length_cons, Option.toList_some, Option.toList_none, List.cons_append, List.nil_append, rK_uA, rK_uI, rK_uJ, rK_uP, rP_uA, rP_uI, rP_uJ, rJ_uA, rJ_uI, rJ_uP, rI_uJ, rI_uP, rz_uA, rz_uI, rz_uJ, rz_uP, rs_uA, rs_uI, rs_uJ, rs_uP, Nat.reduceAdd, Nat.reduceMul, Nat.reduceSub, Nat.reduceLeDiff, Nat.reduceLT, Nat.reduceEqDiff, Nat.add_zero, Nat.zero_add, Nat.zero_le, t.1, k21, k15, ar_okw, ar_cl, uI_eq, uA_uA, rI_uA, bx4]
theorem SCR_fnd (h : pm_H) (M : Nat) (f : Nat → Int32) : SCR M h (uA h (M + 15) f) := ⟨rfl, rfl, rfl, rfl, rfl, fun b hb => by rw [rI_uA, if_neg (by omega)], fun k _ _ _ => by rw [rI_uA, if_neg (by omega)]⟩
theorem lgc_0 (a b : Int64) : (nI 0 ≤ lg_cmp a b) = ¬ a.toInt < b.toInt := by
  unfold lg_cmp
  by_cases h1 : a > b
  · rw [if_pos h1]
    have := Int64.lt_iff_toInt_lt.mp h1
    exact propext ⟨fun _ => by omega, fun _ => by decide +kernel⟩
  · rw [if_neg h1]
    by_cases h2 : a = b
    · rw [if_pos h2, h2]
      exact propext ⟨fun _ => by omega, fun _ => by decide +kernel⟩
    · rw [if_neg h2]
      have h3 : ¬ b.toInt < a.toInt := fun q => h1 (Int64.lt_iff_toInt_lt.mpr q)
      have h4 : ¬ a.toInt = b.toInt := fun q => h2 (Int64.toInt_inj.mp q)
      refine propext ⟨fun q => absurd q (by decide +kernel), fun q => by omega⟩
theorem lgc_lt {x a b : Int32} (h1 : -100000 ≤ a.toInt) (h2 : a.toInt ≤ 100000) (h3 : -100000 ≤ b.toInt) (h4 : b.toInt ≤ 100000) : (nI 0 ≤ lg_cmp x.toInt64 (a.toInt64 + b.toInt64)) = ¬ x < a + b := by
  rw [lgc_0, ti_lt, ti_add (by omega) (by omega), Int64.toInt_add, Int32.toInt_toInt64, Int32.toInt_toInt64, Int32.toInt_toInt64, Int.bmod_def]
  congr 2
  omega
theorem s_isOver {h : pm_H} {M : Nat} (t : MK h M) (t2 : MK2 h M) (hG : GB (rI h (M + 15))) (x y : Int32) (Q : Option Value × pm_H → Prop) : pGo 169 0 [some (.ref M), some (.int x), some (.int y)] [] h Q = Q (some (.int (nb (bholds (rI h (M + 15)) x y))), h) := by
  obtain ⟨-, -, -, -, -, -, -, -, -, -, -, -, k21, k15⟩ := t2
  unfold GB at hG
  have l1 := lgc_lt (x := x) (a := rI h (M + 15) 0) (b := rI h (M + 15) 2) (by omega) (by omega) (by omega) (by omega)
  have l2 := lgc_lt (x := y) (a := rI h (M + 15) 1) (b := rI h (M + 15) 3) (by omega) (by omega) (by omega) (by omega)
  have e1 : x < rI h (M + 15) 0 ↔ ¬ rI h (M + 15) 0 ≤ x := by rw [Int32.not_le]
  have e2 : y < rI h (M + 15) 1 ↔ ¬ rI h (M + 15) 1 ≤ y := by rw [Int32.not_le]
  simp (disch := omega) only [k169_0, k169_1, k169_2, k169_5, k169_6, k169_7, k169_10, k169_11, k169_12, k169_15, k169_16, k169_17, k169_20, k169_21, k169_22, k169_23, k169_26, k169_27, k169_28, k169_29, k169_30, k169_33, k169_34, k169_35, k169_36, k169_37, k169_38, k169_41, k169_42, k169_43, k169_44, k169_47, k169_48, k169_49, k169_50, k169_51, k169_54, k169_55, k169_56, k169_57, k169_58, k169_59, k169_62, k169_63, k169_66, k169_67, if_true, if_false, ite_true, ite_false, not_true_eq_false, not_false_eq_true, true_or, or_true, false_or, or_false, and_self, ok_n0, ok_ni, ok_nr, ok_nl, va_rf_some, va_rf_none, true_and, and_true, List.length_nil, List.length_cons, Option.toList_some, Option.toList_none, List.cons_append, List.nil_append, rK_uA, rK_uI, rK_uJ, rK_uP, rP_uA, rP_uI, rP_uJ, rJ_uA, rJ_uI, rJ_uP, rI_uJ, rI_uP, rz_uA, rz_uI, rz_uJ, rz_uP, rs_uA, rs_uI, rs_uJ, rs_uP, Nat.reduceAdd, Nat.reduceMul, Nat.reduceSub, Nat.reduceLeDiff, Nat.reduceLT, Nat.reduceEqDiff, Nat.add_zero, Nat.zero_add, Nat.zero_le, t.1, k21, k15, ar_oki, ar_cl, l1, l2, e1, e2, bholds]
  by_cases h0 : rI h (M + 15) 0 ≤ x <;> by_cases h1 : rI h (M + 15) 1 ≤ y <;> by_cases h2 : x < rI h (M + 15) 0 + rI h (M + 15) 2 <;> by_cases h3 : y < rI h (M + 15) 1 + rI h (M + 15) 3 <;> simp [h0, h1, h2, h3, nb]
theorem GB_eq4 {g g' : Nat → Int32} (e : eq4 g g') (h : GB g') : GB g := by
  obtain ⟨e0, e1, e2, e3⟩ := e
  unfold GB at *
  rw [e0, e1, e2, e3]; exact h
section INV
variable {v : Nat → Int32} {n c : Nat} {p lo r rl C H P : Nat → Nat} {h : pm_H} {d : Nat}
theorem SI.gb (s : SI v n c p lo r rl) {j : Nat} (hj : j < n) : GB (bxV v j) := by
  have := s.bx j hj
  unfold GB
  omega
theorem s_screenAt_loop {M s : Nat} (t : MV h M s v) (t2 : MK2 h M) (si : SI v n c p lo r rl) (x y : Int32) (Q : Option Value × pm_H → Prop) : ∀ (m k : Nat) (hh : pm_H) (l4 : Option Value), k + m = n → SCR M h hh → (∀ h', SCR M h h' → Q (some (.int (scat (bxV v) x y m k)), h')) → pGo 170 2 [some (.ref M), some (.int x), some (.int y), some (.int (nI k)), l4] [] hh Q := by
  have n4 := si.n4
  have z0 : v 0 = nI n := si.v0
  intro m
  induction m with
  | zero =>
    intro k hh l4 hk hS hQ
    obtain ⟨t1, u2, u3, u4⟩ := t.scr hS
    have c1 : n ≤ k := by omega
    have c2 : s < 41160 := by omega
    have e0 : rI hh (M + 1) s = nI n := (u4 0).trans z0
    rw [k170_2]
    simp (disch := omega) only [k170_0, k170_1, k170_3, k170_4, k170_7, k170_8, k170_11, k170_12, k170_13, k170_14, k170_17, k170_18, k170_21, k170_22, k170_23, k170_24, k170_25, k170_26, k170_27, k170_29, k170_30, k170_31, k170_34, k170_36, k170_37, k170_38, k170_41, k170_43, k170_44, k170_45, k170_46, k170_47, k170_50, k170_52, k170_53, k170_54, k170_55, k170_56, k170_59, k170_61, k170_62, k170_63, k170_64, k170_67, k170_68, k170_69, k170_70, k170_73, k170_76, k170_77, k170_78, k170_81, k170_84, k170_85, if_true, if_false, ite_true, ite_false, not_true_eq_false, not_false_eq_true, true_or, or_true, false_or, or_false, and_self, ok_n0, ok_ni, ok_nr, ok_nl, va_rf_some, va_rf_none, true_and, and_true, List.length_nil, List.length_cons, Option.toList_some, Option.toList_none, List.cons_append, List.nil_append, rK_uA, rK_uI, rK_uJ, rK_uP, rP_uA, rP_uI, rP_uJ, rJ_uA, rJ_uI, rJ_uP, rI_uJ, rI_uP, rz_uA, rz_uI, rz_uJ, rz_uP, rs_uA, rs_uI, rs_uJ, rs_uP, Nat.reduceAdd, Nat.reduceMul, Nat.reduceSub, Nat.reduceLeDiff, Nat.reduceLT, Nat.reduceEqDiff, Nat.add_zero, Nat.zero_add, Nat.zero_le, t1.1, t1.2.1, t1.2.2.1, u2, ar_add, ar_oki, ar_cl, ar_le, Nat.add_assoc s, e0, c1, c2]
    exact hQ hh hS
  | succ m ih =>
    intro k hh l4 hk hS hQ
    obtain ⟨t1, u2, u3, u4⟩ := t.scr hS
    have uM2 := t2.scr hS.1 hS.2.1
    have c1 : ¬ n ≤ k := by omega
    have c2 : s < 41160 := by omega
    have a0 : s + (5 + 4 * k) < 41160 := by omega
    have a1 : s + (5 + 4 * k + 1) < 41160 := by omega
    have a2 : s + (5 + 4 * k + 2) < 41160 := by omega
    have a3 : s + (5 + 4 * k + 3) < 41160 := by omega
    have e0 : rI hh (M + 1) s = nI n := (u4 0).trans z0
    have q4 : eq4 (bx4 (rI hh (M + 15)) (v (5 + 4 * k)) (v (5 + 4 * k + 1)) (v (5 + 4 * k + 2)) (v (5 + 4 * k + 3))) (bxV v k) := ⟨bx4_0 _ _ _ _ _, bx4_1 _ _ _ _ _, bx4_2 _ _ _ _ _, bx4_3 _ _ _ _ _⟩
    have gb := GB_eq4 q4 (si.gb (show k < n by omega))
    have hS' := hS.tr (SCR_fnd hh M (bx4 (rI hh (M + 15)) (v (5 + 4 * k)) (v (5 + 4 * k + 1)) (v (5 + 4 * k + 2)) (v (5 + 4 * k + 3))))
    have eI : rI (uA hh (M + 15) (bx4 (rI hh (M + 15)) (v (5 + 4 * k)) (v (5 + 4 * k + 1)) (v (5 + 4 * k + 2)) (v (5 + 4 * k + 3)))) (M + 15) = bx4 (rI hh (M + 15)) (v (5 + 4 * k)) (v (5 + 4 * k + 1)) (v (5 + 4 * k + 2)) (v (5 + 4 * k + 3)) := by rw [rI_uA, if_pos rfl]
    have lo' := s_isOver (h := uA hh (M + 15) (bx4 (rI hh (M + 15)) (v (5 + 4 * k)) (v (5 + 4 * k + 1)) (v (5 + 4 * k + 2)) (v (5 + 4 * k + 3)))) (M := M) t1 uM2 (by rw [eI]; exact gb) x y
    rw [eI, eq4_holds q4] at lo'
    rw [k170_2]
    simp (disch := omega) only [k170_0, k170_1, k170_3, k170_4, k170_7, k170_8, k170_11, k170_12, k170_13, k170_14, k170_17, k170_18, k170_21, k170_22, k170_23, k170_24, k170_25, k170_26, k170_27, k170_29, k170_30, k170_31, k170_34, k170_36, k170_37, k170_38, k170_41, k170_43, k170_44, k170_45, k170_46, k170_47, k170_50, k170_52, k170_53, k170_54, k170_55, k170_56, k170_59, k170_61, k170_62, k170_63, k170_64, k170_67, k170_68, k170_69, k170_70, k170_73, k170_76, k170_77, k170_78, k170_81, k170_84, k170_85, s_finds t1 uM2, lo', if_true, if_false, ite_true, ite_false, not_true_eq_false, not_false_eq_true, true_or, or_true, false_or, or_false, and_self, ok_n0, ok_ni, ok_nr, ok_nl, va_rf_some, va_rf_none, true_and, and_true, List.length_nil, List.length_cons, Option.toList_some, Option.toList_none, List.cons_append, List.nil_append, rK_uA, rK_uI, rK_uJ, rK_uP, rP_uA, rP_uI, rP_uJ, rJ_uA, rJ_uI, rJ_uP, rI_uJ, rI_uP, rz_uA, rz_uI, rz_uJ, rz_uP, rs_uA, rs_uI, rs_uJ, rs_uP, Nat.reduceAdd, Nat.reduceMul, Nat.reduceSub, Nat.reduceLeDiff, Nat.reduceLT, Nat.reduceEqDiff, Nat.add_zero, Nat.zero_add, Nat.zero_le, t1.1, t1.2.1, t1.2.2.1, u2, ar_add, ar_mul, ar_oki, ar_cl, ar_le, Nat.add_assoc s, u4, e0, c1, c2, a0, a1, a2, a3, nb_0]
    cases hb : bholds (bxV v k) x y with
    | true =>
      simp only [if_true, if_false, ite_true, ite_false, not_true_eq_false, not_false_eq_true, true_or, or_true, false_or, or_false, and_self, ok_n0, ok_ni, ok_nr, ok_nl, va_rf_some, va_rf_none, true_and, and_true, List.length_nil, List.length_cons, Option.toList_some, Option.toList_none, List.cons_append, List.nil_append, rK_uA, rK_uI, rK_uJ, rK_uP, rP_uA, rP_uI, rP_uJ, rJ_uA, rJ_uI, rJ_uP, rI_uJ, rI_uP, rz_uA, rz_uI, rz_uJ, rz_uP, rs_uA, rs_uI, rs_uJ, rs_uP, Nat.reduceAdd, Nat.reduceMul, Nat.reduceSub, Nat.reduceLeDiff, Nat.reduceLT, Nat.reduceEqDiff, Nat.add_zero, Nat.zero_add, Nat.zero_le, reduceCtorEq]
      have := hQ _ hS'
      rw [scat, if_pos hb] at this
      exact this
    | false =>
      simp only [if_true, if_false, ite_true, ite_false, not_true_eq_false, not_false_eq_true, true_or, or_true, false_or, or_false, and_self, ok_n0, ok_ni, ok_nr, ok_nl, va_rf_some, va_rf_none, true_and, and_true, List.length_nil, List.length_cons, Option.toList_some, Option.toList_none, List.cons_append, List.nil_append, rK_uA, rK_uI, rK_uJ, rK_uP, rP_uA, rP_uI, rP_uJ, rJ_uA, rJ_uI, rJ_uP, rI_uJ, rI_uP, rz_uA, rz_uI, rz_uJ, rz_uP, rs_uA, rs_uI, rs_uJ, rs_uP, Nat.reduceAdd, Nat.reduceMul, Nat.reduceSub, Nat.reduceLeDiff, Nat.reduceLT, Nat.reduceEqDiff, Nat.add_zero, Nat.zero_add, Nat.zero_le, reduceCtorEq]
      refine ih (k + 1) _ _ (by omega) hS' (fun h' hS2 => ?_)
      have := hQ h' hS2
      rw [scat, if_neg (by rw [hb]; decide)] at this
      exact this
theorem s_mscreenAt {M s : Nat} (t : MV h M s v) (t2 : MK2 h M) (si : SI v n c p lo r rl) (x y : Int32) (Q : Option Value × pm_H → Prop) (hQ : ∀ h', SCR M h h' → Q (some (.int (scat (bxV v) x y n 0)), h')) : pGo 170 0 [some (.ref M), some (.int x), some (.int y), none, none] [] h Q := by
  rw [k170_0]
  simp only [k170_1, if_true, if_false, ite_true, ite_false, not_true_eq_false, not_false_eq_true, true_or, or_true, false_or, or_false, and_self, ok_n0, ok_ni, ok_nr, ok_nl, va_rf_some, va_rf_none, true_and, and_true, List.length_nil, List.length_cons, Option.toList_some, Option.toList_none, List.cons_append, List.nil_append, rK_uA, rK_uI, rK_uJ, rK_uP, rP_uA, rP_uI, rP_uJ, rJ_uA, rJ_uI, rJ_uP, rI_uJ, rI_uP, rz_uA, rz_uI, rz_uJ, rz_uP, rs_uA, rs_uI, rs_uJ, rs_uP, Nat.reduceAdd, Nat.reduceMul, Nat.reduceSub, Nat.reduceLeDiff, Nat.reduceLT, Nat.reduceEqDiff, Nat.add_zero, Nat.zero_add, Nat.zero_le]
  exact s_screenAt_loop t t2 si x y Q n 0 h none (by omega) (SCR.rf M h) hQ
end INV
