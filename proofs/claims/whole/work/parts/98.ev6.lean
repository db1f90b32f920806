/-! EVENTS, 6: rectangle and rescreen -/
section EVS6
variable {h h' : pm_H} {X hd un wt d B F : Nat} {V : Nat → Nat → Int32} {W : Nat → Int32} {Sl : Nat → Option Nat}
theorem XR.wts {wt' : Nat} {W' : Nat → Int32} (R : XR h X hd un V wt W d B F Sl) (eK : rK h' = rK h) (eP : rP h' = rP h) (ez : rz h' = rz h) (ei : ∀ q, ¬ q = X → (q < X + 110 ∨ X + 114 ≤ q) → rI h' q = rI h q) (ej : rJ h' = rJ h) (w4 : wt' ≤ 4) (wi : rI h' X 4 = nI wt') (wb : ∀ j c, j < wt' → c < 4 → rI h' (X + 110 + j) c = W' (4 * j + c)) (wr : ∀ j, j < wt' → (-10000 ≤ (W' (4 * j)).toInt ∧ (W' (4 * j)).toInt ≤ 10000) ∧ (-10000 ≤ (W' (4 * j + 1)).toInt ∧ (W' (4 * j + 1)).toInt ≤ 10000) ∧ (1 ≤ (W' (4 * j + 2)).toInt ∧ (W' (4 * j + 2)).toInt ≤ 10000) ∧ (1 ≤ (W' (4 * j + 3)).toInt ∧ (W' (4 * j + 3)).toInt ≤ 10000)) : XR h' X hd un V wt' W' d B F Sl := by
  have bl : ∀ {z a}, DA X z a → ∀ q, a ≤ q → q < a + 53 → SQ h h' q := fun x q h1 h2 => ⟨by rw [eK], ei q (by have := x.lo; omega) (by have := x.lo; omega), by rw [ej], by rw [eP]⟩
  refine ⟨R.xk.cg eK eP, by rw [ez]; exact R.zz, by rw [eP]; exact R.pd, by rw [eP]; exact R.pb, R.hu, R.f40, by rw [ei _ (by omega) (by omega)]; exact R.f1, by rw [ei _ (by omega) (by omega)]; exact R.f2, by rw [ei _ (by omega) (by omega)]; exact R.f3, fun k hk => by rw [eP]; exact R.sl k hk, by rw [ez]; exact R.od, by rw [ez]; exact R.ob, R.kb.cg eK eP, R.db, fun k a hk ha => ?_, R.inj, R.gd.cgl (bl R.od), fun j hj => ?_, w4, wi, wb, wr⟩
  · obtain ⟨o1, o2, o3, o4⟩ := R.os k a hk ha
    exact ⟨by rw [ez]; exact o1, o2.cg eK eP, o3, o4⟩
  · obtain ⟨a, a1, a2⟩ := R.gs j hj
    exact ⟨a, a1, a2.cgl (bl (R.os _ a (Nat.mod_lt _ (by omega)) a1).1)⟩
theorem s_isCorner (x : Int32) (h : pm_H) (Q : Option Value × pm_H → Prop) : pGo 116 0 [some (.int x)] [] h Q = Q (some (.int (nb (decide (-10000 ≤ x ∧ x ≤ nI 10000)))), h) := by
  have e1 : x < -10000 ↔ ¬ -10000 ≤ x := by rw [Int32.not_le]
  have e2 : nI 10000 < x ↔ ¬ x ≤ nI 10000 := by rw [Int32.not_le]
  simp only [k116_0, k116_1, k116_4, k116_7, k116_8, k116_11, k116_14, k116_15, k116_18, k116_19, if_true, if_false, ite_true, ite_false, not_true_eq_false, not_false_eq_true, true_or, or_true, false_or, or_false, and_self, ok_n0, ok_ni, ok_nr, ok_nl, va_rf_some, va_rf_none, true_and, and_true, List.length_nil, List.length_cons, Option.toList_some, Option.toList_none, List.cons_append, List.nil_append, rK_uA, rK_uI, rK_uJ, rK_uP, rP_uA, rP_uI, rP_uJ, rJ_uA, rJ_uI, rJ_uP, rI_uJ, rI_uP, rz_uA, rz_uI, rz_uJ, rz_uP, rs_uA, rs_uI, rs_uJ, rs_uP, Nat.reduceAdd, Nat.reduceMul, Nat.reduceSub, Nat.reduceLeDiff, Nat.reduceLT, Nat.reduceEqDiff, Nat.add_zero, Nat.zero_add, Nat.zero_le, e1, e2]
  by_cases c1 : -10000 ≤ x
  · by_cases c2 : x ≤ nI 10000
    · simp only [c1, c2, if_true, if_false, ite_true, ite_false, not_true_eq_false, not_false_eq_true, true_or, or_true, false_or, or_false, and_self, ok_n0, ok_ni, ok_nr, ok_nl, va_rf_some, va_rf_none, true_and, and_true, List.length_nil, List.length_cons, Option.toList_some, Option.toList_none, List.cons_append, List.nil_append, rK_uA, rK_uI, rK_uJ, rK_uP, rP_uA, rP_uI, rP_uJ, rJ_uA, rJ_uI, rJ_uP, rI_uJ, rI_uP, rz_uA, rz_uI, rz_uJ, rz_uP, rs_uA, rs_uI, rs_uJ, rs_uP, Nat.reduceAdd, Nat.reduceMul, Nat.reduceSub, Nat.reduceLeDiff, Nat.reduceLT, Nat.reduceEqDiff, Nat.add_zero, Nat.zero_add, Nat.zero_le, decide_true, nb_t]
    · simp only [c1, c2, if_true, if_false, ite_true, ite_false, not_true_eq_false, not_false_eq_true, true_or, or_true, false_or, or_false, and_self, ok_n0, ok_ni, ok_nr, ok_nl, va_rf_some, va_rf_none, true_and, and_true, List.length_nil, List.length_cons, Option.toList_some, Option.toList_none, List.cons_append, List.nil_append, rK_uA, rK_uI, rK_uJ, rK_uP, rP_uA, rP_uI, rP_uJ, rJ_uA, rJ_uI, rJ_uP, rI_uJ, rI_uP, rz_uA, rz_uI, rz_uJ, rz_uP, rs_uA, rs_uI, rs_uJ, rs_uP, Nat.reduceAdd, Nat.reduceMul, Nat.reduceSub, Nat.reduceLeDiff, Nat.reduceLT, Nat.reduceEqDiff, Nat.add_zero, Nat.zero_add, Nat.zero_le, and_false, decide_false, nb_f]
  · simp only [c1, if_true, if_false, ite_true, ite_false, not_true_eq_false, not_false_eq_true, true_or, or_true, false_or, or_false, and_self, ok_n0, ok_ni, ok_nr, ok_nl, va_rf_some, va_rf_none, true_and, and_true, List.length_nil, List.length_cons, Option.toList_some, Option.toList_none, List.cons_append, List.nil_append, rK_uA, rK_uI, rK_uJ, rK_uP, rP_uA, rP_uI, rP_uJ, rJ_uA, rJ_uI, rJ_uP, rI_uJ, rI_uP, rz_uA, rz_uI, rz_uJ, rz_uP, rs_uA, rs_uI, rs_uJ, rs_uP, Nat.reduceAdd, Nat.reduceMul, Nat.reduceSub, Nat.reduceLeDiff, Nat.reduceLT, Nat.reduceEqDiff, Nat.add_zero, Nat.zero_add, Nat.zero_le, false_and, decide_false, nb_f]
theorem s_isFar (x : Int32) (h : pm_H) (Q : Option Value × pm_H → Prop) : pGo 153 0 [some (.int x)] [] h Q = Q (some (.int (nb (!decide (-10000 ≤ x ∧ x ≤ nI 10000)))), h) := by
  have e1 : x < -10000 ↔ ¬ -10000 ≤ x := by rw [Int32.not_le]
  simp only [k153_0, k153_1, k153_4, k153_7, k153_8, k153_11, k153_14, k153_15, k153_18, k153_19, if_true, if_false, ite_true, ite_false, not_true_eq_false, not_false_eq_true, true_or, or_true, false_or, or_false, and_self, ok_n0, ok_ni, ok_nr, ok_nl, va_rf_some, va_rf_none, true_and, and_true, List.length_nil, List.length_cons, Option.toList_some, Option.toList_none, List.cons_append, List.nil_append, rK_uA, rK_uI, rK_uJ, rK_uP, rP_uA, rP_uI, rP_uJ, rJ_uA, rJ_uI, rJ_uP, rI_uJ, rI_uP, rz_uA, rz_uI, rz_uJ, rz_uP, rs_uA, rs_uI, rs_uJ, rs_uP, Nat.reduceAdd, Nat.reduceMul, Nat.reduceSub, Nat.reduceLeDiff, Nat.reduceLT, Nat.reduceEqDiff, Nat.add_zero, Nat.zero_add, Nat.zero_le, e1]
  by_cases c1 : -10000 ≤ x
  · by_cases c2 : x ≤ nI 10000
    · simp only [c1, c2, if_true, if_false, ite_true, ite_false, not_true_eq_false, not_false_eq_true, true_or, or_true, false_or, or_false, and_self, ok_n0, ok_ni, ok_nr, ok_nl, va_rf_some, va_rf_none, true_and, and_true, List.length_nil, List.length_cons, Option.toList_some, Option.toList_none, List.cons_append, List.nil_append, rK_uA, rK_uI, rK_uJ, rK_uP, rP_uA, rP_uI, rP_uJ, rJ_uA, rJ_uI, rJ_uP, rI_uJ, rI_uP, rz_uA, rz_uI, rz_uJ, rz_uP, rs_uA, rs_uI, rs_uJ, rs_uP, Nat.reduceAdd, Nat.reduceMul, Nat.reduceSub, Nat.reduceLeDiff, Nat.reduceLT, Nat.reduceEqDiff, Nat.add_zero, Nat.zero_add, Nat.zero_le, decide_true, Bool.not_true, nb_f]
    · simp only [c1, c2, if_true, if_false, ite_true, ite_false, not_true_eq_false, not_false_eq_true, true_or, or_true, false_or, or_false, and_self, ok_n0, ok_ni, ok_nr, ok_nl, va_rf_some, va_rf_none, true_and, and_true, List.length_nil, List.length_cons, Option.toList_some, Option.toList_none, List.cons_append, List.nil_append, rK_uA, rK_uI, rK_uJ, rK_uP, rP_uA, rP_uI, rP_uJ, rJ_uA, rJ_uI, rJ_uP, rI_uJ, rI_uP, rz_uA, rz_uI, rz_uJ, rz_uP, rs_uA, rs_uI, rs_uJ, rs_uP, Nat.reduceAdd, Nat.reduceMul, Nat.reduceSub, Nat.reduceLeDiff, Nat.reduceLT, Nat.reduceEqDiff, Nat.add_zero, Nat.zero_add, Nat.zero_le, and_false, decide_false, Bool.not_false, nb_t]
  · simp only [c1, if_true, if_false, ite_true, ite_false, not_true_eq_false, not_false_eq_true, true_or, or_true, false_or, or_false, and_self, ok_n0, ok_ni, ok_nr, ok_nl, va_rf_some, va_rf_none, true_and, and_true, List.length_nil, List.length_cons, Option.toList_some, Option.toList_none, List.cons_append, List.nil_append, rK_uA, rK_uI, rK_uJ, rK_uP, rP_uA, rP_uI, rP_uJ, rJ_uA, rJ_uI, rJ_uP, rI_uJ, rI_uP, rz_uA, rz_uI, rz_uJ, rz_uP, rs_uA, rs_uI, rs_uJ, rs_uP, Nat.reduceAdd, Nat.reduceMul, Nat.reduceSub, Nat.reduceLeDiff, Nat.reduceLT, Nat.reduceEqDiff, Nat.add_zero, Nat.zero_add, Nat.zero_le, false_and, decide_false, Bool.not_false, nb_t]
theorem s_isLength (x : Int32) (h : pm_H) (Q : Option Value × pm_H → Prop) : pGo 117 0 [some (.int x)] [] h Q = Q (some (.int (nb (decide (nI 1 ≤ x ∧ x ≤ nI 10000)))), h) := by
  have e1 : x < nI 1 ↔ ¬ nI 1 ≤ x := by rw [Int32.not_le]
  have e2 : nI 10000 < x ↔ ¬ x ≤ nI 10000 := by rw [Int32.not_le]
  simp only [k117_0, k117_1, k117_2, k117_5, k117_6, k117_9, k117_12, k117_13, k117_16, k117_17, if_true, if_false, ite_true, ite_false, not_true_eq_false, not_false_eq_true, true_or, or_true, false_or, or_false, and_self, ok_n0, ok_ni, ok_nr, ok_nl, va_rf_some, va_rf_none, true_and, and_true, List.length_nil, List.length_cons, Option.toList_some, Option.toList_none, List.cons_append, List.nil_append, rK_uA, rK_uI, rK_uJ, rK_uP, rP_uA, rP_uI, rP_uJ, rJ_uA, rJ_uI, rJ_uP, rI_uJ, rI_uP, rz_uA, rz_uI, rz_uJ, rz_uP, rs_uA, rs_uI, rs_uJ, rs_uP, Nat.reduceAdd, Nat.reduceMul, Nat.reduceSub, Nat.reduceLeDiff, Nat.reduceLT, Nat.reduceEqDiff, Nat.add_zero, Nat.zero_add, Nat.zero_le, e1, e2]
  by_cases c1 : nI 1 ≤ x
  · by_cases c2 : x ≤ nI 10000
    · simp only [c1, c2, if_true, if_false, ite_true, ite_false, not_true_eq_false, not_false_eq_true, true_or, or_true, false_or, or_false, and_self, ok_n0, ok_ni, ok_nr, ok_nl, va_rf_some, va_rf_none, true_and, and_true, List.length_nil, List.length_cons, Option.toList_some, Option.toList_none, List.cons_append, List.nil_append, rK_uA, rK_uI, rK_uJ, rK_uP, rP_uA, rP_uI, rP_uJ, rJ_uA, rJ_uI, rJ_uP, rI_uJ, rI_uP, rz_uA, rz_uI, rz_uJ, rz_uP, rs_uA, rs_uI, rs_uJ, rs_uP, Nat.reduceAdd, Nat.reduceMul, Nat.reduceSub, Nat.reduceLeDiff, Nat.reduceLT, Nat.reduceEqDiff, Nat.add_zero, Nat.zero_add, Nat.zero_le, decide_true, nb_t]
    · simp only [c1, c2, if_true, if_false, ite_true, ite_false, not_true_eq_false, not_false_eq_true, true_or, or_true, false_or, or_false, and_self, ok_n0, ok_ni, ok_nr, ok_nl, va_rf_some, va_rf_none, true_and, and_true, List.length_nil, List.length_cons, Option.toList_some, Option.toList_none, List.cons_append, List.nil_append, rK_uA, rK_uI, rK_uJ, rK_uP, rP_uA, rP_uI, rP_uJ, rJ_uA, rJ_uI, rJ_uP, rI_uJ, rI_uP, rz_uA, rz_uI, rz_uJ, rz_uP, rs_uA, rs_uI, rs_uJ, rs_uP, Nat.reduceAdd, Nat.reduceMul, Nat.reduceSub, Nat.reduceLeDiff, Nat.reduceLT, Nat.reduceEqDiff, Nat.add_zero, Nat.zero_add, Nat.zero_le, and_false, decide_false, nb_f]
  · simp only [c1, if_true, if_false, ite_true, ite_false, not_true_eq_false, not_false_eq_true, true_or, or_true, false_or, or_false, and_self, ok_n0, ok_ni, ok_nr, ok_nl, va_rf_some, va_rf_none, true_and, and_true, List.length_nil, List.length_cons, Option.toList_some, Option.toList_none, List.cons_append, List.nil_append, rK_uA, rK_uI, rK_uJ, rK_uP, rP_uA, rP_uI, rP_uJ, rJ_uA, rJ_uI, rJ_uP, rI_uJ, rI_uP, rz_uA, rz_uI, rz_uJ, rz_uP, rs_uA, rs_uI, rs_uJ, rs_uP, Nat.reduceAdd, Nat.reduceMul, Nat.reduceSub, Nat.reduceLeDiff, Nat.reduceLT, Nat.reduceEqDiff, Nat.add_zero, Nat.zero_add, Nat.zero_le, false_and, decide_false, nb_f]
theorem m10000 : (-10000 : Int32).toInt = -10000 := by decide +kernel
theorem crn_b {x : Int32} (h : -10000 ≤ x ∧ x ≤ nI 10000) : -10000 ≤ x.toInt ∧ x.toInt ≤ 10000 := by
  have a := Int32.le_iff_toInt_le.mp h.1
  have b := Int32.le_iff_toInt_le.mp h.2
  rw [m10000] at a
  rw [nI_toInt (by omega)] at b
  omega
theorem len_b {x : Int32} (h : nI 1 ≤ x ∧ x ≤ nI 10000) : 1 ≤ x.toInt ∧ x.toInt ≤ 10000 := by
  have a := Int32.le_iff_toInt_le.mp h.1
  have b := Int32.le_iff_toInt_le.mp h.2
  rw [nI_toInt (by omega)] at a b
  omega
def wtW (W : Nat → Int32) (wt : Nat) (a b c e : Int32) (k : Nat) : Int32 := if k = 4 * wt then a else if k = 4 * wt + 1 then b else if k = 4 * wt + 2 then c else if k = 4 * wt + 3 then e else W k
theorem e_rectangle (R : XR h X hd un V wt W d B F Sl) (N : MR h (X + 115) hd un V wt W) (a b c e : Int32) : EV X h 99 [some (.ref X), some (.int a), some (.int b), some (.int c), some (.int e)] 154 [some (.ref (X + 115)), some (.int a), some (.int b), some (.int c), some (.int e)] := by
  have kX := R.xk.1
  have w4 := R.w4
  have wi := R.wi
  have wm := N.wi
  have kM := N.k.1
  have lt1 : ∀ y : Int32, (y < nI 1) = ¬ nI 1 ≤ y := fun y => by rw [Int32.not_le]
  have gtm : ∀ y : Int32, (nI 10000 < y) = ¬ y ≤ nI 10000 := fun y => by rw [Int32.not_le]
  by_cases c4 : wt = 4
  · subst c4
    refine ev_no (-1) R N (fun Q => ?_) (fun Q => ?_)
    · simp (disch := omega) only [k99_0, k99_1, k99_4, k99_5, k99_8, k99_9, k99_12, k99_15, k99_16, k99_19, k99_22, k99_23, k99_26, k99_29, k99_31, k99_34, k99_37, k99_38, k99_39, k99_40, k99_43, k99_44, k99_47, k99_48, k99_49, k99_50, k99_51, k99_53, k99_56, k99_57, k99_57i, k99_58, k99_61, k99_62, k99_63, k99_66, k99_67, k99_70, if_true, if_false, ite_true, ite_false, not_true_eq_false, not_false_eq_true, true_or, or_true, false_or, or_false, and_self, ok_n0, ok_ni, ok_nr, ok_nl, va_rf_some, va_rf_none, true_and, and_true, List.length_nil, List.length_cons, Option.toList_some, Option.toList_none, List.cons_append, List.nil_append, rK_uA, rK_uI, rK_uJ, rK_uP, rP_uA, rP_uI, rP_uJ, rJ_uA, rJ_uI, rJ_uP, rI_uJ, rI_uP, rz_uA, rz_uI, rz_uJ, rz_uP, rs_uA, rs_uI, rs_uJ, rs_uP, Nat.reduceAdd, Nat.reduceMul, Nat.reduceSub, Nat.reduceLeDiff, Nat.reduceLT, Nat.reduceEqDiff, Nat.add_zero, Nat.zero_add, Nat.zero_le, kX, wi, ar_le, Nat.le_refl]
    · simp (disch := omega) only [k154_0, k154_1, k154_4, k154_5, k154_8, k154_9, k154_12, k154_15, k154_16, k154_19, k154_22, k154_23, k154_24, k154_27, k154_28, k154_31, k154_34, k154_36, k154_37, k154_40, k154_42, k154_45, k154_48, k154_49, k154_50, k154_51, k154_54, k154_55, k154_56, k154_59, k154_60, k154_61, k154_62, k154_63, k154_66, k154_67, k154_68, k154_71, k154_72, k154_73, k154_74, k154_75, k154_76, k154_77, k154_80, k154_81, k154_82, k154_85, k154_86, k154_87, k154_88, k154_89, k154_90, k154_91, k154_94, k154_95, k154_96, k154_99, k154_100, k154_101, k154_102, k154_104, k154_105, k154_106, k154_106i, k154_107, k154_110, k154_111, k154_112, k154_115, k154_116, k154_119, if_true, if_false, ite_true, ite_false, not_true_eq_false, not_false_eq_true, true_or, or_true, false_or, or_false, and_self, ok_n0, ok_ni, ok_nr, ok_nl, va_rf_some, va_rf_none, true_and, and_true, List.length_nil, List.length_cons, Option.toList_some, Option.toList_none, List.cons_append, List.nil_append, rK_uA, rK_uI, rK_uJ, rK_uP, rP_uA, rP_uI, rP_uJ, rJ_uA, rJ_uI, rJ_uP, rI_uJ, rI_uP, rz_uA, rz_uI, rz_uJ, rz_uP, rs_uA, rs_uI, rs_uJ, rs_uP, Nat.reduceAdd, Nat.reduceMul, Nat.reduceSub, Nat.reduceLeDiff, Nat.reduceLT, Nat.reduceEqDiff, Nat.add_zero, Nat.zero_add, Nat.zero_le, kM, wm, ar_eq]
  · have g4 : ¬ 4 ≤ wt := by omega
    by_cases ca : -10000 ≤ a ∧ a ≤ nI 10000
    · by_cases cb : -10000 ≤ b ∧ b ≤ nI 10000
      · by_cases cc : nI 1 ≤ c ∧ c ≤ nI 10000
        · by_cases ce : nI 1 ≤ e ∧ e ≤ nI 10000
          · -- it is taken
            have wlt : wt < 4 := by omega
            obtain ⟨k0, k1, k2, k3, k4, k5, k6, k7, k8, k9, k10⟩ := R.xk
            have xp := s_Box_put (h := h) (a := X + 110 + wt) (k8 wt wlt) a b c e
            generalize hh1 : uA h (X + 110 + wt) (bx4 (rI h (X + 110 + wt)) a b c e) = h1 at xp
            have K1 : rK h1 = rK h := by rw [← hh1, rK_uA]
            have I1 : rI h1 X = rI h X := by rw [← hh1, rI_uA, if_neg (by omega)]
            have R' : XR (uI h1 X 4 (nI (wt + 1))) X hd un V (wt + 1) (wtW W wt a b c e) d B F Sl := by
              refine R.wts (by rw [rK_uI, K1]) (by rw [rP_uI, ← hh1, rP_uA]) (by rw [rz_uI, ← hh1, rz_uA]) (fun q h1 h2 => by rw [rI_uI, if_neg h1, ← hh1, rI_uA, if_neg (by omega)]) (by rw [rJ_uI, ← hh1, rJ_uA]) (by omega) (by rw [rI_uI, if_pos rfl, pk_us]) (fun j cc hj hc => ?_) (fun j hj => ?_)
              · rw [rI_uI, if_neg (by omega), ← hh1, rI_uA, wtW]
                by_cases z : j = wt
                · subst z
                  rw [if_pos rfl]
                  rcases (show cc = 0 ∨ cc = 1 ∨ cc = 2 ∨ cc = 3 by omega) with rfl | rfl | rfl | rfl
                  · rw [bx4_0, if_pos (by omega)]
                  · rw [bx4_1, if_neg (by omega), if_pos (by omega)]
                  · rw [bx4_2, if_neg (by omega), if_neg (by omega), if_pos (by omega)]
                  · rw [bx4_3, if_neg (by omega), if_neg (by omega), if_neg (by omega), if_pos (by omega)]
                · rw [if_neg (by omega), if_neg (by omega), if_neg (by omega), if_neg (by omega), if_neg (by omega)]
                  exact R.wb j cc (by omega) hc
              · rw [wtW, wtW, wtW, wtW]
                by_cases z : j = wt
                · subst z
                  rw [if_pos (by omega), if_neg (by omega), if_pos (by omega), if_neg (by omega), if_neg (by omega), if_pos (by omega), if_neg (by omega), if_neg (by omega), if_neg (by omega), if_pos (by omega)]
                  exact ⟨crn_b ca, crn_b cb, len_b cc, len_b ce⟩
                · rw [if_neg (by omega), if_neg (by omega), if_neg (by omega), if_neg (by omega), if_neg (by omega), if_neg (by omega), if_neg (by omega), if_neg (by omega), if_neg (by omega), if_neg (by omega), if_neg (by omega), if_neg (by omega), if_neg (by omega), if_neg (by omega), if_neg (by omega), if_neg (by omega)]
                  exact R.wr j (by omega)
            have f' : XF X h (uI h1 X 4 (nI (wt + 1))) := ⟨fun q hq => by rw [← hh1]; exact (SQ.uA _ _ (by omega)).tr (SQ.uI _ _ _ (by omega)), by rw [rz_uI, ← hh1, rz_uA]; omega, by rw [rs_uI, ← hh1, rs_uA]; omega⟩
            have N1 := f'.mr N
            generalize hh2 : uI h1 X 4 (nI (wt + 1)) = h2 at R' f' N1
            have kM2 := N1.k.1
            have wm2 := N1.wi
            have N' : MR (uI (uA h2 (X + 115 + 2) (upd (upd (upd (upd (rI h2 (X + 115 + 2)) (4 * wt) a) (4 * wt + 1) b) (4 * wt + 2) c) (4 * wt + 3) e)) (X + 115) 5 (nI (wt + 1))) (X + 115) hd un V (wt + 1) (wtW W wt a b c e) := by
              refine ⟨N1.k, N1.k2, ?_, ?_, ?_, N1.h40, fun j x h1 h2 => ?_, by omega, ?_, fun k hk => ?_⟩
              · rw [rI_uI, if_pos rfl, upd_at, if_neg (by omega), rI_uA, if_neg (by omega)]; exact N1.m1
              · rw [rI_uI, if_pos rfl, upd_at, if_neg (by omega), rI_uA, if_neg (by omega)]; exact N1.m2
              · rw [rI_uI, if_pos rfl, upd_at, if_neg (by omega), rI_uA, if_neg (by omega)]; exact N1.m3
              · rw [rI_uI, if_neg (by omega), rI_uA, if_neg (by omega)]; exact N1.vv j x h1 h2
              · rw [rI_uI, if_pos rfl, pk_us]
              · rw [rI_uI, if_neg (by omega), rI_uA, if_pos rfl, upd_at, upd_at, upd_at, upd_at, wtW]
                by_cases z3 : k = 4 * wt + 3
                · rw [if_pos z3, if_neg (by omega), if_neg (by omega), if_neg (by omega), if_pos z3]
                · rw [if_neg z3]
                  by_cases z2 : k = 4 * wt + 2
                  · rw [if_pos z2, if_neg (by omega), if_neg (by omega), if_pos z2]
                  · rw [if_neg z2]
                    by_cases z1 : k = 4 * wt + 1
                    · rw [if_pos z1, if_neg (by omega), if_pos z1]
                    · rw [if_neg z1]
                      by_cases z0 : k = 4 * wt
                      · rw [if_pos z0, if_pos z0]
                      · rw [if_neg z0, if_neg z0, if_neg z1, if_neg z2, if_neg z3]; exact N1.wb k (by omega)
            refine ev_two (nI (wt + 1)) R' f' N' ((MF.uA _ _ (by omega) (by omega)).tr (MF.uI _ _ _ (by omega) (by omega))) (fun Q => ?_) (fun Q => ?_)
            · have wi2 : rI h2 X 4 = nI (wt + 1) := by rw [← hh2, rI_uI, if_pos rfl, pk_us]
              have K2 : rK h2 = rK h := by rw [← hh2, rK_uI, K1]
              simp (disch := omega) only [k99_0, k99_1, k99_4, k99_5, k99_8, k99_9, k99_12, k99_15, k99_16, k99_19, k99_22, k99_23, k99_26, k99_29, k99_31, k99_34, k99_37, k99_38, k99_39, k99_40, k99_43, k99_44, k99_47, k99_48, k99_49, k99_50, k99_51, k99_53, k99_56, k99_57, k99_57i, k99_58, k99_61, k99_62, k99_63, k99_66, k99_67, k99_70, s_isCorner, s_isLength, ca, cb, cc, ce, decide_true, nb_t, n1_0, xp, if_true, if_false, ite_true, ite_false, not_true_eq_false, not_false_eq_true, true_or, or_true, false_or, or_false, and_self, ok_n0, ok_ni, ok_nr, ok_nl, va_rf_some, va_rf_none, true_and, and_true, List.length_nil, List.length_cons, Option.toList_some, Option.toList_none, List.cons_append, List.nil_append, rK_uA, rK_uI, rK_uJ, rK_uP, rP_uA, rP_uI, rP_uJ, rJ_uA, rJ_uI, rJ_uP, rI_uJ, rI_uP, rz_uA, rz_uI, rz_uJ, rz_uP, rs_uA, rs_uI, rs_uJ, rs_uP, Nat.reduceAdd, Nat.reduceMul, Nat.reduceSub, Nat.reduceLeDiff, Nat.reduceLT, Nat.reduceEqDiff, Nat.add_zero, Nat.zero_add, Nat.zero_le, kX, wi, K1, K2, I1, wi2, hh2, k5, k6, k7 wt wlt, k8 wt wlt, ar_le, ar_add, ar_okr, ar_cl, g4, wlt]
            · have d1 : ¬ X + 115 = X + 115 + 2 := by omega
              have c0 : 4 * wt < 16 := by omega
              have c1 : 4 * wt + 1 < 16 := by omega
              have c2 : 4 * wt + 2 < 16 := by omega
              have c3 : 4 * wt + 3 < 16 := by omega
              simp (disch := omega) only [k154_0, k154_1, k154_4, k154_5, k154_8, k154_9, k154_12, k154_15, k154_16, k154_19, k154_22, k154_23, k154_24, k154_27, k154_28, k154_31, k154_34, k154_36, k154_37, k154_40, k154_42, k154_45, k154_48, k154_49, k154_50, k154_51, k154_54, k154_55, k154_56, k154_59, k154_60, k154_61, k154_62, k154_63, k154_66, k154_67, k154_68, k154_71, k154_72, k154_73, k154_74, k154_75, k154_76, k154_77, k154_80, k154_81, k154_82, k154_85, k154_86, k154_87, k154_88, k154_89, k154_90, k154_91, k154_94, k154_95, k154_96, k154_99, k154_100, k154_101, k154_102, k154_104, k154_105, k154_106, k154_106i, k154_107, k154_110, k154_111, k154_112, k154_115, k154_116, k154_119, s_isFar, ca, cb, cc.1, cc.2, ce.1, ce.2, lt1, gtm, decide_true, Bool.not_true, nb_f, if_true, if_false, ite_true, ite_false, not_true_eq_false, not_false_eq_true, true_or, or_true, false_or, or_false, and_self, ok_n0, ok_ni, ok_nr, ok_nl, va_rf_some, va_rf_none, true_and, and_true, List.length_nil, List.length_cons, Option.toList_some, Option.toList_none, List.cons_append, List.nil_append, rK_uA, rK_uI, rK_uJ, rK_uP, rP_uA, rP_uI, rP_uJ, rJ_uA, rJ_uI, rJ_uP, rI_uJ, rI_uP, rz_uA, rz_uI, rz_uJ, rz_uP, rs_uA, rs_uI, rs_uJ, rs_uP, Nat.reduceAdd, Nat.reduceMul, Nat.reduceSub, Nat.reduceLeDiff, Nat.reduceLT, Nat.reduceEqDiff, Nat.add_zero, Nat.zero_add, Nat.zero_le, kM2, wm2, N1.k.2.2.2.1, N1.k.2.2.2.2.1, ar_eq, ar_mul, ar_add, ar_okw, ar_cl, c4, c0, c1, c2, c3, uI_eq, rI_uA, uA_uA, d1, upd_at]
          · refine ev_no (-1) R N (fun Q => ?_) (fun Q => ?_)
            · simp (disch := omega) only [k99_0, k99_1, k99_4, k99_5, k99_8, k99_9, k99_12, k99_15, k99_16, k99_19, k99_22, k99_23, k99_26, k99_29, k99_31, k99_34, k99_37, k99_38, k99_39, k99_40, k99_43, k99_44, k99_47, k99_48, k99_49, k99_50, k99_51, k99_53, k99_56, k99_57, k99_57i, k99_58, k99_61, k99_62, k99_63, k99_66, k99_67, k99_70, s_isCorner, s_isLength, ca, cb, cc, ce, decide_true, decide_false, nb_t, nb_f, n1_0, if_true, if_false, ite_true, ite_false, not_true_eq_false, not_false_eq_true, true_or, or_true, false_or, or_false, and_self, ok_n0, ok_ni, ok_nr, ok_nl, va_rf_some, va_rf_none, true_and, and_true, List.length_nil, List.length_cons, Option.toList_some, Option.toList_none, List.cons_append, List.nil_append, rK_uA, rK_uI, rK_uJ, rK_uP, rP_uA, rP_uI, rP_uJ, rJ_uA, rJ_uI, rJ_uP, rI_uJ, rI_uP, rz_uA, rz_uI, rz_uJ, rz_uP, rs_uA, rs_uI, rs_uJ, rs_uP, Nat.reduceAdd, Nat.reduceMul, Nat.reduceSub, Nat.reduceLeDiff, Nat.reduceLT, Nat.reduceEqDiff, Nat.add_zero, Nat.zero_add, Nat.zero_le, kX, wi, ar_le, g4]
            · simp (disch := omega) only [k154_0, k154_1, k154_4, k154_5, k154_8, k154_9, k154_12, k154_15, k154_16, k154_19, k154_22, k154_23, k154_24, k154_27, k154_28, k154_31, k154_34, k154_36, k154_37, k154_40, k154_42, k154_45, k154_48, k154_49, k154_50, k154_51, k154_54, k154_55, k154_56, k154_59, k154_60, k154_61, k154_62, k154_63, k154_66, k154_67, k154_68, k154_71, k154_72, k154_73, k154_74, k154_75, k154_76, k154_77, k154_80, k154_81, k154_82, k154_85, k154_86, k154_87, k154_88, k154_89, k154_90, k154_91, k154_94, k154_95, k154_96, k154_99, k154_100, k154_101, k154_102, k154_104, k154_105, k154_106, k154_106i, k154_107, k154_110, k154_111, k154_112, k154_115, k154_116, k154_119, s_isFar, ca, cb, cc.1, cc.2, lt1, gtm, decide_true, Bool.not_true, nb_f, if_true, if_false, ite_true, ite_false, not_true_eq_false, not_false_eq_true, true_or, or_true, false_or, or_false, and_self, ok_n0, ok_ni, ok_nr, ok_nl, va_rf_some, va_rf_none, true_and, and_true, List.length_nil, List.length_cons, Option.toList_some, Option.toList_none, List.cons_append, List.nil_append, rK_uA, rK_uI, rK_uJ, rK_uP, rP_uA, rP_uI, rP_uJ, rJ_uA, rJ_uI, rJ_uP, rI_uJ, rI_uP, rz_uA, rz_uI, rz_uJ, rz_uP, rs_uA, rs_uI, rs_uJ, rs_uP, Nat.reduceAdd, Nat.reduceMul, Nat.reduceSub, Nat.reduceLeDiff, Nat.reduceLT, Nat.reduceEqDiff, Nat.add_zero, Nat.zero_add, Nat.zero_le, kM, wm, ar_eq, c4]
              by_cases c1 : nI 1 ≤ e
              · have c2 : ¬ e ≤ nI 10000 := fun y => ce ⟨c1, y⟩
                simp only [c1, c2, if_true, if_false, ite_true, ite_false, not_true_eq_false, not_false_eq_true, true_or, or_true, false_or, or_false, and_self, ok_n0, ok_ni, ok_nr, ok_nl, va_rf_some, va_rf_none, true_and, and_true, List.length_nil, List.length_cons, Option.toList_some, Option.toList_none, List.cons_append, List.nil_append, rK_uA, rK_uI, rK_uJ, rK_uP, rP_uA, rP_uI, rP_uJ, rJ_uA, rJ_uI, rJ_uP, rI_uJ, rI_uP, rz_uA, rz_uI, rz_uJ, rz_uP, rs_uA, rs_uI, rs_uJ, rs_uP, Nat.reduceAdd, Nat.reduceMul, Nat.reduceSub, Nat.reduceLeDiff, Nat.reduceLT, Nat.reduceEqDiff, Nat.add_zero, Nat.zero_add, Nat.zero_le]
              · simp only [c1, if_true, if_false, ite_true, ite_false, not_true_eq_false, not_false_eq_true, true_or, or_true, false_or, or_false, and_self, ok_n0, ok_ni, ok_nr, ok_nl, va_rf_some, va_rf_none, true_and, and_true, List.length_nil, List.length_cons, Option.toList_some, Option.toList_none, List.cons_append, List.nil_append, rK_uA, rK_uI, rK_uJ, rK_uP, rP_uA, rP_uI, rP_uJ, rJ_uA, rJ_uI, rJ_uP, rI_uJ, rI_uP, rz_uA, rz_uI, rz_uJ, rz_uP, rs_uA, rs_uI, rs_uJ, rs_uP, Nat.reduceAdd, Nat.reduceMul, Nat.reduceSub, Nat.reduceLeDiff, Nat.reduceLT, Nat.reduceEqDiff, Nat.add_zero, Nat.zero_add, Nat.zero_le]
        · refine ev_no (-1) R N (fun Q => ?_) (fun Q => ?_)
          · simp (disch := omega) only [k99_0, k99_1, k99_4, k99_5, k99_8, k99_9, k99_12, k99_15, k99_16, k99_19, k99_22, k99_23, k99_26, k99_29, k99_31, k99_34, k99_37, k99_38, k99_39, k99_40, k99_43, k99_44, k99_47, k99_48, k99_49, k99_50, k99_51, k99_53, k99_56, k99_57, k99_57i, k99_58, k99_61, k99_62, k99_63, k99_66, k99_67, k99_70, s_isCorner, s_isLength, ca, cb, cc, decide_true, decide_false, nb_t, nb_f, n1_0, if_true, if_false, ite_true, ite_false, not_true_eq_false, not_false_eq_true, true_or, or_true, false_or, or_false, and_self, ok_n0, ok_ni, ok_nr, ok_nl, va_rf_some, va_rf_none, true_and, and_true, List.length_nil, List.length_cons, Option.toList_some, Option.toList_none, List.cons_append, List.nil_append, rK_uA, rK_uI, rK_uJ, rK_uP, rP_uA, rP_uI, rP_uJ, rJ_uA, rJ_uI, rJ_uP, rI_uJ, rI_uP, rz_uA, rz_uI, rz_uJ, rz_uP, rs_uA, rs_uI, rs_uJ, rs_uP, Nat.reduceAdd, Nat.reduceMul, Nat.reduceSub, Nat.reduceLeDiff, Nat.reduceLT, Nat.reduceEqDiff, Nat.add_zero, Nat.zero_add, Nat.zero_le, kX, wi, ar_le, g4]
          · simp (disch := omega) only [k154_0, k154_1, k154_4, k154_5, k154_8, k154_9, k154_12, k154_15, k154_16, k154_19, k154_22, k154_23, k154_24, k154_27, k154_28, k154_31, k154_34, k154_36, k154_37, k154_40, k154_42, k154_45, k154_48, k154_49, k154_50, k154_51, k154_54, k154_55, k154_56, k154_59, k154_60, k154_61, k154_62, k154_63, k154_66, k154_67, k154_68, k154_71, k154_72, k154_73, k154_74, k154_75, k154_76, k154_77, k154_80, k154_81, k154_82, k154_85, k154_86, k154_87, k154_88, k154_89, k154_90, k154_91, k154_94, k154_95, k154_96, k154_99, k154_100, k154_101, k154_102, k154_104, k154_105, k154_106, k154_106i, k154_107, k154_110, k154_111, k154_112, k154_115, k154_116, k154_119, s_isFar, ca, cb, lt1, gtm, decide_true, Bool.not_true, nb_f, if_true, if_false, ite_true, ite_false, not_true_eq_false, not_false_eq_true, true_or, or_true, false_or, or_false, and_self, ok_n0, ok_ni, ok_nr, ok_nl, va_rf_some, va_rf_none, true_and, and_true, List.length_nil, List.length_cons, Option.toList_some, Option.toList_none, List.cons_append, List.nil_append, rK_uA, rK_uI, rK_uJ, rK_uP, rP_uA, rP_uI, rP_uJ, rJ_uA, rJ_uI, rJ_uP, rI_uJ, rI_uP, rz_uA, rz_uI, rz_uJ, rz_uP, rs_uA, rs_uI, rs_uJ, rs_uP, Nat.reduceAdd, Nat.reduceMul, Nat.reduceSub, Nat.reduceLeDiff, Nat.reduceLT, Nat.reduceEqDiff, Nat.add_zero, Nat.zero_add, Nat.zero_le, kM, wm, ar_eq, c4]
            by_cases c1 : nI 1 ≤ c
            · have c2 : ¬ c ≤ nI 10000 := fun y => cc ⟨c1, y⟩
              simp only [c1, c2, if_true, if_false, ite_true, ite_false, not_true_eq_false, not_false_eq_true, true_or, or_true, false_or, or_false, and_self, ok_n0, ok_ni, ok_nr, ok_nl, va_rf_some, va_rf_none, true_and, and_true, List.length_nil, List.length_cons, Option.toList_some, Option.toList_none, List.cons_append, List.nil_append, rK_uA, rK_uI, rK_uJ, rK_uP, rP_uA, rP_uI, rP_uJ, rJ_uA, rJ_uI, rJ_uP, rI_uJ, rI_uP, rz_uA, rz_uI, rz_uJ, rz_uP, rs_uA, rs_uI, rs_uJ, rs_uP, Nat.reduceAdd, Nat.reduceMul, Nat.reduceSub, Nat.reduceLeDiff, Nat.reduceLT, Nat.reduceEqDiff, Nat.add_zero, Nat.zero_add, Nat.zero_le]
            · simp only [c1, if_true, if_false, ite_true, ite_false, not_true_eq_false, not_false_eq_true, true_or, or_true, false_or, or_false, and_self, ok_n0, ok_ni, ok_nr, ok_nl, va_rf_some, va_rf_none, true_and, and_true, List.length_nil, List.length_cons, Option.toList_some, Option.toList_none, List.cons_append, List.nil_append, rK_uA, rK_uI, rK_uJ, rK_uP, rP_uA, rP_uI, rP_uJ, rJ_uA, rJ_uI, rJ_uP, rI_uJ, rI_uP, rz_uA, rz_uI, rz_uJ, rz_uP, rs_uA, rs_uI, rs_uJ, rs_uP, Nat.reduceAdd, Nat.reduceMul, Nat.reduceSub, Nat.reduceLeDiff, Nat.reduceLT, Nat.reduceEqDiff, Nat.add_zero, Nat.zero_add, Nat.zero_le]
      · refine ev_no (-1) R N (fun Q => ?_) (fun Q => ?_)
        · simp (disch := omega) only [k99_0, k99_1, k99_4, k99_5, k99_8, k99_9, k99_12, k99_15, k99_16, k99_19, k99_22, k99_23, k99_26, k99_29, k99_31, k99_34, k99_37, k99_38, k99_39, k99_40, k99_43, k99_44, k99_47, k99_48, k99_49, k99_50, k99_51, k99_53, k99_56, k99_57, k99_57i, k99_58, k99_61, k99_62, k99_63, k99_66, k99_67, k99_70, s_isCorner, ca, cb, decide_true, decide_false, nb_t, nb_f, n1_0, if_true, if_false, ite_true, ite_false, not_true_eq_false, not_false_eq_true, true_or, or_true, false_or, or_false, and_self, ok_n0, ok_ni, ok_nr, ok_nl, va_rf_some, va_rf_none, true_and, and_true, List.length_nil, List.length_cons, Option.toList_some, Option.toList_none, List.cons_append, List.nil_append, rK_uA, rK_uI, rK_uJ, rK_uP, rP_uA, rP_uI, rP_uJ, rJ_uA, rJ_uI, rJ_uP, rI_uJ, rI_uP, rz_uA, rz_uI, rz_uJ, rz_uP, rs_uA, rs_uI, rs_uJ, rs_uP, Nat.reduceAdd, Nat.reduceMul, Nat.reduceSub, Nat.reduceLeDiff, Nat.reduceLT, Nat.reduceEqDiff, Nat.add_zero, Nat.zero_add, Nat.zero_le, kX, wi, ar_le, g4]
        · simp (disch := omega) only [k154_0, k154_1, k154_4, k154_5, k154_8, k154_9, k154_12, k154_15, k154_16, k154_19, k154_22, k154_23, k154_24, k154_27, k154_28, k154_31, k154_34, k154_36, k154_37, k154_40, k154_42, k154_45, k154_48, k154_49, k154_50, k154_51, k154_54, k154_55, k154_56, k154_59, k154_60, k154_61, k154_62, k154_63, k154_66, k154_67, k154_68, k154_71, k154_72, k154_73, k154_74, k154_75, k154_76, k154_77, k154_80, k154_81, k154_82, k154_85, k154_86, k154_87, k154_88, k154_89, k154_90, k154_91, k154_94, k154_95, k154_96, k154_99, k154_100, k154_101, k154_102, k154_104, k154_105, k154_106, k154_106i, k154_107, k154_110, k154_111, k154_112, k154_115, k154_116, k154_119, s_isFar, ca, cb, decide_true, decide_false, Bool.not_true, Bool.not_false, nb_t, n1_0, nb_f, if_true, if_false, ite_true, ite_false, not_true_eq_false, not_false_eq_true, true_or, or_true, false_or, or_false, and_self, ok_n0, ok_ni, ok_nr, ok_nl, va_rf_some, va_rf_none, true_and, and_true, List.length_nil, List.length_cons, Option.toList_some, Option.toList_none, List.cons_append, List.nil_append, rK_uA, rK_uI, rK_uJ, rK_uP, rP_uA, rP_uI, rP_uJ, rJ_uA, rJ_uI, rJ_uP, rI_uJ, rI_uP, rz_uA, rz_uI, rz_uJ, rz_uP, rs_uA, rs_uI, rs_uJ, rs_uP, Nat.reduceAdd, Nat.reduceMul, Nat.reduceSub, Nat.reduceLeDiff, Nat.reduceLT, Nat.reduceEqDiff, Nat.add_zero, Nat.zero_add, Nat.zero_le, kM, wm, ar_eq, c4]
    · refine ev_no (-1) R N (fun Q => ?_) (fun Q => ?_)
      · simp (disch := omega) only [k99_0, k99_1, k99_4, k99_5, k99_8, k99_9, k99_12, k99_15, k99_16, k99_19, k99_22, k99_23, k99_26, k99_29, k99_31, k99_34, k99_37, k99_38, k99_39, k99_40, k99_43, k99_44, k99_47, k99_48, k99_49, k99_50, k99_51, k99_53, k99_56, k99_57, k99_57i, k99_58, k99_61, k99_62, k99_63, k99_66, k99_67, k99_70, s_isCorner, ca, decide_false, nb_f, if_true, if_false, ite_true, ite_false, not_true_eq_false, not_false_eq_true, true_or, or_true, false_or, or_false, and_self, ok_n0, ok_ni, ok_nr, ok_nl, va_rf_some, va_rf_none, true_and, and_true, List.length_nil, List.length_cons, Option.toList_some, Option.toList_none, List.cons_append, List.nil_append, rK_uA, rK_uI, rK_uJ, rK_uP, rP_uA, rP_uI, rP_uJ, rJ_uA, rJ_uI, rJ_uP, rI_uJ, rI_uP, rz_uA, rz_uI, rz_uJ, rz_uP, rs_uA, rs_uI, rs_uJ, rs_uP, Nat.reduceAdd, Nat.reduceMul, Nat.reduceSub, Nat.reduceLeDiff, Nat.reduceLT, Nat.reduceEqDiff, Nat.add_zero, Nat.zero_add, Nat.zero_le, kX, wi, ar_le, g4]
      · simp (disch := omega) only [k154_0, k154_1, k154_4, k154_5, k154_8, k154_9, k154_12, k154_15, k154_16, k154_19, k154_22, k154_23, k154_24, k154_27, k154_28, k154_31, k154_34, k154_36, k154_37, k154_40, k154_42, k154_45, k154_48, k154_49, k154_50, k154_51, k154_54, k154_55, k154_56, k154_59, k154_60, k154_61, k154_62, k154_63, k154_66, k154_67, k154_68, k154_71, k154_72, k154_73, k154_74, k154_75, k154_76, k154_77, k154_80, k154_81, k154_82, k154_85, k154_86, k154_87, k154_88, k154_89, k154_90, k154_91, k154_94, k154_95, k154_96, k154_99, k154_100, k154_101, k154_102, k154_104, k154_105, k154_106, k154_106i, k154_107, k154_110, k154_111, k154_112, k154_115, k154_116, k154_119, s_isFar, ca, decide_false, Bool.not_false, nb_t, n1_0, if_true, if_false, ite_true, ite_false, not_true_eq_false, not_false_eq_true, true_or, or_true, false_or, or_false, and_self, ok_n0, ok_ni, ok_nr, ok_nl, va_rf_some, va_rf_none, true_and, and_true, List.length_nil, List.length_cons, Option.toList_some, Option.toList_none, List.cons_append, List.nil_append, rK_uA, rK_uI, rK_uJ, rK_uP, rP_uA, rP_uI, rP_uJ, rJ_uA, rJ_uI, rJ_uP, rI_uJ, rI_uP, rz_uA, rz_uI, rz_uJ, rz_uP, rs_uA, rs_uI, rs_uJ, rs_uP, Nat.reduceAdd, Nat.reduceMul, Nat.reduceSub, Nat.reduceLeDiff, Nat.reduceLT, Nat.reduceEqDiff, Nat.add_zero, Nat.zero_add, Nat.zero_le, kM, wm, ar_eq, c4]
/-! rescreen -/
theorem DV.mix2 {v v' : Nat → Int32} {n m : Nat} {C H : Nat → Nat} (t : DV h d v n C H) (u : DVS h' d v' m) (hn : m ≤ 4) (f : FRD (d + 39) (d + 50) h h') : DV h' d (mixV v' v) m C H := by
  have u := u.cg (v' := mixV v' v) hn (fun e he => mix_lo _ _ he)
  refine ⟨t.k.cg f.fk f.fp, u.many, u.cur, u.vsz, u.hsz, u.ws, u.bx, u.vis, u.hid, fun i c hi hc => ?_, fun i hi => ?_, fun i hi => ?_, fun i k hi hk => ?_, fun w hw => ?_, fun w c hw hc => ?_, fun w => ?_⟩
  · rw [f.fi _ (by omega), mix_hi _ _ (by omega)]; exact t.lay i c hi hc
  · rw [f.fi _ (by omega), mix_hi _ _ (by omega)]; exact t.cnt i hi
  · rw [f.fi _ (by omega), mix_hi _ _ (by omega)]; exact t.foc i hi
  · rw [f.fi _ (by omega), mix_hi _ _ (by omega)]; exact t.ord i k hi hk
  · rw [f.fi _ (by omega), t.hom w hw, mix_hi _ _ (by omega)]
  · rw [f.fi _ (by omega), t.shr w c hw hc, mix_hi _ _ (by omega)]
  · rw [f.fj _ (by omega), t.bit w, mix_hi _ _ (by omega)]
theorem fil_cg (u : Nat → Int32) (b : Nat) {g g2 : Nat → Int32} {k : Nat} (e : ∀ j, j < k → g j = g2 j) : fil u b g k = fil u b g2 k := by
  funext x
  simp only [fil]
  by_cases z : b ≤ x ∧ x < b + k
  · rw [if_pos z, if_pos z, e _ (by omega)]
  · rw [if_neg z, if_neg z]
theorem new_cg (v : Nat → Int32) {wt : Nat} {W W2 : Nat → Int32} (ro : Nat → Nat) (e : ∀ j, j < 4 * wt → W j = W2 j) : newV v wt W ro = newV v wt W2 ro := by
  rw [newV, newV, fil_cg _ 5 e]
theorem frd_uIb {a b : Nat} (f : FRD a b h h') {q : Nat} (hq : q < a ∨ b ≤ q) (k : Nat) (x : Int32) : FRD a b (uI h q k x) (uI h' q k x) := by
  refine ⟨f.fk, f.fp, f.fz, f.fs, fun z hz => ?_, fun z hz => f.fj z hz⟩
  rw [rI_uI, rI_uI, f.fi q hq]
  split
  · rfl
  · exact f.fi z hz
theorem e_rescreen (R : XR h X hd un V wt W d B F Sl) (N : MR h (X + 115) hd un V wt W) : EV X h 100 [some (.ref X)] 155 [some (.ref (X + 115)), none, none] := by
  have kX := R.xk.1
  have wi := R.wi
  have wm := N.wi
  have w4 := R.w4
  have kM := N.k.1
  by_cases w0 : wt = 0
  · subst w0
    refine ev_no (nI 0) R N (fun Q => ?_) (fun Q => ?_)
    · simp only [k100_0, k100_1, k100_4, k100_7, k100_8, k100_9, k100_10, k100_13, k100_14, k100_17, k100_20, k100_21, k100_24, k100_25, k100_28, k100_31, k100_32, k100_33, k100_36, k100_37, k100_40, if_true, if_false, ite_true, ite_false, not_true_eq_false, not_false_eq_true, true_or, or_true, false_or, or_false, and_self, ok_n0, ok_ni, ok_nr, ok_nl, va_rf_some, va_rf_none, true_and, and_true, List.length_nil, List.length_cons, Option.toList_some, Option.toList_none, List.cons_append, List.nil_append, rK_uA, rK_uI, rK_uJ, rK_uP, rP_uA, rP_uI, rP_uJ, rJ_uA, rJ_uI, rJ_uP, rI_uJ, rI_uP, rz_uA, rz_uI, rz_uJ, rz_uP, rs_uA, rs_uI, rs_uJ, rs_uP, Nat.reduceAdd, Nat.reduceMul, Nat.reduceSub, Nat.reduceLeDiff, Nat.reduceLT, Nat.reduceEqDiff, Nat.add_zero, Nat.zero_add, Nat.zero_le, kX, wi]
    · simp only [k155_0, k155_1, k155_4, k155_7, k155_8, if_true, if_false, ite_true, ite_false, not_true_eq_false, not_false_eq_true, true_or, or_true, false_or, or_false, and_self, ok_n0, ok_ni, ok_nr, ok_nl, va_rf_some, va_rf_none, true_and, and_true, List.length_nil, List.length_cons, Option.toList_some, Option.toList_none, List.cons_append, List.nil_append, rK_uA, rK_uI, rK_uJ, rK_uP, rP_uA, rP_uI, rP_uJ, rJ_uA, rJ_uI, rJ_uP, rI_uJ, rI_uP, rz_uA, rz_uI, rz_uJ, rz_uP, rs_uA, rs_uI, rs_uJ, rs_uP, Nat.reduceAdd, Nat.reduceMul, Nat.reduceSub, Nat.reduceLeDiff, Nat.reduceLT, Nat.reduceEqDiff, Nat.add_zero, Nat.zero_add, Nat.zero_le, kM, wm]
  · have bd := R.od.lo
    have bB := R.ob.lo
    have dj := R.od.dj R.ob R.db
    have h40 := N.h40
    obtain ⟨n, c, p, lo, r, rl, C, H, P, s, q, t⟩ := rel_v R N
    have hv : ∀ e, e < 980 → bV (rI h (X + 115 + 1)) hd e = V hd e := fun e he => bV_eq N he
    generalize hvb : bV (rI h (X + 115 + 1)) hd = v at s q t hv
    obtain ⟨k0, k1, k2, k3, k4, k5, k6, k7, k8, k9, k10⟩ := R.xk
    have s' := new_si (wt := wt) (W := W) s (by omega) w4 R.wr
    have q' : RI (newV v wt W (roN n p r)) C H P := q.cg (fun e h1 _ => new_hi v W _ w4 h1)
    obtain ⟨h1, eb, tB, td, f1⟩ := x_begin R s q t
    obtain ⟨h2, x2, D2, f2⟩ := deal_all (g := X + 109) (W := W) td.dvs s (by omega) w4 (by rw [f1.fk]; exact k6) (fun j hj => by rw [f1.fp]; exact k7 j hj) (fun j hj => by rw [f1.fk]; exact k8 j hj) (fun j cc hj hc => by rw [f1.fi (X + 109 + 1 + j) (by omega)]; exact R.wb j cc hj hc) (by omega)
    have t2 : DV h2 d (newV v wt W (roN n p r)) wt C H := (td.mix2 D2 w4 f2).cgv w4 q.c60 (fun e he => by
      by_cases z : e < 35
      · rw [mix_lo _ _ z]
      · rw [mix_hi _ _ (by omega), new_hi v W _ w4 (by omega)])
    have F2 : FRD d (d + 53) h1 h2 := f2.mono (by omega) (by omega)
    -- with the waiting ones gone
    have R0 : XR (uI h X 4 (nI 0)) X hd un V 0 W d B F Sl := R.wts rfl rfl rfl (fun q h1 h2 => by rw [rI_uI, if_neg h1]) rfl (by omega) (by rw [rI_uI, if_pos rfl, pk_us]) (fun j c hj => absurd hj (by omega)) (fun j hj => absurd hj (by omega))
    have g1 : FRD B (B + 53) (uI h X 4 (nI 0)) (uI h1 X 4 (nI 0)) := frd_uIb f1 (by omega) _ _
    have g2 : FRD d (d + 53) (uI h1 X 4 (nI 0)) (uI h2 X 4 (nI 0)) := frd_uIb F2 (by omega) _ _
    have tB' : DV (uI h1 X 4 (nI 0)) B v n C H := tB.cg rfl rfl (fun z a b => by rw [rI_uI, if_neg (by omega)]) rfl s.n4
    have t2' : DV (uI h2 X 4 (nI 0)) d (newV v wt W (roN n p r)) wt C H := t2.cg rfl rfl (fun z a b => by rw [rI_uI, if_neg (by omega)]) rfl w4
    obtain ⟨h3, B', F', Sl', ee, R3, f3⟩ := x_end R0 g1 g2 hv s q tB' s' q' t2'
    have f3' : XF X h h3 := ⟨fun z hz => (SQ.uI _ _ _ (by omega)).tr (f3.c z hz), f3.z, f3.s⟩
    have N3 := f3'.mr N
    have e31 : rI h3 (X + 115 + 1) = rI h (X + 115 + 1) := (f3'.c _ (by omega)).2.1
    have T := m_bmv N3
    rw [e31, hvb] at T
    have twb : rI (mB h3 (X + 115) hd) (X + 115) 5 = nI wt := by rw [mB_m _ _ _ (by omega)]; exact N3.wi
    have rs := rs_all T s twb (by omega) w4
    have eW : newV v wt (rI (mB h3 (X + 115) hd) (X + 115 + 2)) (roN n p r) = newV v wt W (roN n p r) := new_cg v _ (fun j hj => by rw [mB_2]; exact N3.wb j hj)
    rw [eW] at rs
    generalize hh5 : HM (uI (uA (mB h3 (X + 115) hd) (X + 115 + 3) (fil (rI (mB h3 (X + 115) hd) (X + 115 + 3)) 0 (fun j => nI (roN n p r j)) 9)) (X + 115) 5 (nI 0)) (X + 115) (rI (mB h3 (X + 115) hd) (X + 115 + 1)) 40180 (newV v wt W (roN n p r)) = h5 at rs
    have mf : MF (X + 115) h3 h5 := by
      rw [← hh5]
      exact ((mB_f _ _ _).tr (MF.uA _ _ (by omega) (by omega))).tr ((MF.uI _ _ _ (by omega) (by omega)).tr (MF.uA _ _ (by omega) (by omega)))
    have m5 : ∀ k, ¬ k = 3 → ¬ k = 5 → rI h5 (X + 115) k = rI h3 (X + 115) k := fun k hk hk5 => by
      rw [← hh5, rI_HM0, rI_uI, if_pos rfl, upd_at, if_neg hk5, rI_uA, if_neg (by omega), mB_m _ _ _ hk]
    obtain ⟨h6, e6, N6, f6⟩ := m_end (v := v) (v' := newV v wt W (roN n p r)) (h5 := h5) (wt' := 0) (W' := W) N3 hv mf (m5 1 (by omega) (by omega)) (m5 2 (by omega) (by omega)) (by rw [← hh5, rI_HM0, rI_uI, if_pos rfl, pk_us]) (by omega) (fun k hk => absurd hk (by omega)) (fun x hx => by
      rw [← hh5, HM, rI_uA, if_pos rfl, lft, if_neg (by omega), mB_1]
      simp only [va_cpy]
      rw [if_neg (by omega)]) (fun e he => by rw [← hh5]; exact rI_HM _ _ _ _ _ e)
    refine ev_two (nb (!(leq (newV v wt W (roN n p r)) v 980 0))) R3 f3' N6 f6 (fun Q => ?_) (fun Q => ?_)
    · have d2 := t.k.2.2.2.2.2.2.2.2.1
      have sk := t.k.2.2.2.2.2.2.2.2.2.1.1
      have w1 : rI h1 X = rI h X := f1.fi _ (by omega)
      simp (disch := omega) only [k100_0, k100_1, k100_4, k100_7, k100_8, k100_9, k100_10, k100_13, k100_14, k100_17, k100_20, k100_21, k100_24, k100_25, k100_28, k100_31, k100_32, k100_33, k100_36, k100_37, k100_40, eb, x2, ee, nb_ok, if_true, if_false, ite_true, ite_false, not_true_eq_false, not_false_eq_true, true_or, or_true, false_or, or_false, and_self, ok_n0, ok_ni, ok_nr, ok_nl, va_rf_some, va_rf_none, true_and, and_true, List.length_nil, List.length_cons, Option.toList_some, Option.toList_none, List.cons_append, List.nil_append, rK_uA, rK_uI, rK_uJ, rK_uP, rP_uA, rP_uI, rP_uJ, rJ_uA, rJ_uI, rJ_uP, rI_uJ, rI_uP, rz_uA, rz_uI, rz_uJ, rz_uP, rs_uA, rs_uI, rs_uJ, rs_uP, Nat.reduceAdd, Nat.reduceMul, Nat.reduceSub, Nat.reduceLeDiff, Nat.reduceLT, Nat.reduceEqDiff, Nat.add_zero, Nat.zero_add, Nat.zero_le, kX, wi, w1, ar_eq, w0, R.pd, t.k.1, d2, sk, k5, f1.fk, f1.fp, F2.fk, F2.fp]
    · have bg := m_begin N3
      have wm3 := N3.wi
      rw [k155_0]
      simp (disch := omega) only [k155_1, k155_4, k155_9, k155_10, if_true, if_false, ite_true, ite_false, not_true_eq_false, not_false_eq_true, true_or, or_true, false_or, or_false, and_self, ok_n0, ok_ni, ok_nr, ok_nl, va_rf_some, va_rf_none, true_and, and_true, List.length_nil, List.length_cons, Option.toList_some, Option.toList_none, List.cons_append, List.nil_append, rK_uA, rK_uI, rK_uJ, rK_uP, rP_uA, rP_uI, rP_uJ, rJ_uA, rJ_uI, rJ_uP, rI_uJ, rI_uP, rz_uA, rz_uI, rz_uJ, rz_uP, rs_uA, rs_uI, rs_uJ, rs_uP, Nat.reduceAdd, Nat.reduceMul, Nat.reduceSub, Nat.reduceLeDiff, Nat.reduceLT, Nat.reduceEqDiff, Nat.add_zero, Nat.zero_add, Nat.zero_le, N3.k.1, wm3, ar_eq, w0, bg]
      rw [rs Q, k155_349]
      have k5M : rK h5 (X + 115) = (1, 9) := by rw [mf.fk]; exact N3.k.1
      simp only [k155_350, k155_353, e6, nb_ok, if_true, if_false, ite_true, ite_false, not_true_eq_false, not_false_eq_true, true_or, or_true, false_or, or_false, and_self, ok_n0, ok_ni, ok_nr, ok_nl, va_rf_some, va_rf_none, true_and, and_true, List.length_nil, List.length_cons, Option.toList_some, Option.toList_none, List.cons_append, List.nil_append, rK_uA, rK_uI, rK_uJ, rK_uP, rP_uA, rP_uI, rP_uJ, rJ_uA, rJ_uI, rJ_uP, rI_uJ, rI_uP, rz_uA, rz_uI, rz_uJ, rz_uP, rs_uA, rs_uI, rs_uJ, rs_uP, Nat.reduceAdd, Nat.reduceMul, Nat.reduceSub, Nat.reduceLeDiff, Nat.reduceLT, Nat.reduceEqDiff, Nat.add_zero, Nat.zero_add, Nat.zero_le, k5M]
end EVS6
