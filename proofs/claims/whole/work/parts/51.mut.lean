/-! THE MODEL: what changes its vector -/
theorem cpy_0 (v : Nat → Int32) (a b : Nat) : va_cpy v v a b 0 = v := by
  funext j
  simp only [va_cpy]
  rw [if_neg (by omega)]
theorem cpy_dn (v : Nat → Int32) {b k c : Nat} (h1 : 1 ≤ k) (h2 : k ≤ c) : upd (va_cpy v v (b + k) (b + k + 1) (c - k)) (b + k) (v (b + (k - 1))) = va_cpy v v (b + (k - 1)) (b + (k - 1) + 1) (c - (k - 1)) := by
  funext j
  simp only [va_cpy, upd]
  by_cases hj : j = b + k
  · rw [if_pos hj, if_pos (by omega)]
    congr 1; omega
  · rw [if_neg hj]
    by_cases hr : b + k + 1 ≤ j ∧ j < b + k + 1 + (c - k)
    · rw [if_pos hr, if_pos (by omega)]
      congr 1; omega
    · rw [if_neg hr, if_neg (by omega)]
theorem cpy_up (v : Nat → Int32) {b a k : Nat} (h : a ≤ k) : upd (va_cpy v v (b + a + 1) (b + a) (k - a)) (b + k) (v (b + (k + 1))) = va_cpy v v (b + a + 1) (b + a) (k + 1 - a) := by
  funext j
  simp only [va_cpy, upd]
  by_cases hj : j = b + k
  · rw [if_pos hj, if_pos (by omega)]
    congr 1; omega
  · rw [if_neg hj]
    by_cases hr : b + a ≤ j ∧ j < b + a + (k - a)
    · rw [if_pos hr, if_pos (by omega)]
    · rw [if_neg hr, if_neg (by omega)]
theorem cpy_rd (v : Nat → Int32) {a b n j : Nat} (h : j < b ∨ b + n ≤ j) : va_cpy v v a b n j = v j := by
  simp only [va_cpy]
  rw [if_neg (by omega)]
def insV (v : Nat → Int32) (i p c : Nat) (w : Int32) : Nat → Int32 := upd (upd (upd (va_cpy v v (35 + 65 * i + 5 + p) (35 + 65 * i + 5 + p + 1) (c - p)) (35 + 65 * i + 5 + p) w) (35 + 65 * i + 3) (nI c + nI 1)) (35 + 65 * i + 4) (nI p)
theorem s_insert_loop {h : pm_H} {M s : Nat} {v F : Nat → Int32} (t : MK h M) (ts : s ≤ 40180) {i p c : Nat} (hi : i < 9) (hc : c < 60) (w : Int32) (Q : Option Value × pm_H → Prop) : ∀ (m k : Nat), k = p + m → k ≤ c → pGo 131 41 [some (.ref M), some (.int (nI i)), some (.int w), some (.int (nI (s + (35 + 65 * i)))), some (.int (nI p)), some (.int (nI k))] [] (HM h M F s (va_cpy v v (35 + 65 * i + 5 + k) (35 + 65 * i + 5 + k + 1) (c - k))) Q = pGo 131 78 [some (.ref M), some (.int (nI i)), some (.int w), some (.int (nI (s + (35 + 65 * i)))), some (.int (nI p)), some (.int (nI p))] [] (HM h M F s (va_cpy v v (35 + 65 * i + 5 + p) (35 + 65 * i + 5 + p + 1) (c - p))) Q := by
  intro m
  induction m with
  | zero =>
    intro k hk hkc
    have hk : k = p := by omega
    subst hk
    rw [k131_41]
    simp (disch := omega) only [k131_43, k131_45, if_true, if_false, ite_true, ite_false, not_true_eq_false, not_false_eq_true, true_or, or_true, false_or, or_false, and_self, ok_n0, ok_ni, ok_nr, ok_nl, va_rf_some, va_rf_none, true_and, and_true, List.length_nil, List.length_cons, Option.toList_some, Option.toList_none, List.cons_append, List.nil_append, rK_uA, rK_uI, rK_uJ, rK_uP, rP_uA, rP_uI, rP_uJ, rJ_uA, rJ_uI, rJ_uP, rI_uJ, rI_uP, rz_uA, rz_uI, rz_uJ, rz_uP, rs_uA, rs_uI, rs_uJ, rs_uP, Nat.reduceAdd, Nat.reduceMul, Nat.reduceSub, Nat.reduceLeDiff, Nat.reduceLT, Nat.reduceEqDiff, Nat.add_zero, Nat.zero_add, Nat.zero_le, ar_le, Nat.le_refl]
  | succ m ih =>
    intro k hk hkc
    have c1 : ¬ k ≤ p := by omega
    have c2 : s + (35 + 65 * i + 5 + k) < 41160 := by omega
    have c3 : s + (35 + 65 * i + 5 + (k - 1)) < 41160 := by omega
    have e1 : s + (35 + 65 * i + 5 + k) - 1 = s + (35 + 65 * i + 5 + (k - 1)) := by omega
    rw [k131_41]
    simp (disch := omega) only [k131_0, k131_1, k131_2, k131_5, k131_6, k131_7, k131_10, k131_11, k131_12, k131_13, k131_14, k131_17, k131_18, k131_21, k131_22, k131_25, k131_26, k131_27, k131_28, k131_29, k131_31, k131_32, k131_35, k131_36, k131_37, k131_38, k131_39, k131_43, k131_45, k131_48, k131_49, k131_52, k131_53, k131_54, k131_55, k131_57, k131_58, k131_59, k131_62, k131_63, k131_64, k131_65, k131_67, k131_68, k131_69, k131_70, k131_71, k131_72, k131_75, k131_79, k131_82, k131_83, k131_84, k131_85, k131_87, k131_88, k131_89, k131_90, k131_91, k131_94, k131_95, k131_96, k131_97, k131_98, k131_99, k131_100, k131_101, k131_102, k131_103, k131_106, k131_107, k131_108, k131_109, k131_111, k131_112, if_true, if_false, ite_true, ite_false, not_true_eq_false, not_false_eq_true, true_or, or_true, false_or, or_false, and_self, ok_n0, ok_ni, ok_nr, ok_nl, va_rf_some, va_rf_none, true_and, and_true, List.length_nil, List.length_cons, Option.toList_some, Option.toList_none, List.cons_append, List.nil_append, rK_uA, rK_uI, rK_uJ, rK_uP, rP_uA, rP_uI, rP_uJ, rJ_uA, rJ_uI, rJ_uP, rI_uJ, rI_uP, rz_uA, rz_uI, rz_uJ, rz_uP, rs_uA, rs_uI, rs_uJ, rs_uP, Nat.reduceAdd, Nat.reduceMul, Nat.reduceSub, Nat.reduceLeDiff, Nat.reduceLT, Nat.reduceEqDiff, Nat.add_zero, Nat.zero_add, Nat.zero_le, t.1, t.2.1, t.2.2.1, rK_HM, rP_HM, ar_le, ar_add, ar_sub, ar_m1, ar_oki, ar_okw, ar_cl, Nat.add_assoc s, c1, c2, c3, e1, rI_HM, cpy_rd, uI_HM, cpy_dn]
    exact ih (k - 1) (by omega) (by omega)
theorem s_insert {h : pm_H} {M s : Nat} {v : Nat → Int32} (t : MV h M s v) {i p c : Nat} (hi : i < 9) (hc : v (35 + 65 * i + 3) = nI c) (hc2 : c < 60) (hf : (v (35 + 65 * i + 4) = -1 ∧ p = 0) ∨ v (35 + 65 * i + 4) = nI p) (hp : p ≤ c) (w : Int32) (Q : Option Value × pm_H → Prop) : pGo 131 0 [some (.ref M), some (.int (nI i)), some (.int w), none, none, none] [] h Q = Q (none, HM h M (rI h (M + 1)) s (insV v i p c w)) := by
  obtain ⟨t1, t2, t3, t4⟩ := id t
  have c1 : s + (35 + 65 * i + 4) < 41160 := by omega
  have c2 : s + (35 + 65 * i + 3) < 41160 := by omega
  have c3 : s + (35 + 65 * i + 5 + p) < 41160 := by omega
  have key : pGo 131 0 [some (.ref M), some (.int (nI i)), some (.int w), none, none, none] [] h Q = pGo 131 41 [some (.ref M), some (.int (nI i)), some (.int w), some (.int (nI (s + (35 + 65 * i)))), some (.int (nI p)), some (.int (nI c))] [] h Q := by
    rw [k131_0]
    simp (disch := omega) only [k131_1, k131_2, k131_5, k131_6, k131_7, k131_10, k131_11, k131_12, k131_13, k131_14, k131_17, k131_18, k131_21, k131_22, k131_25, k131_26, k131_27, k131_28, k131_29, k131_31, k131_32, k131_35, k131_36, k131_37, k131_38, k131_39, k131_43, k131_45, k131_48, k131_49, k131_52, k131_53, k131_54, k131_55, k131_57, k131_58, k131_59, k131_62, k131_63, k131_64, k131_65, k131_67, k131_68, k131_69, k131_70, k131_71, k131_72, k131_75, k131_79, k131_82, k131_83, k131_84, k131_85, k131_87, k131_88, k131_89, k131_90, k131_91, k131_94, k131_95, k131_96, k131_97, k131_98, k131_99, k131_100, k131_101, k131_102, k131_103, k131_106, k131_107, k131_108, k131_109, k131_111, k131_112, s_space t, if_true, if_false, ite_true, ite_false, not_true_eq_false, not_false_eq_true, true_or, or_true, false_or, or_false, and_self, ok_n0, ok_ni, ok_nr, ok_nl, va_rf_some, va_rf_none, true_and, and_true, List.length_nil, List.length_cons, Option.toList_some, Option.toList_none, List.cons_append, List.nil_append, rK_uA, rK_uI, rK_uJ, rK_uP, rP_uA, rP_uI, rP_uJ, rJ_uA, rJ_uI, rJ_uP, rI_uJ, rI_uP, rz_uA, rz_uI, rz_uJ, rz_uP, rs_uA, rs_uI, rs_uJ, rs_uP, Nat.reduceAdd, Nat.reduceMul, Nat.reduceSub, Nat.reduceLeDiff, Nat.reduceLT, Nat.reduceEqDiff, Nat.add_zero, Nat.zero_add, Nat.zero_le, t1.1, t1.2.1, t1.2.2.1, ar_add, ar_oki, ar_cl, Nat.add_assoc s, t4, c1, c2, hc]
    rcases hf with ⟨hf, rfl⟩ | hf
    · simp (disch := omega) only [hf, show ¬ nI 0 ≤ (-1 : Int32) by decide +kernel, if_true, if_false, ite_true, ite_false, not_true_eq_false, not_false_eq_true, true_or, or_true, false_or, or_false, and_self, ok_n0, ok_ni, ok_nr, ok_nl, va_rf_some, va_rf_none, true_and, and_true, List.length_nil, List.length_cons, Option.toList_some, Option.toList_none, List.cons_append, List.nil_append, rK_uA, rK_uI, rK_uJ, rK_uP, rP_uA, rP_uI, rP_uJ, rJ_uA, rJ_uI, rJ_uP, rI_uJ, rI_uP, rz_uA, rz_uI, rz_uJ, rz_uP, rs_uA, rs_uI, rs_uJ, rs_uP, Nat.reduceAdd, Nat.reduceMul, Nat.reduceSub, Nat.reduceLeDiff, Nat.reduceLT, Nat.reduceEqDiff, Nat.add_zero, Nat.zero_add, Nat.zero_le]
    · simp (disch := omega) only [hf, ar_le, Nat.zero_le, if_true, if_false, ite_true, ite_false, not_true_eq_false, not_false_eq_true, true_or, or_true, false_or, or_false, and_self, ok_n0, ok_ni, ok_nr, ok_nl, va_rf_some, va_rf_none, true_and, and_true, List.length_nil, List.length_cons, Option.toList_some, Option.toList_none, List.cons_append, List.nil_append, rK_uA, rK_uI, rK_uJ, rK_uP, rP_uA, rP_uI, rP_uJ, rJ_uA, rJ_uI, rJ_uP, rI_uJ, rI_uP, rz_uA, rz_uI, rz_uJ, rz_uP, rs_uA, rs_uI, rs_uJ, rs_uP, Nat.reduceAdd, Nat.reduceMul, Nat.reduceSub, Nat.reduceLeDiff, Nat.reduceLT, Nat.reduceEqDiff, Nat.add_zero, Nat.zero_add, Nat.zero_le]
  rw [key]
  have e0 : h = HM h M (rI h (M + 1)) s (va_cpy v v (35 + 65 * i + 5 + c) (35 + 65 * i + 5 + c + 1) (c - c)) := by
    rw [Nat.sub_self, cpy_0]; exact HM_of t4
  have l := s_insert_loop (p := p) (h := h) (F := rI h (M + 1)) (v := v) t1 t3 hi hc2 w Q (c - p) c (by omega) (Nat.le_refl _)
  rw [← e0] at l
  have e3 : va_cpy v v (35 + 65 * i + 5 + p) (35 + 65 * i + 5 + p + 1) (c - p) (35 + 65 * i + 3) = nI c := by rw [cpy_rd _ (Or.inl (by omega)), hc]
  have e4 : upd (va_cpy v v (35 + 65 * i + 5 + p) (35 + 65 * i + 5 + p + 1) (c - p)) (35 + 65 * i + 5 + p) w (35 + 65 * i + 3) = nI c := by rw [upd_at, if_neg (by omega), e3]
  rw [l, k131_78]
  simp (disch := omega) only [k131_1, k131_2, k131_5, k131_6, k131_7, k131_10, k131_11, k131_12, k131_13, k131_14, k131_17, k131_18, k131_21, k131_22, k131_25, k131_26, k131_27, k131_28, k131_29, k131_31, k131_32, k131_35, k131_36, k131_37, k131_38, k131_39, k131_43, k131_45, k131_48, k131_49, k131_52, k131_53, k131_54, k131_55, k131_57, k131_58, k131_59, k131_62, k131_63, k131_64, k131_65, k131_67, k131_68, k131_69, k131_70, k131_71, k131_72, k131_75, k131_79, k131_82, k131_83, k131_84, k131_85, k131_87, k131_88, k131_89, k131_90, k131_91, k131_94, k131_95, k131_96, k131_97, k131_98, k131_99, k131_100, k131_101, k131_102, k131_103, k131_106, k131_107, k131_108, k131_109, k131_111, k131_112, if_true, if_false, ite_true, ite_false, not_true_eq_false, not_false_eq_true, true_or, or_true, false_or, or_false, and_self, ok_n0, ok_ni, ok_nr, ok_nl, va_rf_some, va_rf_none, true_and, and_true, List.length_nil, List.length_cons, Option.toList_some, Option.toList_none, List.cons_append, List.nil_append, rK_uA, rK_uI, rK_uJ, rK_uP, rP_uA, rP_uI, rP_uJ, rJ_uA, rJ_uI, rJ_uP, rI_uJ, rI_uP, rz_uA, rz_uI, rz_uJ, rz_uP, rs_uA, rs_uI, rs_uJ, rs_uP, Nat.reduceAdd, Nat.reduceMul, Nat.reduceSub, Nat.reduceLeDiff, Nat.reduceLT, Nat.reduceEqDiff, Nat.add_zero, Nat.zero_add, Nat.zero_le, t1.1, t1.2.1, t1.2.2.1, rK_HM, rP_HM, ar_add, ar_oki, ar_okw, ar_cl, Nat.add_assoc s, c1, c2, c3, rI_HM, uI_HM, e4, insV]
def remV (v : Nat → Int32) (i p c : Nat) : Nat → Int32 := upd (upd (upd (va_cpy v v (35 + 65 * i + 5 + p + 1) (35 + 65 * i + 5 + p) (c - 1 - p)) (35 + 65 * i + 5 + (c - 1)) (nI 0)) (35 + 65 * i + 3) (nI (c - 1))) (35 + 65 * i + 4) (if nI p < v (35 + 65 * i + 4) ∨ v (35 + 65 * i + 4) = nI (c - 1) then v (35 + 65 * i + 4) + -1 else v (35 + 65 * i + 4))
theorem s_remove_loop {h : pm_H} {M s : Nat} {v F : Nat → Int32} (t : MK h M) (ts : s ≤ 40180) {i p c : Nat} (hi : i < 9) (hc : c ≤ 60) (hp : p < c) (w : Int32) (Q : Option Value × pm_H → Prop) : ∀ (m k : Nat), k + m = c - 1 → p ≤ k → pGo 132 30 [some (.ref M), some (.int (nI i)), some (.int w), some (.int (nI (s + (35 + 65 * i)))), some (.int (nI p)), some (.int (nI (c - 1))), some (.int (nI k))] [] (HM h M F s (va_cpy v v (35 + 65 * i + 5 + p + 1) (35 + 65 * i + 5 + p) (k - p))) Q = pGo 132 67 [some (.ref M), some (.int (nI i)), some (.int w), some (.int (nI (s + (35 + 65 * i)))), some (.int (nI p)), some (.int (nI (c - 1))), some (.int (nI (c - 1)))] [] (HM h M F s (va_cpy v v (35 + 65 * i + 5 + p + 1) (35 + 65 * i + 5 + p) (c - 1 - p))) Q := by
  intro m
  induction m with
  | zero =>
    intro k hk hkc
    have hk : k = c - 1 := by omega
    subst hk
    rw [k132_30]
    simp (disch := omega) only [k132_32, k132_34, if_true, if_false, ite_true, ite_false, not_true_eq_false, not_false_eq_true, true_or, or_true, false_or, or_false, and_self, ok_n0, ok_ni, ok_nr, ok_nl, va_rf_some, va_rf_none, true_and, and_true, List.length_nil, List.length_cons, Option.toList_some, Option.toList_none, List.cons_append, List.nil_append, rK_uA, rK_uI, rK_uJ, rK_uP, rP_uA, rP_uI, rP_uJ, rJ_uA, rJ_uI, rJ_uP, rI_uJ, rI_uP, rz_uA, rz_uI, rz_uJ, rz_uP, rs_uA, rs_uI, rs_uJ, rs_uP, Nat.reduceAdd, Nat.reduceMul, Nat.reduceSub, Nat.reduceLeDiff, Nat.reduceLT, Nat.reduceEqDiff, Nat.add_zero, Nat.zero_add, Nat.zero_le, ar_le, Nat.le_refl]
  | succ m ih =>
    intro k hk hkc
    have c1 : ¬ c - 1 ≤ k := by omega
    have c2 : s + (35 + 65 * i + 5 + k) < 41160 := by omega
    have c3 : s + (35 + 65 * i + 5 + k + 1) < 41160 := by omega
    have e1 : v (35 + 65 * i + 5 + k + 1) = v (35 + 65 * i + 5 + (k + 1)) := by congr 1
    rw [k132_30]
    simp (disch := omega) only [k132_0, k132_1, k132_2, k132_5, k132_6, k132_7, k132_8, k132_9, k132_12, k132_14, k132_15, k132_18, k132_19, k132_20, k132_21, k132_22, k132_23, k132_24, k132_26, k132_28, k132_32, k132_34, k132_37, k132_38, k132_41, k132_42, k132_43, k132_44, k132_46, k132_47, k132_48, k132_51, k132_52, k132_53, k132_54, k132_56, k132_57, k132_58, k132_59, k132_60, k132_61, k132_64, k132_68, k132_71, k132_72, k132_73, k132_74, k132_76, k132_77, k132_78, k132_79, k132_80, k132_83, k132_84, k132_85, k132_86, k132_88, k132_89, k132_90, k132_93, k132_94, k132_95, k132_96, k132_97, k132_99, k132_101, k132_103, k132_106, k132_108, k132_110, k132_113, k132_116, k132_117, k132_120, k132_121, k132_122, k132_123, k132_125, k132_126, if_true, if_false, ite_true, ite_false, not_true_eq_false, not_false_eq_true, true_or, or_true, false_or, or_false, and_self, ok_n0, ok_ni, ok_nr, ok_nl, va_rf_some, va_rf_none, true_and, and_true, List.length_nil, List.length_cons, Option.toList_some, Option.toList_none, List.cons_append, List.nil_append, rK_uA, rK_uI, rK_uJ, rK_uP, rP_uA, rP_uI, rP_uJ, rJ_uA, rJ_uI, rJ_uP, rI_uJ, rI_uP, rz_uA, rz_uI, rz_uJ, rz_uP, rs_uA, rs_uI, rs_uJ, rs_uP, Nat.reduceAdd, Nat.reduceMul, Nat.reduceSub, Nat.reduceLeDiff, Nat.reduceLT, Nat.reduceEqDiff, Nat.add_zero, Nat.zero_add, Nat.zero_le, t.1, t.2.1, t.2.2.1, rK_HM, rP_HM, ar_le, ar_add, ar_sub, ar_oki, ar_okw, ar_cl, Nat.add_assoc s, c1, c2, c3, rI_HM, cpy_rd, e1, uI_HM, cpy_up]
    exact ih (k + 1) (by omega) (by omega)
theorem s_remove {h : pm_H} {M s : Nat} {v : Nat → Int32} (t : MV h M s v) {i p c : Nat} (hi : i < 9) (hc : v (35 + 65 * i + 3) = nI c) (hc2 : c ≤ 60) (w : Int32) (hp : plcV v i c w = nI p) (hpc : p < c) (Q : Option Value × pm_H → Prop) : pGo 132 0 [some (.ref M), some (.int (nI i)), some (.int w), none, none, none, none] [] h Q = Q (none, HM h M (rI h (M + 1)) s (remV v i p c)) := by
  obtain ⟨t1, t2, t3, t4⟩ := id t
  have c1 : s + (35 + 65 * i + 4) < 41160 := by omega
  have c2 : s + (35 + 65 * i + 3) < 41160 := by omega
  have c3 : s + (35 + 65 * i + 5 + (c - 1)) < 41160 := by omega
  have key : pGo 132 0 [some (.ref M), some (.int (nI i)), some (.int w), none, none, none, none] [] h Q = pGo 132 30 [some (.ref M), some (.int (nI i)), some (.int w), some (.int (nI (s + (35 + 65 * i)))), some (.int (nI p)), some (.int (nI (c - 1))), some (.int (nI p))] [] h Q := by
    rw [k132_0]
    simp (disch := omega) only [k132_1, k132_2, k132_5, k132_6, k132_7, k132_8, k132_9, k132_12, k132_14, k132_15, k132_18, k132_19, k132_20, k132_21, k132_22, k132_23, k132_24, k132_26, k132_28, k132_32, k132_34, k132_37, k132_38, k132_41, k132_42, k132_43, k132_44, k132_46, k132_47, k132_48, k132_51, k132_52, k132_53, k132_54, k132_56, k132_57, k132_58, k132_59, k132_60, k132_61, k132_64, k132_68, k132_71, k132_72, k132_73, k132_74, k132_76, k132_77, k132_78, k132_79, k132_80, k132_83, k132_84, k132_85, k132_86, k132_88, k132_89, k132_90, k132_93, k132_94, k132_95, k132_96, k132_97, k132_99, k132_101, k132_103, k132_106, k132_108, k132_110, k132_113, k132_116, k132_117, k132_120, k132_121, k132_122, k132_123, k132_125, k132_126, s_space t, s_placeIn t hi hc hc2, hp, if_true, if_false, ite_true, ite_false, not_true_eq_false, not_false_eq_true, true_or, or_true, false_or, or_false, and_self, ok_n0, ok_ni, ok_nr, ok_nl, va_rf_some, va_rf_none, true_and, and_true, List.length_nil, List.length_cons, Option.toList_some, Option.toList_none, List.cons_append, List.nil_append, rK_uA, rK_uI, rK_uJ, rK_uP, rP_uA, rP_uI, rP_uJ, rJ_uA, rJ_uI, rJ_uP, rI_uJ, rI_uP, rz_uA, rz_uI, rz_uJ, rz_uP, rs_uA, rs_uI, rs_uJ, rs_uP, Nat.reduceAdd, Nat.reduceMul, Nat.reduceSub, Nat.reduceLeDiff, Nat.reduceLT, Nat.reduceEqDiff, Nat.add_zero, Nat.zero_add, Nat.zero_le, t1.1, t1.2.1, t1.2.2.1, ar_add, ar_sub, ar_oki, ar_cl, Nat.add_assoc s, t4, c1, c2, hc]
  rw [key]
  have e0 : h = HM h M (rI h (M + 1)) s (va_cpy v v (35 + 65 * i + 5 + p + 1) (35 + 65 * i + 5 + p) (p - p)) := by
    rw [Nat.sub_self, cpy_0]; exact HM_of t4
  have l := s_remove_loop (p := p) (h := h) (F := rI h (M + 1)) (v := v) t1 t3 hi hc2 hpc w Q (c - 1 - p) p (by omega) (Nat.le_refl _)
  rw [← e0] at l
  have e4 : upd (upd (va_cpy v v (35 + 65 * i + 5 + p + 1) (35 + 65 * i + 5 + p) (c - 1 - p)) (35 + 65 * i + 5 + (c - 1)) (nI 0)) (35 + 65 * i + 3) (nI (c - 1)) (35 + 65 * i + 4) = v (35 + 65 * i + 4) := by rw [upd_at, if_neg (by omega), upd_at, if_neg (by omega), cpy_rd _ (Or.inl (by omega))]
  rw [l, k132_67]
  simp (disch := omega) only [k132_1, k132_2, k132_5, k132_6, k132_7, k132_8, k132_9, k132_12, k132_14, k132_15, k132_18, k132_19, k132_20, k132_21, k132_22, k132_23, k132_24, k132_26, k132_28, k132_32, k132_34, k132_37, k132_38, k132_41, k132_42, k132_43, k132_44, k132_46, k132_47, k132_48, k132_51, k132_52, k132_53, k132_54, k132_56, k132_57, k132_58, k132_59, k132_60, k132_61, k132_64, k132_68, k132_71, k132_72, k132_73, k132_74, k132_76, k132_77, k132_78, k132_79, k132_80, k132_83, k132_84, k132_85, k132_86, k132_88, k132_89, k132_90, k132_93, k132_94, k132_95, k132_96, k132_97, k132_99, k132_101, k132_103, k132_106, k132_108, k132_110, k132_113, k132_116, k132_117, k132_120, k132_121, k132_122, k132_123, k132_125, k132_126, if_true, if_false, ite_true, ite_false, not_true_eq_false, not_false_eq_true, true_or, or_true, false_or, or_false, and_self, ok_n0, ok_ni, ok_nr, ok_nl, va_rf_some, va_rf_none, true_and, and_true, List.length_nil, List.length_cons, Option.toList_some, Option.toList_none, List.cons_append, List.nil_append, rK_uA, rK_uI, rK_uJ, rK_uP, rP_uA, rP_uI, rP_uJ, rJ_uA, rJ_uI, rJ_uP, rI_uJ, rI_uP, rz_uA, rz_uI, rz_uJ, rz_uP, rs_uA, rs_uI, rs_uJ, rs_uP, Nat.reduceAdd, Nat.reduceMul, Nat.reduceSub, Nat.reduceLeDiff, Nat.reduceLT, Nat.reduceEqDiff, Nat.add_zero, Nat.zero_add, Nat.zero_le, t1.1, t1.2.1, t1.2.2.1, rK_HM, rP_HM, ar_add, ar_oki, ar_okw, ar_cl, Nat.add_assoc s, c1, c2, c3, rI_HM, uI_HM, e4, remV]
  by_cases d1 : nI p < v (35 + 65 * i + 4)
  · simp only [d1, if_true, if_false, ite_true, ite_false, not_true_eq_false, not_false_eq_true, true_or, or_true, false_or, or_false, and_self, ok_n0, ok_ni, ok_nr, ok_nl, va_rf_some, va_rf_none, true_and, and_true, List.length_nil, List.length_cons, Option.toList_some, Option.toList_none, List.cons_append, List.nil_append, rK_uA, rK_uI, rK_uJ, rK_uP, rP_uA, rP_uI, rP_uJ, rJ_uA, rJ_uI, rJ_uP, rI_uJ, rI_uP, rz_uA, rz_uI, rz_uJ, rz_uP, rs_uA, rs_uI, rs_uJ, rs_uP, Nat.reduceAdd, Nat.reduceMul, Nat.reduceSub, Nat.reduceLeDiff, Nat.reduceLT, Nat.reduceEqDiff, Nat.add_zero, Nat.zero_add, Nat.zero_le]
  · by_cases d2 : v (35 + 65 * i + 4) = nI (c - 1)
    · simp only [d1, if_true, if_false, ite_true, ite_false, not_true_eq_false, not_false_eq_true, true_or, or_true, false_or, or_false, and_self, ok_n0, ok_ni, ok_nr, ok_nl, va_rf_some, va_rf_none, true_and, and_true, List.length_nil, List.length_cons, Option.toList_some, Option.toList_none, List.cons_append, List.nil_append, rK_uA, rK_uI, rK_uJ, rK_uP, rP_uA, rP_uI, rP_uJ, rJ_uA, rJ_uI, rJ_uP, rI_uJ, rI_uP, rz_uA, rz_uI, rz_uJ, rz_uP, rs_uA, rs_uI, rs_uJ, rs_uP, Nat.reduceAdd, Nat.reduceMul, Nat.reduceSub, Nat.reduceLeDiff, Nat.reduceLT, Nat.reduceEqDiff, Nat.add_zero, Nat.zero_add, Nat.zero_le]
      simp only [d2, if_true, if_false, ite_true, ite_false, not_true_eq_false, not_false_eq_true, true_or, or_true, false_or, or_false, and_self, ok_n0, ok_ni, ok_nr, ok_nl, va_rf_some, va_rf_none, true_and, and_true, List.length_nil, List.length_cons, Option.toList_some, Option.toList_none, List.cons_append, List.nil_append, rK_uA, rK_uI, rK_uJ, rK_uP, rP_uA, rP_uI, rP_uJ, rJ_uA, rJ_uI, rJ_uP, rI_uJ, rI_uP, rz_uA, rz_uI, rz_uJ, rz_uP, rs_uA, rs_uI, rs_uJ, rs_uP, Nat.reduceAdd, Nat.reduceMul, Nat.reduceSub, Nat.reduceLeDiff, Nat.reduceLT, Nat.reduceEqDiff, Nat.add_zero, Nat.zero_add, Nat.zero_le]
    · simp only [d1, d2, if_true, if_false, ite_true, ite_false, not_true_eq_false, not_false_eq_true, true_or, or_true, false_or, or_false, and_self, ok_n0, ok_ni, ok_nr, ok_nl, va_rf_some, va_rf_none, true_and, and_true, List.length_nil, List.length_cons, Option.toList_some, Option.toList_none, List.cons_append, List.nil_append, rK_uA, rK_uI, rK_uJ, rK_uP, rP_uA, rP_uI, rP_uJ, rJ_uA, rJ_uI, rJ_uP, rI_uJ, rI_uP, rz_uA, rz_uI, rz_uJ, rz_uP, rs_uA, rs_uI, rs_uJ, rs_uP, Nat.reduceAdd, Nat.reduceMul, Nat.reduceSub, Nat.reduceLeDiff, Nat.reduceLT, Nat.reduceEqDiff, Nat.add_zero, Nat.zero_add, Nat.zero_le]
/-- window at f of row i carried to p -/
def carV (v : Nat → Int32) (i f p : Nat) : Nat → Int32 := if f < p then upd (va_cpy v v (35 + 65 * i + 5 + f + 1) (35 + 65 * i + 5 + f) (p - f)) (35 + 65 * i + 5 + p) (v (35 + 65 * i + 5 + f)) else upd (va_cpy v v (35 + 65 * i + 5 + p) (35 + 65 * i + 5 + p + 1) (f - p)) (35 + 65 * i + 5 + p) (v (35 + 65 * i + 5 + f))
theorem s_carry_up {h : pm_H} {M s : Nat} {v F : Nat → Int32} (t : MK h M) (ts : s ≤ 40180) {i f p : Nat} (hi : i < 9) (hp : p < 60) (hf : f ≤ p) (w : Int32) (Q : Option Value × pm_H → Prop) : ∀ (m k : Nat), k + m = p → f ≤ k → pGo 133 27 [some (.ref M), some (.int (nI (s + (35 + 65 * i)))), some (.int (nI f)), some (.int (nI p)), some (.int w), some (.int (nI 1)), some (.int (nI k))] [] (HM h M F s (va_cpy v v (35 + 65 * i + 5 + f + 1) (35 + 65 * i + 5 + f) (k - f))) Q = Q (none, HM h M F s (upd (va_cpy v v (35 + 65 * i + 5 + f + 1) (35 + 65 * i + 5 + f) (p - f)) (35 + 65 * i + 5 + p) w)) := by
  intro m
  induction m with
  | zero =>
    intro k hk hkf
    have hk : k = p := by omega
    subst hk
    have c2 : s + (35 + 65 * i + 5 + k) < 41160 := by omega
    rw [k133_27]
    simp (disch := omega) only [k133_0, k133_1, k133_4, k133_5, k133_6, k133_7, k133_8, k133_9, k133_10, k133_12, k133_13, k133_14, k133_17, k133_18, k133_21, k133_22, k133_24, k133_25, k133_29, k133_30, k133_33, k133_34, k133_37, k133_38, k133_39, k133_40, k133_42, k133_43, k133_44, k133_47, k133_48, k133_49, k133_50, k133_52, k133_53, k133_55, k133_56, k133_57, k133_58, k133_60, k133_62, k133_63, k133_65, k133_68, k133_69, k133_72, k133_73, k133_74, k133_75, k133_76, k133_77, k133_79, k133_80, if_true, if_false, ite_true, ite_false, not_true_eq_false, not_false_eq_true, true_or, or_true, false_or, or_false, and_self, ok_n0, ok_ni, ok_nr, ok_nl, va_rf_some, va_rf_none, true_and, and_true, List.length_nil, List.length_cons, Option.toList_some, Option.toList_none, List.cons_append, List.nil_append, rK_uA, rK_uI, rK_uJ, rK_uP, rP_uA, rP_uI, rP_uJ, rJ_uA, rJ_uI, rJ_uP, rI_uJ, rI_uP, rz_uA, rz_uI, rz_uJ, rz_uP, rs_uA, rs_uI, rs_uJ, rs_uP, Nat.reduceAdd, Nat.reduceMul, Nat.reduceSub, Nat.reduceLeDiff, Nat.reduceLT, Nat.reduceEqDiff, Nat.add_zero, Nat.zero_add, Nat.zero_le, t.1, t.2.1, t.2.2.1, rK_HM, rP_HM, ar_add, ar_okw, ar_cl, Nat.add_assoc s, c2, uI_HM]
  | succ m ih =>
    intro k hk hkf
    have c1 : ¬ k = p := by omega
    have c2 : s + (35 + 65 * i + 5 + k) < 41160 := by omega
    have c3 : s + (35 + 65 * i + 5 + k + 1) < 41160 := by omega
    have e1 : v (35 + 65 * i + 5 + k + 1) = v (35 + 65 * i + 5 + (k + 1)) := by congr 1
    rw [k133_27]
    simp (disch := omega) only [k133_0, k133_1, k133_4, k133_5, k133_6, k133_7, k133_8, k133_9, k133_10, k133_12, k133_13, k133_14, k133_17, k133_18, k133_21, k133_22, k133_24, k133_25, k133_29, k133_30, k133_33, k133_34, k133_37, k133_38, k133_39, k133_40, k133_42, k133_43, k133_44, k133_47, k133_48, k133_49, k133_50, k133_52, k133_53, k133_55, k133_56, k133_57, k133_58, k133_60, k133_62, k133_63, k133_65, k133_68, k133_69, k133_72, k133_73, k133_74, k133_75, k133_76, k133_77, k133_79, k133_80, if_true, if_false, ite_true, ite_false, not_true_eq_false, not_false_eq_true, true_or, or_true, false_or, or_false, and_self, ok_n0, ok_ni, ok_nr, ok_nl, va_rf_some, va_rf_none, true_and, and_true, List.length_nil, List.length_cons, Option.toList_some, Option.toList_none, List.cons_append, List.nil_append, rK_uA, rK_uI, rK_uJ, rK_uP, rP_uA, rP_uI, rP_uJ, rJ_uA, rJ_uI, rJ_uP, rI_uJ, rI_uP, rz_uA, rz_uI, rz_uJ, rz_uP, rs_uA, rs_uI, rs_uJ, rs_uP, Nat.reduceAdd, Nat.reduceMul, Nat.reduceSub, Nat.reduceLeDiff, Nat.reduceLT, Nat.reduceEqDiff, Nat.add_zero, Nat.zero_add, Nat.zero_le, t.1, t.2.1, t.2.2.1, rK_HM, rP_HM, ar_eq, ar_add, ar_oki, ar_okw, ar_cl, Nat.add_assoc s, c1, c2, c3, rI_HM, cpy_rd, e1, uI_HM, cpy_up]
    exact ih (k + 1) (by omega) (by omega)
theorem s_carry_dn {h : pm_H} {M s : Nat} {v F : Nat → Int32} (t : MK h M) (ts : s ≤ 40180) {i f p : Nat} (hi : i < 9) (hf : f < 60) (w : Int32) (Q : Option Value × pm_H → Prop) : ∀ (m k : Nat), k = p + m → k ≤ f → pGo 133 27 [some (.ref M), some (.int (nI (s + (35 + 65 * i)))), some (.int (nI f)), some (.int (nI p)), some (.int w), some (.int (-1)), some (.int (nI k))] [] (HM h M F s (va_cpy v v (35 + 65 * i + 5 + k) (35 + 65 * i + 5 + k + 1) (f - k))) Q = Q (none, HM h M F s (upd (va_cpy v v (35 + 65 * i + 5 + p) (35 + 65 * i + 5 + p + 1) (f - p)) (35 + 65 * i + 5 + p) w)) := by
  intro m
  induction m with
  | zero =>
    intro k hk hkf
    have hk : k = p := by omega
    subst hk
    have c2 : s + (35 + 65 * i + 5 + k) < 41160 := by omega
    rw [k133_27]
    simp (disch := omega) only [k133_0, k133_1, k133_4, k133_5, k133_6, k133_7, k133_8, k133_9, k133_10, k133_12, k133_13, k133_14, k133_17, k133_18, k133_21, k133_22, k133_24, k133_25, k133_29, k133_30, k133_33, k133_34, k133_37, k133_38, k133_39, k133_40, k133_42, k133_43, k133_44, k133_47, k133_48, k133_49, k133_50, k133_52, k133_53, k133_55, k133_56, k133_57, k133_58, k133_60, k133_62, k133_63, k133_65, k133_68, k133_69, k133_72, k133_73, k133_74, k133_75, k133_76, k133_77, k133_79, k133_80, if_true, if_false, ite_true, ite_false, not_true_eq_false, not_false_eq_true, true_or, or_true, false_or, or_false, and_self, ok_n0, ok_ni, ok_nr, ok_nl, va_rf_some, va_rf_none, true_and, and_true, List.length_nil, List.length_cons, Option.toList_some, Option.toList_none, List.cons_append, List.nil_append, rK_uA, rK_uI, rK_uJ, rK_uP, rP_uA, rP_uI, rP_uJ, rJ_uA, rJ_uI, rJ_uP, rI_uJ, rI_uP, rz_uA, rz_uI, rz_uJ, rz_uP, rs_uA, rs_uI, rs_uJ, rs_uP, Nat.reduceAdd, Nat.reduceMul, Nat.reduceSub, Nat.reduceLeDiff, Nat.reduceLT, Nat.reduceEqDiff, Nat.add_zero, Nat.zero_add, Nat.zero_le, t.1, t.2.1, t.2.2.1, rK_HM, rP_HM, ar_add, ar_okw, ar_cl, Nat.add_assoc s, c2, uI_HM]
  | succ m ih =>
    intro k hk hkf
    have c1 : ¬ k = p := by omega
    have c2 : s + (35 + 65 * i + 5 + k) < 41160 := by omega
    have c3 : s + (35 + 65 * i + 5 + (k - 1)) < 41160 := by omega
    have e1 : s + (35 + 65 * i + 5 + k) - 1 = s + (35 + 65 * i + 5 + (k - 1)) := by omega
    rw [k133_27]
    simp (disch := omega) only [k133_0, k133_1, k133_4, k133_5, k133_6, k133_7, k133_8, k133_9, k133_10, k133_12, k133_13, k133_14, k133_17, k133_18, k133_21, k133_22, k133_24, k133_25, k133_29, k133_30, k133_33, k133_34, k133_37, k133_38, k133_39, k133_40, k133_42, k133_43, k133_44, k133_47, k133_48, k133_49, k133_50, k133_52, k133_53, k133_55, k133_56, k133_57, k133_58, k133_60, k133_62, k133_63, k133_65, k133_68, k133_69, k133_72, k133_73, k133_74, k133_75, k133_76, k133_77, k133_79, k133_80, if_true, if_false, ite_true, ite_false, not_true_eq_false, not_false_eq_true, true_or, or_true, false_or, or_false, and_self, ok_n0, ok_ni, ok_nr, ok_nl, va_rf_some, va_rf_none, true_and, and_true, List.length_nil, List.length_cons, Option.toList_some, Option.toList_none, List.cons_append, List.nil_append, rK_uA, rK_uI, rK_uJ, rK_uP, rP_uA, rP_uI, rP_uJ, rJ_uA, rJ_uI, rJ_uP, rI_uJ, rI_uP, rz_uA, rz_uI, rz_uJ, rz_uP, rs_uA, rs_uI, rs_uJ, rs_uP, Nat.reduceAdd, Nat.reduceMul, Nat.reduceSub, Nat.reduceLeDiff, Nat.reduceLT, Nat.reduceEqDiff, Nat.add_zero, Nat.zero_add, Nat.zero_le, t.1, t.2.1, t.2.2.1, rK_HM, rP_HM, ar_eq, ar_add, ar_m1, ar_oki, ar_okw, ar_cl, Nat.add_assoc s, c1, c2, c3, e1, rI_HM, cpy_rd, uI_HM, cpy_dn]
    exact ih (k - 1) (by omega) (by omega)
theorem s_carry {h : pm_H} {M s : Nat} {v : Nat → Int32} (t : MV h M s v) {i f p : Nat} (hi : i < 9) (hf : f < 60) (hp : p < 60) (Q : Option Value × pm_H → Prop) : pGo 133 0 [some (.ref M), some (.int (nI (s + (35 + 65 * i)))), some (.int (nI f)), some (.int (nI p)), none, none, none] [] h Q = Q (none, HM h M (rI h (M + 1)) s (carV v i f p)) := by
  obtain ⟨t1, t2, t3, t4⟩ := id t
  have c1 : s + (35 + 65 * i + 5 + f) < 41160 := by omega
  have e0 := HM_of t4
  rw [k133_0]
  simp (disch := omega) only [k133_1, k133_4, k133_5, k133_6, k133_7, k133_8, k133_9, k133_10, k133_12, k133_13, k133_14, k133_17, k133_18, k133_21, k133_22, k133_24, k133_25, k133_29, k133_30, k133_33, k133_34, k133_37, k133_38, k133_39, k133_40, k133_42, k133_43, k133_44, k133_47, k133_48, k133_49, k133_50, k133_52, k133_53, k133_55, k133_56, k133_57, k133_58, k133_60, k133_62, k133_63, k133_65, k133_68, k133_69, k133_72, k133_73, k133_74, k133_75, k133_76, k133_77, k133_79, k133_80, if_true, if_false, ite_true, ite_false, not_true_eq_false, not_false_eq_true, true_or, or_true, false_or, or_false, and_self, ok_n0, ok_ni, ok_nr, ok_nl, va_rf_some, va_rf_none, true_and, and_true, List.length_nil, List.length_cons, Option.toList_some, Option.toList_none, List.cons_append, List.nil_append, rK_uA, rK_uI, rK_uJ, rK_uP, rP_uA, rP_uI, rP_uJ, rJ_uA, rJ_uI, rJ_uP, rI_uJ, rI_uP, rz_uA, rz_uI, rz_uJ, rz_uP, rs_uA, rs_uI, rs_uJ, rs_uP, Nat.reduceAdd, Nat.reduceMul, Nat.reduceSub, Nat.reduceLeDiff, Nat.reduceLT, Nat.reduceEqDiff, Nat.add_zero, Nat.zero_add, Nat.zero_le, t1.1, t1.2.1, t1.2.2.1, ar_add, ar_le, ar_oki, ar_cl, Nat.add_assoc s, t4, c1, carV]
  by_cases c2 : f < p
  · have c3 : ¬ p ≤ f := by omega
    simp only [c2, c3, if_true, if_false, ite_true, ite_false, not_true_eq_false, not_false_eq_true, true_or, or_true, false_or, or_false, and_self, ok_n0, ok_ni, ok_nr, ok_nl, va_rf_some, va_rf_none, true_and, and_true, List.length_nil, List.length_cons, Option.toList_some, Option.toList_none, List.cons_append, List.nil_append, rK_uA, rK_uI, rK_uJ, rK_uP, rP_uA, rP_uI, rP_uJ, rJ_uA, rJ_uI, rJ_uP, rI_uJ, rI_uP, rz_uA, rz_uI, rz_uJ, rz_uP, rs_uA, rs_uI, rs_uJ, rs_uP, Nat.reduceAdd, Nat.reduceMul, Nat.reduceSub, Nat.reduceLeDiff, Nat.reduceLT, Nat.reduceEqDiff, Nat.add_zero, Nat.zero_add, Nat.zero_le]
    have l := s_carry_up (h := h) (F := rI h (M + 1)) (v := v) t1 t3 hi hp (Nat.le_of_lt c2) (v (35 + 65 * i + 5 + f)) Q (p - f) f (by omega) (Nat.le_refl _)
    rw [Nat.sub_self, cpy_0, ← e0] at l
    exact l
  · have c3 : p ≤ f := by omega
    simp only [c2, c3, if_true, if_false, ite_true, ite_false, not_true_eq_false, not_false_eq_true, true_or, or_true, false_or, or_false, and_self, ok_n0, ok_ni, ok_nr, ok_nl, va_rf_some, va_rf_none, true_and, and_true, List.length_nil, List.length_cons, Option.toList_some, Option.toList_none, List.cons_append, List.nil_append, rK_uA, rK_uI, rK_uJ, rK_uP, rP_uA, rP_uI, rP_uJ, rJ_uA, rJ_uI, rJ_uP, rI_uJ, rI_uP, rz_uA, rz_uI, rz_uJ, rz_uP, rs_uA, rs_uI, rs_uJ, rs_uP, Nat.reduceAdd, Nat.reduceMul, Nat.reduceSub, Nat.reduceLeDiff, Nat.reduceLT, Nat.reduceEqDiff, Nat.add_zero, Nat.zero_add, Nat.zero_le]
    have l := s_carry_dn (h := h) (F := rI h (M + 1)) (v := v) (p := p) t1 t3 hi hf (v (35 + 65 * i + 5 + f)) Q (f - p) f (by omega) (Nat.le_refl _)
    rw [Nat.sub_self, cpy_0, ← e0] at l
    exact l
theorem s_screenOf_loop {h : pm_H} {M s : Nat} {v : Nat → Int32} (t : MV h M s v) {n : Nat} (hn : v 0 = nI n) (hn2 : n ≤ 4) (w : Int32) (Q : Option Value × pm_H → Prop) : ∀ (m k : Nat) (r : Int32), k + m = n → pGo 134 4 [some (.ref M), some (.int w), some (.int r), some (.int (nI k))] [] h Q = Q (some (.int (llast (fun k => v (21 + k)) w m k r)), h) := by
  obtain ⟨t1, t2, t3, t4⟩ := id t
  have z0 : rI h (M + 1) s = nI n := (t4 0).trans hn
  intro m
  induction m with
  | zero =>
    intro k r hk
    have c1 : n ≤ k := by omega
    have c2 : s < 41160 := by omega
    rw [k134_4]
    simp (disch := omega) only [k134_0, k134_1, k134_2, k134_3, k134_5, k134_6, k134_9, k134_10, k134_13, k134_14, k134_15, k134_16, k134_19, k134_20, k134_23, k134_24, k134_27, k134_29, k134_30, k134_31, k134_32, k134_33, k134_34, k134_37, k134_38, k134_39, k134_42, k134_45, k134_46, if_true, if_false, ite_true, ite_false, not_true_eq_false, not_false_eq_true, true_or, or_true, false_or, or_false, and_self, ok_n0, ok_ni, ok_nr, ok_nl, va_rf_some, va_rf_none, true_and, and_true, List.length_nil, List.length_cons, Option.toList_some, Option.toList_none, List.cons_append, List.nil_append, rK_uA, rK_uI, rK_uJ, rK_uP, rP_uA, rP_uI, rP_uJ, rJ_uA, rJ_uI, rJ_uP, rI_uJ, rI_uP, rz_uA, rz_uI, rz_uJ, rz_uP, rs_uA, rs_uI, rs_uJ, rs_uP, Nat.reduceAdd, Nat.reduceMul, Nat.reduceSub, Nat.reduceLeDiff, Nat.reduceLT, Nat.reduceEqDiff, Nat.add_zero, Nat.zero_add, Nat.zero_le, t1.1, t1.2.1, t1.2.2.1, t2, ar_add, ar_oki, ar_cl, ar_le, Nat.add_assoc s, t4, z0, c1, c2, llast]
  | succ m ih =>
    intro k r hk
    have c1 : ¬ n ≤ k := by omega
    have c2 : s < 41160 := by omega
    have c3 : s + (21 + k) < 41160 := by omega
    rw [k134_4]
    simp (disch := omega) only [k134_0, k134_1, k134_2, k134_3, k134_5, k134_6, k134_9, k134_10, k134_13, k134_14, k134_15, k134_16, k134_19, k134_20, k134_23, k134_24, k134_27, k134_29, k134_30, k134_31, k134_32, k134_33, k134_34, k134_37, k134_38, k134_39, k134_42, k134_45, k134_46, if_true, if_false, ite_true, ite_false, not_true_eq_false, not_false_eq_true, true_or, or_true, false_or, or_false, and_self, ok_n0, ok_ni, ok_nr, ok_nl, va_rf_some, va_rf_none, true_and, and_true, List.length_nil, List.length_cons, Option.toList_some, Option.toList_none, List.cons_append, List.nil_append, rK_uA, rK_uI, rK_uJ, rK_uP, rP_uA, rP_uI, rP_uJ, rJ_uA, rJ_uI, rJ_uP, rI_uJ, rI_uP, rz_uA, rz_uI, rz_uJ, rz_uP, rs_uA, rs_uI, rs_uJ, rs_uP, Nat.reduceAdd, Nat.reduceMul, Nat.reduceSub, Nat.reduceLeDiff, Nat.reduceLT, Nat.reduceEqDiff, Nat.add_zero, Nat.zero_add, Nat.zero_le, t1.1, t1.2.1, t1.2.2.1, t2, ar_add, ar_oki, ar_cl, ar_le, Nat.add_assoc s, t4, z0, c1, c2, c3, llast, ih]
    by_cases hx : v (21 + k) = w
    · simp only [hx, if_true, if_false, ite_true, ite_false, not_true_eq_false, not_false_eq_true, true_or, or_true, false_or, or_false, and_self, ok_n0, ok_ni, ok_nr, ok_nl, va_rf_some, va_rf_none, true_and, and_true, List.length_nil, List.length_cons, Option.toList_some, Option.toList_none, List.cons_append, List.nil_append, rK_uA, rK_uI, rK_uJ, rK_uP, rP_uA, rP_uI, rP_uJ, rJ_uA, rJ_uI, rJ_uP, rI_uJ, rI_uP, rz_uA, rz_uI, rz_uJ, rz_uP, rs_uA, rs_uI, rs_uJ, rs_uP, Nat.reduceAdd, Nat.reduceMul, Nat.reduceSub, Nat.reduceLeDiff, Nat.reduceLT, Nat.reduceEqDiff, Nat.add_zero, Nat.zero_add, Nat.zero_le]
    · simp only [hx, if_true, if_false, ite_true, ite_false, not_true_eq_false, not_false_eq_true, true_or, or_true, false_or, or_false, and_self, ok_n0, ok_ni, ok_nr, ok_nl, va_rf_some, va_rf_none, true_and, and_true, List.length_nil, List.length_cons, Option.toList_some, Option.toList_none, List.cons_append, List.nil_append, rK_uA, rK_uI, rK_uJ, rK_uP, rP_uA, rP_uI, rP_uJ, rJ_uA, rJ_uI, rJ_uP, rI_uJ, rI_uP, rz_uA, rz_uI, rz_uJ, rz_uP, rs_uA, rs_uI, rs_uJ, rs_uP, Nat.reduceAdd, Nat.reduceMul, Nat.reduceSub, Nat.reduceLeDiff, Nat.reduceLT, Nat.reduceEqDiff, Nat.add_zero, Nat.zero_add, Nat.zero_le]
def scrV (v : Nat → Int32) (n : Nat) (w : Int32) : Int32 := llast (fun k => v (21 + k)) w n 0 (-1)
theorem s_screenOf {h : pm_H} {M s : Nat} {v : Nat → Int32} (t : MV h M s v) {n : Nat} (hn : v 0 = nI n) (hn2 : n ≤ 4) (w : Int32) (Q : Option Value × pm_H → Prop) : pGo 134 0 [some (.ref M), some (.int w), none, none] [] h Q = Q (some (.int (scrV v n w)), h) := by
  rw [k134_0]
  simp only [k134_1, k134_2, k134_3, k134_5, k134_6, k134_9, k134_10, k134_13, k134_14, k134_15, k134_16, k134_19, k134_20, k134_23, k134_24, k134_27, k134_29, k134_30, k134_31, k134_32, k134_33, k134_34, k134_37, k134_38, k134_39, k134_42, k134_45, k134_46, if_true, if_false, ite_true, ite_false, not_true_eq_false, not_false_eq_true, true_or, or_true, false_or, or_false, and_self, ok_n0, ok_ni, ok_nr, ok_nl, va_rf_some, va_rf_none, true_and, and_true, List.length_nil, List.length_cons, Option.toList_some, Option.toList_none, List.cons_append, List.nil_append, rK_uA, rK_uI, rK_uJ, rK_uP, rP_uA, rP_uI, rP_uJ, rJ_uA, rJ_uI, rJ_uP, rI_uJ, rI_uP, rz_uA, rz_uI, rz_uJ, rz_uP, rs_uA, rs_uI, rs_uJ, rs_uP, Nat.reduceAdd, Nat.reduceMul, Nat.reduceSub, Nat.reduceLeDiff, Nat.reduceLT, Nat.reduceEqDiff, Nat.add_zero, Nat.zero_add, Nat.zero_le]
  exact s_screenOf_loop t hn hn2 w Q n 0 (-1) (by omega)
def topV (v : Nat → Int32) (b p : Nat) (x : Int32) : Nat → Int32 := upd (va_cpy v v b (b + 1) p) b x
theorem s_first_a {h : pm_H} {M s : Nat} {v : Nat → Int32} (t : MV h M s v) {p : Nat} (hp : p < 3) (gone comes : Int32) (hg : v (2 + p) = gone) (hq : ∀ q, q < p → ¬ v (2 + q) = gone) (Q : Option Value × pm_H → Prop) : ∀ (m k : Nat), k + m = p → pGo 135 2 [some (.ref M), some (.int gone), some (.int comes), some (.int (nI k)), none] [] h Q = pGo 135 25 [some (.ref M), some (.int gone), some (.int comes), some (.int (nI p)), none] [] h Q := by
  obtain ⟨t1, t2, t3, t4⟩ := id t
  intro m
  induction m with
  | zero =>
    intro k hk
    have hk : k = p := by omega
    subst hk
    have c2 : s + (2 + k) < 41160 := by omega
    rw [k135_2]
    simp (disch := omega) only [k135_0, k135_1, k135_3, k135_6, k135_7, k135_10, k135_11, k135_12, k135_13, k135_14, k135_15, k135_16, k135_19, k135_22, k135_26, k135_28, k135_30, k135_33, k135_34, k135_37, k135_38, k135_41, k135_42, k135_43, k135_45, k135_46, k135_47, k135_50, k135_51, k135_54, k135_55, k135_56, k135_58, k135_59, k135_60, k135_61, k135_62, k135_63, k135_66, k135_69, k135_70, k135_73, k135_74, k135_77, k135_78, k135_79, k135_80, k135_81, if_true, if_false, ite_true, ite_false, not_true_eq_false, not_false_eq_true, true_or, or_true, false_or, or_false, and_self, ok_n0, ok_ni, ok_nr, ok_nl, va_rf_some, va_rf_none, true_and, and_true, List.length_nil, List.length_cons, Option.toList_some, Option.toList_none, List.cons_append, List.nil_append, rK_uA, rK_uI, rK_uJ, rK_uP, rP_uA, rP_uI, rP_uJ, rJ_uA, rJ_uI, rJ_uP, rI_uJ, rI_uP, rz_uA, rz_uI, rz_uJ, rz_uP, rs_uA, rs_uI, rs_uJ, rs_uP, Nat.reduceAdd, Nat.reduceMul, Nat.reduceSub, Nat.reduceLeDiff, Nat.reduceLT, Nat.reduceEqDiff, Nat.add_zero, Nat.zero_add, Nat.zero_le, t1.1, t1.2.1, t1.2.2.1, t2, ar_add, ar_oki, ar_cl, Nat.add_assoc s, t4, c2, hg]
  | succ m ih =>
    intro k hk
    have c2 : s + (2 + k) < 41160 := by omega
    have c1 := hq k (by omega)
    rw [k135_2]
    simp (disch := omega) only [k135_0, k135_1, k135_3, k135_6, k135_7, k135_10, k135_11, k135_12, k135_13, k135_14, k135_15, k135_16, k135_19, k135_22, k135_26, k135_28, k135_30, k135_33, k135_34, k135_37, k135_38, k135_41, k135_42, k135_43, k135_45, k135_46, k135_47, k135_50, k135_51, k135_54, k135_55, k135_56, k135_58, k135_59, k135_60, k135_61, k135_62, k135_63, k135_66, k135_69, k135_70, k135_73, k135_74, k135_77, k135_78, k135_79, k135_80, k135_81, if_true, if_false, ite_true, ite_false, not_true_eq_false, not_false_eq_true, true_or, or_true, false_or, or_false, and_self, ok_n0, ok_ni, ok_nr, ok_nl, va_rf_some, va_rf_none, true_and, and_true, List.length_nil, List.length_cons, Option.toList_some, Option.toList_none, List.cons_append, List.nil_append, rK_uA, rK_uI, rK_uJ, rK_uP, rP_uA, rP_uI, rP_uJ, rJ_uA, rJ_uI, rJ_uP, rI_uJ, rI_uP, rz_uA, rz_uI, rz_uJ, rz_uP, rs_uA, rs_uI, rs_uJ, rs_uP, Nat.reduceAdd, Nat.reduceMul, Nat.reduceSub, Nat.reduceLeDiff, Nat.reduceLT, Nat.reduceEqDiff, Nat.add_zero, Nat.zero_add, Nat.zero_le, t1.1, t1.2.1, t1.2.2.1, t2, ar_add, ar_oki, ar_cl, Nat.add_assoc s, t4, c2, c1]
    exact ih (k + 1) (by omega)
theorem s_first_b {h : pm_H} {M s : Nat} {v F : Nat → Int32} (t : MK h M) (t2 : rI h M 3 = nI s) (ts : s ≤ 40180) {p : Nat} (hp : p < 3) (gone comes : Int32) (Q : Option Value × pm_H → Prop) : ∀ (k : Nat), k ≤ p → pGo 135 28 [some (.ref M), some (.int gone), some (.int comes), some (.int (nI p)), some (.int (nI k))] [] (HM h M F s (va_cpy v v (2 + k) (2 + k + 1) (p - k))) Q = Q (none, HM h M F s (topV v 2 p comes)) := by
  intro k
  induction k with
  | zero =>
    intro hk
    have c2 : s + 2 < 41160 := by omega
    rw [k135_28]
    simp (disch := omega) only [k135_0, k135_1, k135_2, k135_3, k135_6, k135_7, k135_10, k135_11, k135_12, k135_13, k135_14, k135_15, k135_16, k135_19, k135_22, k135_25, k135_26, k135_30, k135_33, k135_34, k135_37, k135_38, k135_41, k135_42, k135_43, k135_45, k135_46, k135_47, k135_50, k135_51, k135_54, k135_55, k135_56, k135_58, k135_59, k135_60, k135_61, k135_62, k135_63, k135_66, k135_69, k135_70, k135_73, k135_74, k135_77, k135_78, k135_79, k135_80, k135_81, if_true, if_false, ite_true, ite_false, not_true_eq_false, not_false_eq_true, true_or, or_true, false_or, or_false, and_self, ok_n0, ok_ni, ok_nr, ok_nl, va_rf_some, va_rf_none, true_and, and_true, List.length_nil, List.length_cons, Option.toList_some, Option.toList_none, List.cons_append, List.nil_append, rK_uA, rK_uI, rK_uJ, rK_uP, rP_uA, rP_uI, rP_uJ, rJ_uA, rJ_uI, rJ_uP, rI_uJ, rI_uP, rz_uA, rz_uI, rz_uJ, rz_uP, rs_uA, rs_uI, rs_uJ, rs_uP, Nat.reduceAdd, Nat.reduceMul, Nat.reduceSub, Nat.reduceLeDiff, Nat.reduceLT, Nat.reduceEqDiff, Nat.add_zero, Nat.zero_add, Nat.zero_le, t.1, t.2.1, t.2.2.1, t2, rK_HM, rP_HM, rI_HM0, ar_le, ar_add, ar_okw, ar_cl, c2, uI_HM, topV, Nat.sub_zero]
  | succ k ih =>
    intro hk
    have c1 : ¬ k + 1 ≤ 0 := by omega
    have c2 : s + (2 + (k + 1)) < 41160 := by omega
    have c3 : s + (2 + (k + 1 - 1)) < 41160 := by omega
    have e1 : s + (2 + (k + 1)) - 1 = s + (2 + (k + 1 - 1)) := by omega
    have e2 : k + 1 - 1 = k := by omega
    rw [k135_28]
    simp (disch := omega) only [k135_0, k135_1, k135_2, k135_3, k135_6, k135_7, k135_10, k135_11, k135_12, k135_13, k135_14, k135_15, k135_16, k135_19, k135_22, k135_25, k135_26, k135_30, k135_33, k135_34, k135_37, k135_38, k135_41, k135_42, k135_43, k135_45, k135_46, k135_47, k135_50, k135_51, k135_54, k135_55, k135_56, k135_58, k135_59, k135_60, k135_61, k135_62, k135_63, k135_66, k135_69, k135_70, k135_73, k135_74, k135_77, k135_78, k135_79, k135_80, k135_81, if_true, if_false, ite_true, ite_false, not_true_eq_false, not_false_eq_true, true_or, or_true, false_or, or_false, and_self, ok_n0, ok_ni, ok_nr, ok_nl, va_rf_some, va_rf_none, true_and, and_true, List.length_nil, List.length_cons, Option.toList_some, Option.toList_none, List.cons_append, List.nil_append, rK_uA, rK_uI, rK_uJ, rK_uP, rP_uA, rP_uI, rP_uJ, rJ_uA, rJ_uI, rJ_uP, rI_uJ, rI_uP, rz_uA, rz_uI, rz_uJ, rz_uP, rs_uA, rs_uI, rs_uJ, rs_uP, Nat.reduceAdd, Nat.reduceMul, Nat.reduceSub, Nat.reduceLeDiff, Nat.reduceLT, Nat.reduceEqDiff, Nat.add_zero, Nat.zero_add, Nat.zero_le, t.1, t.2.1, t.2.2.1, t2, rK_HM, rP_HM, rI_HM0, ar_le, ar_add, ar_sub, ar_m1, ar_oki, ar_okw, ar_cl, Nat.add_assoc s, c1, c2, c3, e1, rI_HM, cpy_rd, uI_HM, cpy_dn]
    rw [e2]
    exact ih (by omega)
theorem s_first {h : pm_H} {M s : Nat} {v : Nat → Int32} (t : MV h M s v) {p : Nat} (hp : p < 3) (gone comes : Int32) (hg : v (2 + p) = gone) (hq : ∀ q, q < p → ¬ v (2 + q) = gone) (Q : Option Value × pm_H → Prop) : pGo 135 0 [some (.ref M), some (.int gone), some (.int comes), none, none] [] h Q = Q (none, HM h M (rI h (M + 1)) s (topV v 2 p comes)) := by
  obtain ⟨t1, t2, t3, t4⟩ := id t
  have e0 := HM_of t4
  rw [k135_0]
  simp only [k135_1, if_true, if_false, ite_true, ite_false, not_true_eq_false, not_false_eq_true, true_or, or_true, false_or, or_false, and_self, ok_n0, ok_ni, ok_nr, ok_nl, va_rf_some, va_rf_none, true_and, and_true, List.length_nil, List.length_cons, Option.toList_some, Option.toList_none, List.cons_append, List.nil_append, rK_uA, rK_uI, rK_uJ, rK_uP, rP_uA, rP_uI, rP_uJ, rJ_uA, rJ_uI, rJ_uP, rI_uJ, rI_uP, rz_uA, rz_uI, rz_uJ, rz_uP, rs_uA, rs_uI, rs_uJ, rs_uP, Nat.reduceAdd, Nat.reduceMul, Nat.reduceSub, Nat.reduceLeDiff, Nat.reduceLT, Nat.reduceEqDiff, Nat.add_zero, Nat.zero_add, Nat.zero_le]
  rw [s_first_a t hp gone comes hg hq Q p 0 (by omega), k135_25]
  simp only [k135_26, if_true, if_false, ite_true, ite_false, not_true_eq_false, not_false_eq_true, true_or, or_true, false_or, or_false, and_self, ok_n0, ok_ni, ok_nr, ok_nl, va_rf_some, va_rf_none, true_and, and_true, List.length_nil, List.length_cons, Option.toList_some, Option.toList_none, List.cons_append, List.nil_append, rK_uA, rK_uI, rK_uJ, rK_uP, rP_uA, rP_uI, rP_uJ, rJ_uA, rJ_uI, rJ_uP, rI_uJ, rI_uP, rz_uA, rz_uI, rz_uJ, rz_uP, rs_uA, rs_uI, rs_uJ, rs_uP, Nat.reduceAdd, Nat.reduceMul, Nat.reduceSub, Nat.reduceLeDiff, Nat.reduceLT, Nat.reduceEqDiff, Nat.add_zero, Nat.zero_add, Nat.zero_le]
  have l := s_first_b (h := h) (F := rI h (M + 1)) (v := v) t1 t2 t3 hp gone comes Q p (Nat.le_refl _)
  rw [Nat.sub_self, cpy_0, ← e0] at l
  exact l
