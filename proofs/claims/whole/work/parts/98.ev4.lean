/-! EVENTS, 4: move and click -/
section EVS4
variable {h : pm_H} {X hd un wt d B F : Nat} {V : Nat → Nat → Int32} {W : Nat → Int32} {Sl : Nat → Option Nat}
variable {v v' : Nat → Int32} {n c n' c' : Nat} {p lo r rl C H P p' lo' r' rl' C' H' P' : Nat → Nat}
theorem m_mv {hb h6 : pm_H} {M i m f w : Nat} {x : Bool} (T : MV hb M 40180 v) (hi : i < 9) (cs : ∀ Q, pGo 129 0 [some (.ref M)] [] hb Q = Q (some (.int (nI i)), hb)) (ct : v (35 + 65 * i + 3) = nI m) (fo : v (35 + 65 * i + 4) = nI f) (hf : f < m) (hm2 : 2 ≤ m) (hm : m ≤ 60) (hw : w < 7) (E : ∀ Q, pGo 125 0 [some (.ref M), none, none] [] (HM hb M (rI hb (M + 1)) 40180 (movV v i m f w)) Q = Q (some (.int (nb x)), h6)) (Q : Option Value × pm_H → Prop) : pGo 142 16 [some (.ref M), some (.int (nI w)), none, none, none, none, none] [] hb Q = Q (some (.int (nb x)), h6) := by
  obtain ⟨t1, t2, t3, t4⟩ := id T
  have eh := HM_of t4
  have c3 : 40180 + (35 + 65 * i + 3) < 41160 := by omega
  have c4 : 40180 + (35 + 65 * i + 4) < 41160 := by omega
  have c5 : 40180 + (35 + 65 * i + 5) < 41160 := by omega
  have c6 : 40180 + (35 + 65 * i + 5 + f) < 41160 := by omega
  have d0 : ¬ m ≤ 1 := by omega
  have n3 : ¬ nI 3 = nI 0 := by decide +kernel
  have r0 : nI 0 - nI 0 / nI 3 * nI 3 = nI 0 := by decide +kernel
  have r1 : nI 1 - nI 1 / nI 3 * nI 3 = nI 1 := by decide +kernel
  have r2 : nI 2 - nI 2 / nI 3 * nI 3 = nI 2 := by decide +kernel
  have r3 : nI 3 - nI 3 / nI 3 * nI 3 = nI 0 := by decide +kernel
  have r4 : nI 4 - nI 4 / nI 3 * nI 3 = nI 1 := by decide +kernel
  have r5 : nI 5 - nI 5 / nI 3 * nI 3 = nI 2 := by decide +kernel
  have r6 : nI 6 - nI 6 / nI 3 * nI 3 = nI 0 := by decide +kernel
  have x0 : (f + m - 1) % m = if f ≤ 0 then m - 1 else f - 1 := by
    by_cases e : f ≤ 0
    · rw [if_pos e, show f + m - 1 = m - 1 by omega, Nat.mod_eq_of_lt (by omega)]
    · rw [if_neg e, show f + m - 1 = (f - 1) + m by omega, Nat.add_mod_right, Nat.mod_eq_of_lt (by omega)]
  have x1 : (f + 1) % m = if m - 1 ≤ f then 0 else f + 1 := by
    by_cases e : m - 1 ≤ f
    · rw [if_pos e, show f + 1 = m by omega, Nat.mod_self]
    · rw [if_neg e, Nat.mod_eq_of_lt (by omega)]
  have u4 : ∀ y, uI hb (M + 1) (40180 + (35 + 65 * i + 4)) y = HM hb M (rI hb (M + 1)) 40180 (upd v (35 + 65 * i + 4) y) := fun y => by
    have := uI_HM hb M (rI hb (M + 1)) 40180 v (35 + 65 * i + 4) y
    rw [← eh] at this; exact this
  have u5 : ∀ y, uI hb (M + 1) (40180 + (35 + 65 * i + 5)) y = HM hb M (rI hb (M + 1)) 40180 (upd v (35 + 65 * i + 5) y) := fun y => by
    have := uI_HM hb M (rI hb (M + 1)) 40180 v (35 + 65 * i + 5) y
    rw [← eh] at this; exact this
  have ca := fun t (ht : t < 60) => s_carry T hi (f := f) (p := t) (by omega) ht
  have hw' : w = 0 ∨ w = 1 ∨ w = 2 ∨ w = 3 ∨ w = 4 ∨ w = 5 ∨ w = 6 := by omega
  have hh : ∀ q, pGo 142 16 [some (.ref M), some (.int (nI q)), none, none, none, none, none] [] hb Q = pGo 142 49 [some (.ref M), some (.int (nI q)), some (.int (nI (40180 + (35 + 65 * i)))), some (.int (nI m)), some (.int (nI f)), none, none] [] hb Q := fun q => by
    rw [k142_16]
    simp (disch := omega) only [k142_0, k142_1, k142_4, k142_5, k142_7, k142_10, k142_11, k142_12, k142_13, k142_17, k142_18, k142_21, k142_24, k142_25, k142_26, k142_29, k142_30, k142_31, k142_32, k142_33, k142_34, k142_35, k142_38, k142_39, k142_40, k142_41, k142_42, k142_44, k142_45, k142_46, k142_50, k142_52, k142_53, k142_54, k142_55, k142_58, k142_59, k142_61, k142_64, k142_66, k142_69, k142_71, k142_72, k142_73, k142_76, k142_77, k142_78, k142_79, k142_81, k142_82, k142_83, k142_84, k142_85, k142_88, k142_90, k142_91, k142_92, k142_93, k142_96, k142_98, k142_99, k142_100, k142_103, k142_104, k142_106, k142_107, k142_108, k142_111, k142_112, k142_115, k142_116, k142_117, k142_118, k142_119, k142_121, k142_122, k142_125, k142_126, k142_127, k142_128, k142_129, k142_132, k142_133, k142_134, k142_135, k142_137, k142_138, k142_139, k142_140, k142_141, k142_144, k142_145, k142_146, k142_147, k142_149, k142_150, k142_152, k142_153, k142_156, k142_157, k142_158, k142_161, k142_162, k142_163, k142_165, k142_167, k142_170, k142_171, k142_174, k142_175, k142_176, k142_177, k142_179, k142_180, k142_181, k142_184, cs, s_space T, if_true, if_false, ite_true, ite_false, not_true_eq_false, not_false_eq_true, true_or, or_true, false_or, or_false, and_self, ok_n0, ok_ni, ok_nr, ok_nl, va_rf_some, va_rf_none, true_and, and_true, List.length_nil, List.length_cons, Option.toList_some, Option.toList_none, List.cons_append, List.nil_append, rK_uA, rK_uI, rK_uJ, rK_uP, rP_uA, rP_uI, rP_uJ, rJ_uA, rJ_uI, rJ_uP, rI_uJ, rI_uP, rz_uA, rz_uI, rz_uJ, rz_uP, rs_uA, rs_uI, rs_uJ, rs_uP, Nat.reduceAdd, Nat.reduceMul, Nat.reduceSub, Nat.reduceLeDiff, Nat.reduceLT, Nat.reduceEqDiff, Nat.add_zero, Nat.zero_add, Nat.zero_le, t1.1, t1.2.1, t1.2.2.1, ar_add, Nat.add_assoc 40180, ar_oki, ar_cl, ar_le, t4, ct, fo, c3, c4, d0]
  rcases hw' with rfl | rfl | rfl | rfl | rfl | rfl | rfl
  · rw [hh, k142_49]
    simp only [movV, x0, if_true] at E
    by_cases e : f ≤ 0
    · simp only [e, if_true] at E
      simp (disch := omega) only [k142_0, k142_1, k142_4, k142_5, k142_7, k142_10, k142_11, k142_12, k142_13, k142_17, k142_18, k142_21, k142_24, k142_25, k142_26, k142_29, k142_30, k142_31, k142_32, k142_33, k142_34, k142_35, k142_38, k142_39, k142_40, k142_41, k142_42, k142_44, k142_45, k142_46, k142_50, k142_52, k142_53, k142_54, k142_55, k142_58, k142_59, k142_61, k142_64, k142_66, k142_69, k142_71, k142_72, k142_73, k142_76, k142_77, k142_78, k142_79, k142_81, k142_82, k142_83, k142_84, k142_85, k142_88, k142_90, k142_91, k142_92, k142_93, k142_96, k142_98, k142_99, k142_100, k142_103, k142_104, k142_106, k142_107, k142_108, k142_111, k142_112, k142_115, k142_116, k142_117, k142_118, k142_119, k142_121, k142_122, k142_125, k142_126, k142_127, k142_128, k142_129, k142_132, k142_133, k142_134, k142_135, k142_137, k142_138, k142_139, k142_140, k142_141, k142_144, k142_145, k142_146, k142_147, k142_149, k142_150, k142_152, k142_153, k142_156, k142_157, k142_158, k142_161, k142_162, k142_163, k142_165, k142_167, k142_170, k142_171, k142_174, k142_175, k142_176, k142_177, k142_179, k142_180, k142_181, k142_184, if_true, if_false, ite_true, ite_false, not_true_eq_false, not_false_eq_true, true_or, or_true, false_or, or_false, and_self, ok_n0, ok_ni, ok_nr, ok_nl, va_rf_some, va_rf_none, true_and, and_true, List.length_nil, List.length_cons, Option.toList_some, Option.toList_none, List.cons_append, List.nil_append, rK_uA, rK_uI, rK_uJ, rK_uP, rP_uA, rP_uI, rP_uJ, rJ_uA, rJ_uI, rJ_uP, rI_uJ, rI_uP, rz_uA, rz_uI, rz_uJ, rz_uP, rs_uA, rs_uI, rs_uJ, rs_uP, Nat.reduceAdd, Nat.reduceMul, Nat.reduceSub, Nat.reduceLeDiff, Nat.reduceLT, Nat.reduceEqDiff, Nat.add_zero, Nat.zero_add, Nat.zero_le, t1.1, t1.2.1, t1.2.2.1, ar_add, ar_sub, Nat.add_assoc 40180, ar_okw, ar_cl, ar_le, ar_eq, n3, r0, e, c4, u4, rK_HM, rP_HM, E, nb_ok]
    · simp only [e, if_false] at E
      simp (disch := omega) only [k142_0, k142_1, k142_4, k142_5, k142_7, k142_10, k142_11, k142_12, k142_13, k142_17, k142_18, k142_21, k142_24, k142_25, k142_26, k142_29, k142_30, k142_31, k142_32, k142_33, k142_34, k142_35, k142_38, k142_39, k142_40, k142_41, k142_42, k142_44, k142_45, k142_46, k142_50, k142_52, k142_53, k142_54, k142_55, k142_58, k142_59, k142_61, k142_64, k142_66, k142_69, k142_71, k142_72, k142_73, k142_76, k142_77, k142_78, k142_79, k142_81, k142_82, k142_83, k142_84, k142_85, k142_88, k142_90, k142_91, k142_92, k142_93, k142_96, k142_98, k142_99, k142_100, k142_103, k142_104, k142_106, k142_107, k142_108, k142_111, k142_112, k142_115, k142_116, k142_117, k142_118, k142_119, k142_121, k142_122, k142_125, k142_126, k142_127, k142_128, k142_129, k142_132, k142_133, k142_134, k142_135, k142_137, k142_138, k142_139, k142_140, k142_141, k142_144, k142_145, k142_146, k142_147, k142_149, k142_150, k142_152, k142_153, k142_156, k142_157, k142_158, k142_161, k142_162, k142_163, k142_165, k142_167, k142_170, k142_171, k142_174, k142_175, k142_176, k142_177, k142_179, k142_180, k142_181, k142_184, if_true, if_false, ite_true, ite_false, not_true_eq_false, not_false_eq_true, true_or, or_true, false_or, or_false, and_self, ok_n0, ok_ni, ok_nr, ok_nl, va_rf_some, va_rf_none, true_and, and_true, List.length_nil, List.length_cons, Option.toList_some, Option.toList_none, List.cons_append, List.nil_append, rK_uA, rK_uI, rK_uJ, rK_uP, rP_uA, rP_uI, rP_uJ, rJ_uA, rJ_uI, rJ_uP, rI_uJ, rI_uP, rz_uA, rz_uI, rz_uJ, rz_uP, rs_uA, rs_uI, rs_uJ, rs_uP, Nat.reduceAdd, Nat.reduceMul, Nat.reduceSub, Nat.reduceLeDiff, Nat.reduceLT, Nat.reduceEqDiff, Nat.add_zero, Nat.zero_add, Nat.zero_le, t1.1, t1.2.1, t1.2.2.1, ar_add, ar_sub, Nat.add_assoc 40180, ar_okw, ar_cl, ar_le, ar_eq, n3, r0, e, c4, u4, rK_HM, rP_HM, E, nb_ok]
  · rw [hh, k142_49]
    simp only [movV, x1, Nat.reduceEqDiff, if_true, if_false] at E
    by_cases e : m - 1 ≤ f
    · simp only [e, if_true] at E
      simp (disch := omega) only [k142_0, k142_1, k142_4, k142_5, k142_7, k142_10, k142_11, k142_12, k142_13, k142_17, k142_18, k142_21, k142_24, k142_25, k142_26, k142_29, k142_30, k142_31, k142_32, k142_33, k142_34, k142_35, k142_38, k142_39, k142_40, k142_41, k142_42, k142_44, k142_45, k142_46, k142_50, k142_52, k142_53, k142_54, k142_55, k142_58, k142_59, k142_61, k142_64, k142_66, k142_69, k142_71, k142_72, k142_73, k142_76, k142_77, k142_78, k142_79, k142_81, k142_82, k142_83, k142_84, k142_85, k142_88, k142_90, k142_91, k142_92, k142_93, k142_96, k142_98, k142_99, k142_100, k142_103, k142_104, k142_106, k142_107, k142_108, k142_111, k142_112, k142_115, k142_116, k142_117, k142_118, k142_119, k142_121, k142_122, k142_125, k142_126, k142_127, k142_128, k142_129, k142_132, k142_133, k142_134, k142_135, k142_137, k142_138, k142_139, k142_140, k142_141, k142_144, k142_145, k142_146, k142_147, k142_149, k142_150, k142_152, k142_153, k142_156, k142_157, k142_158, k142_161, k142_162, k142_163, k142_165, k142_167, k142_170, k142_171, k142_174, k142_175, k142_176, k142_177, k142_179, k142_180, k142_181, k142_184, if_true, if_false, ite_true, ite_false, not_true_eq_false, not_false_eq_true, true_or, or_true, false_or, or_false, and_self, ok_n0, ok_ni, ok_nr, ok_nl, va_rf_some, va_rf_none, true_and, and_true, List.length_nil, List.length_cons, Option.toList_some, Option.toList_none, List.cons_append, List.nil_append, rK_uA, rK_uI, rK_uJ, rK_uP, rP_uA, rP_uI, rP_uJ, rJ_uA, rJ_uI, rJ_uP, rI_uJ, rI_uP, rz_uA, rz_uI, rz_uJ, rz_uP, rs_uA, rs_uI, rs_uJ, rs_uP, Nat.reduceAdd, Nat.reduceMul, Nat.reduceSub, Nat.reduceLeDiff, Nat.reduceLT, Nat.reduceEqDiff, Nat.add_zero, Nat.zero_add, Nat.zero_le, t1.1, t1.2.1, t1.2.2.1, ar_add, ar_sub, Nat.add_assoc 40180, ar_okw, ar_cl, ar_le, ar_eq, n3, r1, e, c4, u4, rK_HM, rP_HM, E, nb_ok]
    · simp only [e, if_false] at E
      simp (disch := omega) only [k142_0, k142_1, k142_4, k142_5, k142_7, k142_10, k142_11, k142_12, k142_13, k142_17, k142_18, k142_21, k142_24, k142_25, k142_26, k142_29, k142_30, k142_31, k142_32, k142_33, k142_34, k142_35, k142_38, k142_39, k142_40, k142_41, k142_42, k142_44, k142_45, k142_46, k142_50, k142_52, k142_53, k142_54, k142_55, k142_58, k142_59, k142_61, k142_64, k142_66, k142_69, k142_71, k142_72, k142_73, k142_76, k142_77, k142_78, k142_79, k142_81, k142_82, k142_83, k142_84, k142_85, k142_88, k142_90, k142_91, k142_92, k142_93, k142_96, k142_98, k142_99, k142_100, k142_103, k142_104, k142_106, k142_107, k142_108, k142_111, k142_112, k142_115, k142_116, k142_117, k142_118, k142_119, k142_121, k142_122, k142_125, k142_126, k142_127, k142_128, k142_129, k142_132, k142_133, k142_134, k142_135, k142_137, k142_138, k142_139, k142_140, k142_141, k142_144, k142_145, k142_146, k142_147, k142_149, k142_150, k142_152, k142_153, k142_156, k142_157, k142_158, k142_161, k142_162, k142_163, k142_165, k142_167, k142_170, k142_171, k142_174, k142_175, k142_176, k142_177, k142_179, k142_180, k142_181, k142_184, if_true, if_false, ite_true, ite_false, not_true_eq_false, not_false_eq_true, true_or, or_true, false_or, or_false, and_self, ok_n0, ok_ni, ok_nr, ok_nl, va_rf_some, va_rf_none, true_and, and_true, List.length_nil, List.length_cons, Option.toList_some, Option.toList_none, List.cons_append, List.nil_append, rK_uA, rK_uI, rK_uJ, rK_uP, rP_uA, rP_uI, rP_uJ, rJ_uA, rJ_uI, rJ_uP, rI_uJ, rI_uP, rz_uA, rz_uI, rz_uJ, rz_uP, rs_uA, rs_uI, rs_uJ, rs_uP, Nat.reduceAdd, Nat.reduceMul, Nat.reduceSub, Nat.reduceLeDiff, Nat.reduceLT, Nat.reduceEqDiff, Nat.add_zero, Nat.zero_add, Nat.zero_le, t1.1, t1.2.1, t1.2.2.1, ar_add, ar_sub, Nat.add_assoc 40180, ar_okw, ar_cl, ar_le, ar_eq, n3, r1, e, c4, u4, rK_HM, rP_HM, E, nb_ok]
  · rw [hh, k142_49]
    simp only [movV, Nat.reduceEqDiff, if_true, if_false] at E
    simp (disch := omega) only [k142_0, k142_1, k142_4, k142_5, k142_7, k142_10, k142_11, k142_12, k142_13, k142_17, k142_18, k142_21, k142_24, k142_25, k142_26, k142_29, k142_30, k142_31, k142_32, k142_33, k142_34, k142_35, k142_38, k142_39, k142_40, k142_41, k142_42, k142_44, k142_45, k142_46, k142_50, k142_52, k142_53, k142_54, k142_55, k142_58, k142_59, k142_61, k142_64, k142_66, k142_69, k142_71, k142_72, k142_73, k142_76, k142_77, k142_78, k142_79, k142_81, k142_82, k142_83, k142_84, k142_85, k142_88, k142_90, k142_91, k142_92, k142_93, k142_96, k142_98, k142_99, k142_100, k142_103, k142_104, k142_106, k142_107, k142_108, k142_111, k142_112, k142_115, k142_116, k142_117, k142_118, k142_119, k142_121, k142_122, k142_125, k142_126, k142_127, k142_128, k142_129, k142_132, k142_133, k142_134, k142_135, k142_137, k142_138, k142_139, k142_140, k142_141, k142_144, k142_145, k142_146, k142_147, k142_149, k142_150, k142_152, k142_153, k142_156, k142_157, k142_158, k142_161, k142_162, k142_163, k142_165, k142_167, k142_170, k142_171, k142_174, k142_175, k142_176, k142_177, k142_179, k142_180, k142_181, k142_184, if_true, if_false, ite_true, ite_false, not_true_eq_false, not_false_eq_true, true_or, or_true, false_or, or_false, and_self, ok_n0, ok_ni, ok_nr, ok_nl, va_rf_some, va_rf_none, true_and, and_true, List.length_nil, List.length_cons, Option.toList_some, Option.toList_none, List.cons_append, List.nil_append, rK_uA, rK_uI, rK_uJ, rK_uP, rP_uA, rP_uI, rP_uJ, rJ_uA, rJ_uI, rJ_uP, rI_uJ, rI_uP, rz_uA, rz_uI, rz_uJ, rz_uP, rs_uA, rs_uI, rs_uJ, rs_uP, Nat.reduceAdd, Nat.reduceMul, Nat.reduceSub, Nat.reduceLeDiff, Nat.reduceLT, Nat.reduceEqDiff, Nat.add_zero, Nat.zero_add, Nat.zero_le, t1.1, t1.2.1, t1.2.2.1, ar_add, ar_sub, Nat.add_assoc 40180, ar_okw, ar_cl, ar_le, ar_eq, n3, r2, c4, u4, rK_HM, rP_HM, E, nb_ok]
  · rw [hh, k142_49]
    simp only [movV, x0, Nat.reduceEqDiff, if_true, if_false] at E
    by_cases e : f ≤ 0
    · simp only [e, if_true] at E
      simp (disch := omega) only [k142_0, k142_1, k142_4, k142_5, k142_7, k142_10, k142_11, k142_12, k142_13, k142_17, k142_18, k142_21, k142_24, k142_25, k142_26, k142_29, k142_30, k142_31, k142_32, k142_33, k142_34, k142_35, k142_38, k142_39, k142_40, k142_41, k142_42, k142_44, k142_45, k142_46, k142_50, k142_52, k142_53, k142_54, k142_55, k142_58, k142_59, k142_61, k142_64, k142_66, k142_69, k142_71, k142_72, k142_73, k142_76, k142_77, k142_78, k142_79, k142_81, k142_82, k142_83, k142_84, k142_85, k142_88, k142_90, k142_91, k142_92, k142_93, k142_96, k142_98, k142_99, k142_100, k142_103, k142_104, k142_106, k142_107, k142_108, k142_111, k142_112, k142_115, k142_116, k142_117, k142_118, k142_119, k142_121, k142_122, k142_125, k142_126, k142_127, k142_128, k142_129, k142_132, k142_133, k142_134, k142_135, k142_137, k142_138, k142_139, k142_140, k142_141, k142_144, k142_145, k142_146, k142_147, k142_149, k142_150, k142_152, k142_153, k142_156, k142_157, k142_158, k142_161, k142_162, k142_163, k142_165, k142_167, k142_170, k142_171, k142_174, k142_175, k142_176, k142_177, k142_179, k142_180, k142_181, k142_184, ca (m - 1) (by omega), if_true, if_false, ite_true, ite_false, not_true_eq_false, not_false_eq_true, true_or, or_true, false_or, or_false, and_self, ok_n0, ok_ni, ok_nr, ok_nl, va_rf_some, va_rf_none, true_and, and_true, List.length_nil, List.length_cons, Option.toList_some, Option.toList_none, List.cons_append, List.nil_append, rK_uA, rK_uI, rK_uJ, rK_uP, rP_uA, rP_uI, rP_uJ, rJ_uA, rJ_uI, rJ_uP, rI_uJ, rI_uP, rz_uA, rz_uI, rz_uJ, rz_uP, rs_uA, rs_uI, rs_uJ, rs_uP, Nat.reduceAdd, Nat.reduceMul, Nat.reduceSub, Nat.reduceLeDiff, Nat.reduceLT, Nat.reduceEqDiff, Nat.add_zero, Nat.zero_add, Nat.zero_le, t1.1, t1.2.1, t1.2.2.1, ar_add, ar_sub, Nat.add_assoc 40180, ar_okw, ar_cl, ar_le, ar_eq, n3, r3, e, c4, uI_HM, rK_HM, rP_HM, E, nb_ok]
    · simp only [e, if_false] at E
      simp (disch := omega) only [k142_0, k142_1, k142_4, k142_5, k142_7, k142_10, k142_11, k142_12, k142_13, k142_17, k142_18, k142_21, k142_24, k142_25, k142_26, k142_29, k142_30, k142_31, k142_32, k142_33, k142_34, k142_35, k142_38, k142_39, k142_40, k142_41, k142_42, k142_44, k142_45, k142_46, k142_50, k142_52, k142_53, k142_54, k142_55, k142_58, k142_59, k142_61, k142_64, k142_66, k142_69, k142_71, k142_72, k142_73, k142_76, k142_77, k142_78, k142_79, k142_81, k142_82, k142_83, k142_84, k142_85, k142_88, k142_90, k142_91, k142_92, k142_93, k142_96, k142_98, k142_99, k142_100, k142_103, k142_104, k142_106, k142_107, k142_108, k142_111, k142_112, k142_115, k142_116, k142_117, k142_118, k142_119, k142_121, k142_122, k142_125, k142_126, k142_127, k142_128, k142_129, k142_132, k142_133, k142_134, k142_135, k142_137, k142_138, k142_139, k142_140, k142_141, k142_144, k142_145, k142_146, k142_147, k142_149, k142_150, k142_152, k142_153, k142_156, k142_157, k142_158, k142_161, k142_162, k142_163, k142_165, k142_167, k142_170, k142_171, k142_174, k142_175, k142_176, k142_177, k142_179, k142_180, k142_181, k142_184, ca (f - 1) (by omega), if_true, if_false, ite_true, ite_false, not_true_eq_false, not_false_eq_true, true_or, or_true, false_or, or_false, and_self, ok_n0, ok_ni, ok_nr, ok_nl, va_rf_some, va_rf_none, true_and, and_true, List.length_nil, List.length_cons, Option.toList_some, Option.toList_none, List.cons_append, List.nil_append, rK_uA, rK_uI, rK_uJ, rK_uP, rP_uA, rP_uI, rP_uJ, rJ_uA, rJ_uI, rJ_uP, rI_uJ, rI_uP, rz_uA, rz_uI, rz_uJ, rz_uP, rs_uA, rs_uI, rs_uJ, rs_uP, Nat.reduceAdd, Nat.reduceMul, Nat.reduceSub, Nat.reduceLeDiff, Nat.reduceLT, Nat.reduceEqDiff, Nat.add_zero, Nat.zero_add, Nat.zero_le, t1.1, t1.2.1, t1.2.2.1, ar_add, ar_sub, Nat.add_assoc 40180, ar_okw, ar_cl, ar_le, ar_eq, n3, r3, e, c4, uI_HM, rK_HM, rP_HM, E, nb_ok]
  · rw [hh, k142_49]
    simp only [movV, x1, Nat.reduceEqDiff, if_true, if_false] at E
    by_cases e : m - 1 ≤ f
    · simp only [e, if_true] at E
      simp (disch := omega) only [k142_0, k142_1, k142_4, k142_5, k142_7, k142_10, k142_11, k142_12, k142_13, k142_17, k142_18, k142_21, k142_24, k142_25, k142_26, k142_29, k142_30, k142_31, k142_32, k142_33, k142_34, k142_35, k142_38, k142_39, k142_40, k142_41, k142_42, k142_44, k142_45, k142_46, k142_50, k142_52, k142_53, k142_54, k142_55, k142_58, k142_59, k142_61, k142_64, k142_66, k142_69, k142_71, k142_72, k142_73, k142_76, k142_77, k142_78, k142_79, k142_81, k142_82, k142_83, k142_84, k142_85, k142_88, k142_90, k142_91, k142_92, k142_93, k142_96, k142_98, k142_99, k142_100, k142_103, k142_104, k142_106, k142_107, k142_108, k142_111, k142_112, k142_115, k142_116, k142_117, k142_118, k142_119, k142_121, k142_122, k142_125, k142_126, k142_127, k142_128, k142_129, k142_132, k142_133, k142_134, k142_135, k142_137, k142_138, k142_139, k142_140, k142_141, k142_144, k142_145, k142_146, k142_147, k142_149, k142_150, k142_152, k142_153, k142_156, k142_157, k142_158, k142_161, k142_162, k142_163, k142_165, k142_167, k142_170, k142_171, k142_174, k142_175, k142_176, k142_177, k142_179, k142_180, k142_181, k142_184, ca 0 (by omega), if_true, if_false, ite_true, ite_false, not_true_eq_false, not_false_eq_true, true_or, or_true, false_or, or_false, and_self, ok_n0, ok_ni, ok_nr, ok_nl, va_rf_some, va_rf_none, true_and, and_true, List.length_nil, List.length_cons, Option.toList_some, Option.toList_none, List.cons_append, List.nil_append, rK_uA, rK_uI, rK_uJ, rK_uP, rP_uA, rP_uI, rP_uJ, rJ_uA, rJ_uI, rJ_uP, rI_uJ, rI_uP, rz_uA, rz_uI, rz_uJ, rz_uP, rs_uA, rs_uI, rs_uJ, rs_uP, Nat.reduceAdd, Nat.reduceMul, Nat.reduceSub, Nat.reduceLeDiff, Nat.reduceLT, Nat.reduceEqDiff, Nat.add_zero, Nat.zero_add, Nat.zero_le, t1.1, t1.2.1, t1.2.2.1, ar_add, ar_sub, Nat.add_assoc 40180, ar_okw, ar_cl, ar_le, ar_eq, n3, r4, e, c4, uI_HM, rK_HM, rP_HM, E, nb_ok]
    · simp only [e, if_false] at E
      simp (disch := omega) only [k142_0, k142_1, k142_4, k142_5, k142_7, k142_10, k142_11, k142_12, k142_13, k142_17, k142_18, k142_21, k142_24, k142_25, k142_26, k142_29, k142_30, k142_31, k142_32, k142_33, k142_34, k142_35, k142_38, k142_39, k142_40, k142_41, k142_42, k142_44, k142_45, k142_46, k142_50, k142_52, k142_53, k142_54, k142_55, k142_58, k142_59, k142_61, k142_64, k142_66, k142_69, k142_71, k142_72, k142_73, k142_76, k142_77, k142_78, k142_79, k142_81, k142_82, k142_83, k142_84, k142_85, k142_88, k142_90, k142_91, k142_92, k142_93, k142_96, k142_98, k142_99, k142_100, k142_103, k142_104, k142_106, k142_107, k142_108, k142_111, k142_112, k142_115, k142_116, k142_117, k142_118, k142_119, k142_121, k142_122, k142_125, k142_126, k142_127, k142_128, k142_129, k142_132, k142_133, k142_134, k142_135, k142_137, k142_138, k142_139, k142_140, k142_141, k142_144, k142_145, k142_146, k142_147, k142_149, k142_150, k142_152, k142_153, k142_156, k142_157, k142_158, k142_161, k142_162, k142_163, k142_165, k142_167, k142_170, k142_171, k142_174, k142_175, k142_176, k142_177, k142_179, k142_180, k142_181, k142_184, ca (f + 1) (by omega), if_true, if_false, ite_true, ite_false, not_true_eq_false, not_false_eq_true, true_or, or_true, false_or, or_false, and_self, ok_n0, ok_ni, ok_nr, ok_nl, va_rf_some, va_rf_none, true_and, and_true, List.length_nil, List.length_cons, Option.toList_some, Option.toList_none, List.cons_append, List.nil_append, rK_uA, rK_uI, rK_uJ, rK_uP, rP_uA, rP_uI, rP_uJ, rJ_uA, rJ_uI, rJ_uP, rI_uJ, rI_uP, rz_uA, rz_uI, rz_uJ, rz_uP, rs_uA, rs_uI, rs_uJ, rs_uP, Nat.reduceAdd, Nat.reduceMul, Nat.reduceSub, Nat.reduceLeDiff, Nat.reduceLT, Nat.reduceEqDiff, Nat.add_zero, Nat.zero_add, Nat.zero_le, t1.1, t1.2.1, t1.2.2.1, ar_add, ar_sub, Nat.add_assoc 40180, ar_okw, ar_cl, ar_le, ar_eq, n3, r4, e, c4, uI_HM, rK_HM, rP_HM, E, nb_ok]
  · rw [hh, k142_49]
    simp only [movV, Nat.reduceEqDiff, if_true, if_false] at E
    simp (disch := omega) only [k142_0, k142_1, k142_4, k142_5, k142_7, k142_10, k142_11, k142_12, k142_13, k142_17, k142_18, k142_21, k142_24, k142_25, k142_26, k142_29, k142_30, k142_31, k142_32, k142_33, k142_34, k142_35, k142_38, k142_39, k142_40, k142_41, k142_42, k142_44, k142_45, k142_46, k142_50, k142_52, k142_53, k142_54, k142_55, k142_58, k142_59, k142_61, k142_64, k142_66, k142_69, k142_71, k142_72, k142_73, k142_76, k142_77, k142_78, k142_79, k142_81, k142_82, k142_83, k142_84, k142_85, k142_88, k142_90, k142_91, k142_92, k142_93, k142_96, k142_98, k142_99, k142_100, k142_103, k142_104, k142_106, k142_107, k142_108, k142_111, k142_112, k142_115, k142_116, k142_117, k142_118, k142_119, k142_121, k142_122, k142_125, k142_126, k142_127, k142_128, k142_129, k142_132, k142_133, k142_134, k142_135, k142_137, k142_138, k142_139, k142_140, k142_141, k142_144, k142_145, k142_146, k142_147, k142_149, k142_150, k142_152, k142_153, k142_156, k142_157, k142_158, k142_161, k142_162, k142_163, k142_165, k142_167, k142_170, k142_171, k142_174, k142_175, k142_176, k142_177, k142_179, k142_180, k142_181, k142_184, if_true, if_false, ite_true, ite_false, not_true_eq_false, not_false_eq_true, true_or, or_true, false_or, or_false, and_self, ok_n0, ok_ni, ok_nr, ok_nl, va_rf_some, va_rf_none, true_and, and_true, List.length_nil, List.length_cons, Option.toList_some, Option.toList_none, List.cons_append, List.nil_append, rK_uA, rK_uI, rK_uJ, rK_uP, rP_uA, rP_uI, rP_uJ, rJ_uA, rJ_uI, rJ_uP, rI_uJ, rI_uP, rz_uA, rz_uI, rz_uJ, rz_uP, rs_uA, rs_uI, rs_uJ, rs_uP, Nat.reduceAdd, Nat.reduceMul, Nat.reduceSub, Nat.reduceLeDiff, Nat.reduceLT, Nat.reduceEqDiff, Nat.add_zero, Nat.zero_add, Nat.zero_le, t1.1, t1.2.1, t1.2.2.1, ar_add, ar_sub, Nat.add_assoc 40180, ar_okw, ar_oki, ar_cl, ar_le, ar_eq, n3, r5, t4, c4, c5, c6, u5, uI_HM, rK_HM, rP_HM, E, nb_ok]
  · rw [hh, k142_49]
    simp only [movV, Nat.reduceEqDiff, if_false] at E
    simp (disch := omega) only [k142_0, k142_1, k142_4, k142_5, k142_7, k142_10, k142_11, k142_12, k142_13, k142_17, k142_18, k142_21, k142_24, k142_25, k142_26, k142_29, k142_30, k142_31, k142_32, k142_33, k142_34, k142_35, k142_38, k142_39, k142_40, k142_41, k142_42, k142_44, k142_45, k142_46, k142_50, k142_52, k142_53, k142_54, k142_55, k142_58, k142_59, k142_61, k142_64, k142_66, k142_69, k142_71, k142_72, k142_73, k142_76, k142_77, k142_78, k142_79, k142_81, k142_82, k142_83, k142_84, k142_85, k142_88, k142_90, k142_91, k142_92, k142_93, k142_96, k142_98, k142_99, k142_100, k142_103, k142_104, k142_106, k142_107, k142_108, k142_111, k142_112, k142_115, k142_116, k142_117, k142_118, k142_119, k142_121, k142_122, k142_125, k142_126, k142_127, k142_128, k142_129, k142_132, k142_133, k142_134, k142_135, k142_137, k142_138, k142_139, k142_140, k142_141, k142_144, k142_145, k142_146, k142_147, k142_149, k142_150, k142_152, k142_153, k142_156, k142_157, k142_158, k142_161, k142_162, k142_163, k142_165, k142_167, k142_170, k142_171, k142_174, k142_175, k142_176, k142_177, k142_179, k142_180, k142_181, k142_184, ca 0 (by omega), if_true, if_false, ite_true, ite_false, not_true_eq_false, not_false_eq_true, true_or, or_true, false_or, or_false, and_self, ok_n0, ok_ni, ok_nr, ok_nl, va_rf_some, va_rf_none, true_and, and_true, List.length_nil, List.length_cons, Option.toList_some, Option.toList_none, List.cons_append, List.nil_append, rK_uA, rK_uI, rK_uJ, rK_uP, rP_uA, rP_uI, rP_uJ, rJ_uA, rJ_uI, rJ_uP, rI_uJ, rI_uP, rz_uA, rz_uI, rz_uJ, rz_uP, rs_uA, rs_uI, rs_uJ, rs_uP, Nat.reduceAdd, Nat.reduceMul, Nat.reduceSub, Nat.reduceLeDiff, Nat.reduceLT, Nat.reduceEqDiff, Nat.add_zero, Nat.zero_add, Nat.zero_le, t1.1, t1.2.1, t1.2.2.1, ar_add, ar_sub, Nat.add_assoc 40180, ar_okw, ar_cl, ar_le, ar_eq, n3, r6, c4, uI_HM, rK_HM, rP_HM, E, nb_ok]
theorem m_mv0 {hb : pm_H} {M i m : Nat} {f : Int32} (T : MV hb M 40180 v) (hi : i < 9) (cs : ∀ Q, pGo 129 0 [some (.ref M)] [] hb Q = Q (some (.int (nI i)), hb)) (ct : v (35 + 65 * i + 3) = nI m) (hm : m ≤ 1) (w : Int32) {x : Bool} {h6 : pm_H} (E : ∀ Q, pGo 125 0 [some (.ref M), none, none] [] hb Q = Q (some (.int (nb x)), h6)) (Q : Option Value × pm_H → Prop) : pGo 142 16 [some (.ref M), some (.int w), none, none, none, none, none] [] hb Q = Q (some (.int (nb x)), h6) := by
  obtain ⟨t1, t2, t3, t4⟩ := id T
  have c3 : 40180 + (35 + 65 * i + 3) < 41160 := by omega
  have c4 : 40180 + (35 + 65 * i + 4) < 41160 := by omega
  rw [k142_16]
  simp (disch := omega) only [k142_0, k142_1, k142_4, k142_5, k142_7, k142_10, k142_11, k142_12, k142_13, k142_17, k142_18, k142_21, k142_24, k142_25, k142_26, k142_29, k142_30, k142_31, k142_32, k142_33, k142_34, k142_35, k142_38, k142_39, k142_40, k142_41, k142_42, k142_44, k142_45, k142_46, k142_50, k142_52, k142_53, k142_54, k142_55, k142_58, k142_59, k142_61, k142_64, k142_66, k142_69, k142_71, k142_72, k142_73, k142_76, k142_77, k142_78, k142_79, k142_81, k142_82, k142_83, k142_84, k142_85, k142_88, k142_90, k142_91, k142_92, k142_93, k142_96, k142_98, k142_99, k142_100, k142_103, k142_104, k142_106, k142_107, k142_108, k142_111, k142_112, k142_115, k142_116, k142_117, k142_118, k142_119, k142_121, k142_122, k142_125, k142_126, k142_127, k142_128, k142_129, k142_132, k142_133, k142_134, k142_135, k142_137, k142_138, k142_139, k142_140, k142_141, k142_144, k142_145, k142_146, k142_147, k142_149, k142_150, k142_152, k142_153, k142_156, k142_157, k142_158, k142_161, k142_162, k142_163, k142_165, k142_167, k142_170, k142_171, k142_174, k142_175, k142_176, k142_177, k142_179, k142_180, k142_181, k142_184, cs, s_space T, if_true, if_false, ite_true, ite_false, not_true_eq_false, not_false_eq_true, true_or, or_true, false_or, or_false, and_self, ok_n0, ok_ni, ok_nr, ok_nl, va_rf_some, va_rf_none, true_and, and_true, List.length_nil, List.length_cons, Option.toList_some, Option.toList_none, List.cons_append, List.nil_append, rK_uA, rK_uI, rK_uJ, rK_uP, rP_uA, rP_uI, rP_uJ, rJ_uA, rJ_uI, rJ_uP, rI_uJ, rI_uP, rz_uA, rz_uI, rz_uJ, rz_uP, rs_uA, rs_uI, rs_uJ, rs_uP, Nat.reduceAdd, Nat.reduceMul, Nat.reduceSub, Nat.reduceLeDiff, Nat.reduceLT, Nat.reduceEqDiff, Nat.add_zero, Nat.zero_add, Nat.zero_le, t1.1, t1.2.1, t1.2.2.1, ar_add, Nat.add_assoc 40180, ar_oki, ar_cl, ar_le, t4, ct, c3, c4, hm, E, nb_ok]
theorem e_move (R : XR h X hd un V wt W d B F Sl) (N : MR h (X + 115) hd un V wt W) (a : Int32) : EV X h 89 [some (.ref X), some (.int a)] 142 [some (.ref (X + 115)), some (.int a), none, none, none, none, none] := by
  obtain ⟨n, c, p, lo, r, rl, C, H, P, s, q, t⟩ := rel_v R N
  have hv0 : ∀ e, e < 980 → bV (rI h (X + 115 + 1)) hd e = V hd e := fun e he => bV_eq N he
  generalize hvb : bV (rI h (X + 115 + 1)) hd = v at s q t hv0
  have kX := R.xk.1
  have dk := t.k.1
  have pc := (s.pj s.cn).1
  have n4 := s.n4
  have cn := s.cn
  have hc := q.c60 _ pc
  have kr : rK h (d + 3 + 4 * p c) = (1, 6) := (t.k.2.2.2.2.2.2.2.1 _ pc).1
  rcases isin_cases a (n := 7) (by omega) with ⟨z, z2⟩ | ⟨w, hw, rfl, z⟩
  · -- the desk begins and ends, the model does neither
    obtain ⟨h1, eb, tB, td, f1⟩ := x_begin R s q t
    have xr := s_Desk_currentRow (td.ds s q) (i := p c) ((td.ws c cn).trans (s.sh c cn)) pc
    have ne : ∀ u : Nat, u < 7 → ¬ a = nI u := fun u hu e => z2 (by rw [e, nI_toInt (by omega)]; omega)
    have xx : ∀ Q, pGo 68 0 [some (.ref (d + 3 + 4 * p c)), some (.int a), none, none] [] h1 Q = Q (none, h1) := fun Q => by
      rcases q.fo _ pc with ⟨z0, _⟩ | ⟨f, z1, z3⟩
      · have rw0 := (td.ds s q).row pc
        rw [z0] at rw0
        exact s_Row_rearrange0 rw0 a Q
      · rw [s_Row_rearrange ((td.ds s q).row pc) ((td.foc _ pc).trans z3) z1]
        simp only [rarr, ne 0 (by omega), ne 1 (by omega), ne 2 (by omega), ne 3 (by omega), ne 4 (by omega), ne 5 (by omega), ne 6 (by omega), if_false]
    obtain ⟨h3, B', F', Sl', ee, R3, f3⟩ := x_end R f1 (FRD.rf d (d + 53) h1) hv0 s q tB s q td
    have lt : leq v v 980 0 = true := lget_all.mpr (fun _ _ => rfl)
    rw [lt] at ee R3
    refine ⟨nI 0, h3, h3, fun Q => ?_, fun Q => ?_, ⟨_, _, _, _, _, _, _, _, _, R3, f3.mr N⟩, ⟨fun y hy => f3.c y (by omega), f3.z, f3.s⟩, fun y hy => f3.c y (by omega), (f3.c (X + 115) (by omega)).1⟩
    · simp only [k89_0, k89_1, k89_4, k89_5, k89_8, k89_11, k89_12, k89_15, k89_16, k89_19, eb, xr, xx, ee, nb_ok, if_true, if_false, ite_true, ite_false, not_true_eq_false, not_false_eq_true, true_or, or_true, false_or, or_false, and_self, ok_n0, ok_ni, ok_nr, ok_nl, va_rf_some, va_rf_none, true_and, and_true, List.length_nil, List.length_cons, Option.toList_some, Option.toList_none, List.cons_append, List.nil_append, rK_uA, rK_uI, rK_uJ, rK_uP, rP_uA, rP_uI, rP_uJ, rJ_uA, rJ_uI, rJ_uP, rI_uJ, rI_uP, rz_uA, rz_uI, rz_uJ, rz_uP, rs_uA, rs_uI, rs_uJ, rs_uP, Nat.reduceAdd, Nat.reduceMul, Nat.reduceSub, Nat.reduceLeDiff, Nat.reduceLT, Nat.reduceEqDiff, Nat.add_zero, Nat.zero_add, Nat.zero_le, kX, R.pd, dk, kr, f1.fk, f1.fp, Bool.not_true, nb_f]
    · have l6 : (a ≤ nI 6) = (a < nI 7) := le_lt1 a (by omega)
      have g0 : (a < nI 0) = ¬ nI 0 ≤ a := by rw [Int32.not_le]
      simp only [k142_0, k142_1, k142_4, k142_5, k142_7, k142_10, k142_11, k142_12, k142_13, k142_17, k142_18, k142_21, k142_24, k142_25, k142_26, k142_29, k142_30, k142_31, k142_32, k142_33, k142_34, k142_35, k142_38, k142_39, k142_40, k142_41, k142_42, k142_44, k142_45, k142_46, k142_50, k142_52, k142_53, k142_54, k142_55, k142_58, k142_59, k142_61, k142_64, k142_66, k142_69, k142_71, k142_72, k142_73, k142_76, k142_77, k142_78, k142_79, k142_81, k142_82, k142_83, k142_84, k142_85, k142_88, k142_90, k142_91, k142_92, k142_93, k142_96, k142_98, k142_99, k142_100, k142_103, k142_104, k142_106, k142_107, k142_108, k142_111, k142_112, k142_115, k142_116, k142_117, k142_118, k142_119, k142_121, k142_122, k142_125, k142_126, k142_127, k142_128, k142_129, k142_132, k142_133, k142_134, k142_135, k142_137, k142_138, k142_139, k142_140, k142_141, k142_144, k142_145, k142_146, k142_147, k142_149, k142_150, k142_152, k142_153, k142_156, k142_157, k142_158, k142_161, k142_162, k142_163, k142_165, k142_167, k142_170, k142_171, k142_174, k142_175, k142_176, k142_177, k142_179, k142_180, k142_181, k142_184, l6, g0, if_true, if_false, ite_true, ite_false, not_true_eq_false, not_false_eq_true, true_or, or_true, false_or, or_false, and_self, ok_n0, ok_ni, ok_nr, ok_nl, va_rf_some, va_rf_none, true_and, and_true, List.length_nil, List.length_cons, Option.toList_some, Option.toList_none, List.cons_append, List.nil_append, rK_uA, rK_uI, rK_uJ, rK_uP, rP_uA, rP_uI, rP_uJ, rJ_uA, rJ_uI, rJ_uP, rI_uJ, rI_uP, rz_uA, rz_uI, rz_uJ, rz_uP, rs_uA, rs_uI, rs_uJ, rs_uP, Nat.reduceAdd, Nat.reduceMul, Nat.reduceSub, Nat.reduceLeDiff, Nat.reduceLT, Nat.reduceEqDiff, Nat.add_zero, Nat.zero_add, Nat.zero_le]
      by_cases c1 : nI 0 ≤ a
      · have c2 : ¬ a < nI 7 := fun y => by rw [← z]; exact ⟨c1, y⟩
        simp only [c1, c2, if_true, if_false, ite_true, ite_false, not_true_eq_false, not_false_eq_true, true_or, or_true, false_or, or_false, and_self, ok_n0, ok_ni, ok_nr, ok_nl, va_rf_some, va_rf_none, true_and, and_true, List.length_nil, List.length_cons, Option.toList_some, Option.toList_none, List.cons_append, List.nil_append, rK_uA, rK_uI, rK_uJ, rK_uP, rP_uA, rP_uI, rP_uJ, rJ_uA, rJ_uI, rJ_uP, rI_uJ, rI_uP, rz_uA, rz_uI, rz_uJ, rz_uP, rs_uA, rs_uI, rs_uJ, rs_uP, Nat.reduceAdd, Nat.reduceMul, Nat.reduceSub, Nat.reduceLeDiff, Nat.reduceLT, Nat.reduceEqDiff, Nat.add_zero, Nat.zero_add, Nat.zero_le]
      · simp only [c1, if_true, if_false, ite_true, ite_false, not_true_eq_false, not_false_eq_true, true_or, or_true, false_or, or_false, and_self, ok_n0, ok_ni, ok_nr, ok_nl, va_rf_some, va_rf_none, true_and, and_true, List.length_nil, List.length_cons, Option.toList_some, Option.toList_none, List.cons_append, List.nil_append, rK_uA, rK_uI, rK_uJ, rK_uP, rP_uA, rP_uI, rP_uJ, rJ_uA, rJ_uI, rJ_uP, rI_uJ, rI_uP, rz_uA, rz_uI, rz_uJ, rz_uP, rs_uA, rs_uI, rs_uJ, rs_uP, Nat.reduceAdd, Nat.reduceMul, Nat.reduceSub, Nat.reduceLeDiff, Nat.reduceLT, Nat.reduceEqDiff, Nat.add_zero, Nat.zero_add, Nat.zero_le]
  · have g1 : ¬ w < 0 := by omega
    have g2 : w ≤ 6 := by omega
    rcases q.fo _ pc with ⟨z0, z1⟩ | ⟨f, z1, z3⟩
    · refine evU (v' := v) (fun x => x) R N hvb.symm s q t s q (fun h1 eb t1 f1 => ⟨h1, t1, FRD.rf _ _ _, fun h3 x E Q => ?_⟩) (fun h3 hb v0 T0 e0 T Bg h6 x E Q => ?_)
      · have xr := s_Desk_currentRow (t1.ds s q) (i := p c) ((t1.ws c cn).trans (s.sh c cn)) pc
        have rw0 := (t1.ds s q).row pc
        rw [z0] at rw0
        simp only [k89_0, k89_1, k89_4, k89_5, k89_8, k89_11, k89_12, k89_15, k89_16, k89_19, eb, xr, s_Row_rearrange0 rw0 (nI w), E, nb_ok, if_true, if_false, ite_true, ite_false, not_true_eq_false, not_false_eq_true, true_or, or_true, false_or, or_false, and_self, ok_n0, ok_ni, ok_nr, ok_nl, va_rf_some, va_rf_none, true_and, and_true, List.length_nil, List.length_cons, Option.toList_some, Option.toList_none, List.cons_append, List.nil_append, rK_uA, rK_uI, rK_uJ, rK_uP, rP_uA, rP_uI, rP_uJ, rJ_uA, rJ_uI, rJ_uP, rI_uJ, rI_uP, rz_uA, rz_uI, rz_uJ, rz_uP, rs_uA, rs_uI, rs_uJ, rs_uP, Nat.reduceAdd, Nat.reduceMul, Nat.reduceSub, Nat.reduceLeDiff, Nat.reduceLT, Nat.reduceEqDiff, Nat.add_zero, Nat.zero_add, Nat.zero_le, kX, R.pd, dk, kr, f1.fk, f1.fp]
      · have cs : ∀ Q, pGo 129 0 [some (.ref (X + 115))] [] hb Q = Q (some (.int (nI (p c))), hb) := fun Q => by rw [s_currentSpace T s.v1 (by omega), s.sh c cn]
        rw [← HM_of T.2.2.2] at E
        have mv := m_mv0 (f := nI 0) (m := 0) T pc cs ((q.ct _ pc).trans (by rw [z0])) (by omega) (nI w) E Q
        simp (disch := omega) only [k142_0, k142_1, k142_4, k142_5, k142_7, k142_12, k142_13, if_true, if_false, ite_true, ite_false, not_true_eq_false, not_false_eq_true, true_or, or_true, false_or, or_false, and_self, ok_n0, ok_ni, ok_nr, ok_nl, va_rf_some, va_rf_none, true_and, and_true, List.length_nil, List.length_cons, Option.toList_some, Option.toList_none, List.cons_append, List.nil_append, rK_uA, rK_uI, rK_uJ, rK_uP, rP_uA, rP_uI, rP_uJ, rJ_uA, rJ_uI, rJ_uP, rI_uJ, rI_uP, rz_uA, rz_uI, rz_uJ, rz_uP, rs_uA, rs_uI, rs_uJ, rs_uP, Nat.reduceAdd, Nat.reduceMul, Nat.reduceSub, Nat.reduceLeDiff, Nat.reduceLT, Nat.reduceEqDiff, Nat.add_zero, Nat.zero_add, Nat.zero_le, ar_lt, ar_le, g1, g2, Bg, T0.1.1, mv]
    · obtain ⟨g, σ, τ, pr⟩ := mov_prm v (p c) z1 hc w
      refine evU (v' := movV v (p c) (C (p c)) f w) (fun x => x) R N hvb.symm s q t (s.cg (fun e he => pr.o e (by omega))) (PRM.ri q pc pr) (fun h1 eb t1 f1 => ?_) (fun h3 hb v0 T0 e0 T Bg h6 x E Q => ?_)
      · have xr := s_Desk_currentRow (t1.ds s q) (i := p c) ((t1.ws c cn).trans (s.sh c cn)) pc
        have xx := s_Row_rearrange ((t1.ds s q).row pc) ((t1.foc _ pc).trans z3) z1 (nI w)
        obtain ⟨t2, f2⟩ := rearr_dv t1 q pc n4 z1 hw
        generalize rarr h1 (d + 3 + 4 * p c) (d + 4 + 4 * p c) (d + 5 + 4 * p c) (C (p c)) f (nI w) = h2 at xx t2 f2
        have F2 : FRD d (d + 53) h1 h2 := f2.mono (by omega) (by omega)
        refine ⟨h2, t2, F2, fun h3 x E Q => ?_⟩
        simp only [k89_0, k89_1, k89_4, k89_5, k89_8, k89_11, k89_12, k89_15, k89_16, k89_19, eb, xr, xx, E, nb_ok, if_true, if_false, ite_true, ite_false, not_true_eq_false, not_false_eq_true, true_or, or_true, false_or, or_false, and_self, ok_n0, ok_ni, ok_nr, ok_nl, va_rf_some, va_rf_none, true_and, and_true, List.length_nil, List.length_cons, Option.toList_some, Option.toList_none, List.cons_append, List.nil_append, rK_uA, rK_uI, rK_uJ, rK_uP, rP_uA, rP_uI, rP_uJ, rJ_uA, rJ_uI, rJ_uP, rI_uJ, rI_uP, rz_uA, rz_uI, rz_uJ, rz_uP, rs_uA, rs_uI, rs_uJ, rs_uP, Nat.reduceAdd, Nat.reduceMul, Nat.reduceSub, Nat.reduceLeDiff, Nat.reduceLT, Nat.reduceEqDiff, Nat.add_zero, Nat.zero_add, Nat.zero_le, kX, R.pd, dk, kr, f1.fk, f1.fp, F2.fk, F2.fp]
      · have cs : ∀ Q, pGo 129 0 [some (.ref (X + 115))] [] hb Q = Q (some (.int (nI (p c))), hb) := fun Q => by rw [s_currentSpace T s.v1 (by omega), s.sh c cn]
        have mv : pGo 142 16 [some (.ref (X + 115)), some (.int (nI w)), none, none, none, none, none] [] hb Q = Q (some (.int (nb x)), h6) := by
          by_cases c1 : C (p c) ≤ 1
          · have e1 : C (p c) = 1 := by omega
            have e2 : f = 0 := by omega
            rw [e1, e2, mov_one v (p c) (by rw [z3, e2]), ← HM_of T.2.2.2] at E
            exact m_mv0 (f := nI 0) (m := 1) T pc cs ((q.ct _ pc).trans (by rw [e1])) (by omega) (nI w) E Q
          · exact m_mv T pc cs (q.ct _ pc) z3 z1 (by omega) hc hw E Q
        simp (disch := omega) only [k142_0, k142_1, k142_4, k142_5, k142_7, k142_12, k142_13, if_true, if_false, ite_true, ite_false, not_true_eq_false, not_false_eq_true, true_or, or_true, false_or, or_false, and_self, ok_n0, ok_ni, ok_nr, ok_nl, va_rf_some, va_rf_none, true_and, and_true, List.length_nil, List.length_cons, Option.toList_some, Option.toList_none, List.cons_append, List.nil_append, rK_uA, rK_uI, rK_uJ, rK_uP, rP_uA, rP_uI, rP_uJ, rJ_uA, rJ_uI, rJ_uP, rI_uJ, rI_uP, rz_uA, rz_uI, rz_uJ, rz_uP, rs_uA, rs_uI, rs_uJ, rs_uP, Nat.reduceAdd, Nat.reduceMul, Nat.reduceSub, Nat.reduceLeDiff, Nat.reduceLT, Nat.reduceEqDiff, Nat.add_zero, Nat.zero_add, Nat.zero_le, ar_lt, ar_le, g1, g2, Bg, T0.1.1, mv]
/-! click -/
theorem mfl_in (v : Nat → Int32) (i : Nat) (hk : Nat → Bool) : ∀ k, mflV v i hk k = -1 ∨ ∃ j, j < k ∧ mflV v i hk k = v (35 + 65 * i + 5 + j) := by
  intro k
  induction k with
  | zero => exact Or.inl rfl
  | succ k ih =>
    rw [mflV]
    have ih' : mflV v i hk k = -1 ∨ ∃ j, j < k + 1 ∧ mflV v i hk k = v (35 + 65 * i + 5 + j) := by
      rcases ih with e | ⟨j, a, b⟩
      · exact Or.inl e
      · exact Or.inr ⟨j, by omega, b⟩
    split
    · split
      · exact Or.inr ⟨k, by omega, rfl⟩
      · exact ih'
    · exact ih'
theorem mti_in (v : Nat → Int32) (i : Nat) (hk : Nat → Bool) : ∀ k, mtiV v i hk k = -1 ∨ ∃ j, j < k ∧ mtiV v i hk k = v (35 + 65 * i + 5 + j) := by
  intro k
  induction k with
  | zero => exact Or.inl rfl
  | succ k ih =>
    rw [mtiV]
    have ih' : mtiV v i hk k = -1 ∨ ∃ j, j < k + 1 ∧ mtiV v i hk k = v (35 + 65 * i + 5 + j) := by
      rcases ih with e | ⟨j, a, b⟩
      · exact Or.inl e
      · exact Or.inr ⟨j, by omega, b⟩
    split
    · exact Or.inr ⟨k, by omega, rfl⟩
    · exact ih'
theorem mat_in (q : RI v C H P) {i : Nat} (hi : i < 9) (hk : Nat → Bool) : matV v i hk (C i) = -1 ∨ ∃ w, w < 60 ∧ matV v i hk (C i) = nI w ∧ v (620 + 6 * w) = nI 1 := by
  rw [matV]
  split
  · rcases mti_in v i hk (C i) with e | ⟨j, a, b⟩
    · exact Or.inl e
    · obtain ⟨o1, o2, o3, -⟩ := q.od i j hi a
      exact Or.inr ⟨_, o1, b.trans o2, o3⟩
  · rcases mfl_in v i hk (C i) with e | ⟨j, a, b⟩
    · exact Or.inl e
    · obtain ⟨o1, o2, o3, -⟩ := q.od i j hi a
      exact Or.inr ⟨_, o1, b.trans o2, o3⟩
theorem e_click (R : XR h X hd un V wt W d B F Sl) (N : MR h (X + 115) hd un V wt W) (x y : Int32) : EV X h 94 [some (.ref X), some (.int x), some (.int y), none, none] 147 [some (.ref (X + 115)), some (.int x), some (.int y), none, none] := by
  have h40 := N.h40
  obtain ⟨n, c, p, lo, r, rl, C, H, P, s0, q0, t0⟩ := R.gd.cgv (v' := fun e => rI h (X + 115 + 1) (980 * hd + e)) (fun x hx => N.vv hd x (by omega) hx)
  generalize hv0 : (fun e => rI h (X + 115 + 1) (980 * hd + e)) = v0 at s0 q0 t0
  have n4 := s0.n4
  have kX := R.xk.1
  have dk := t0.k.1
  have blo := R.od.lo
  have T0 : MV h (X + 115) (980 * hd) v0 := ⟨N.k, N.m3, by omega, fun e => by rw [← hv0]⟩
  have NW0 : NOW h X (X + 115) d (980 * hd) v0 n c p lo r rl C H P := ⟨R.xk, R.pd, t0, s0, q0, T0, N.k2, by omega, by omega, rfl⟩
  have sc := (t0.ds s0 q0).2.2
  have xs := s_Screens_screenAt sc x y
  rw [scat_d t0 x y n 0 (by omega)] at xs
  have d2 := t0.k.2.2.2.2.2.2.2.2.1
  have sk := t0.k.2.2.2.2.2.2.2.2.2.1.1
  rcases scat_c (bxV v0) x y n 0 with e | ⟨j, j1, j2, j3, j4⟩
  · obtain ⟨⟨r1, h4⟩, ⟨a1, a2⟩, xm⟩ := pGo_ex (s_mscreenAt T0 N.k2 s0 x y (fun z => z.1 = some (.int (-1)) ∧ FRM X (X + 115) h z.2) (fun h' hS => ⟨by rw [e], FRM.scr hS⟩))
    have a1 : r1 = some (.int (-1)) := a1
    subst a1
    refine ev_frm (nI 0) R N (FRM.rf _ _ _) a2 (fun Q => ?_) (fun Q => ?_)
    · simp only [k94_0, k94_1, k94_4, k94_7, k94_8, k94_9, k94_12, k94_13, k94_14, k94_15, k94_18, k94_19, k94_20, k94_21, k94_24, k94_25, k94_26, k94_27, k94_30, k94_33, k94_35, k94_37, k94_38, k94_41, k94_42, k94_44, k94_47, k94_48, k94_49, k94_50, k94_53, k94_56, k94_57, k94_60, k94_61, k94_64, xs, e, if_true, if_false, ite_true, ite_false, not_true_eq_false, not_false_eq_true, true_or, or_true, false_or, or_false, and_self, ok_n0, ok_ni, ok_nr, ok_nl, va_rf_some, va_rf_none, true_and, and_true, List.length_nil, List.length_cons, Option.toList_some, Option.toList_none, List.cons_append, List.nil_append, rK_uA, rK_uI, rK_uJ, rK_uP, rP_uA, rP_uI, rP_uJ, rJ_uA, rJ_uI, rJ_uP, rI_uJ, rI_uP, rz_uA, rz_uI, rz_uJ, rz_uP, rs_uA, rs_uI, rs_uJ, rs_uP, Nat.reduceAdd, Nat.reduceMul, Nat.reduceSub, Nat.reduceLeDiff, Nat.reduceLT, Nat.reduceEqDiff, Nat.add_zero, Nat.zero_add, Nat.zero_le, kX, R.pd, dk, d2, sk]
    · simp only [k147_0, k147_1, k147_2, k147_3, k147_6, k147_7, k147_8, k147_11, k147_12, k147_13, k147_14, k147_15, k147_16, k147_19, k147_21, k147_22, k147_25, k147_27, k147_30, k147_31, k147_33, k147_36, k147_39, k147_40, k147_41, k147_44, k147_45, k147_48, k147_50, k147_51, k147_52, k147_53, k147_54, k147_55, k147_58, k147_59, k147_62, xm, show ¬ nI 0 ≤ (-1 : Int32) by decide +kernel, if_true, if_false, ite_true, ite_false, not_true_eq_false, not_false_eq_true, true_or, or_true, false_or, or_false, and_self, ok_n0, ok_ni, ok_nr, ok_nl, va_rf_some, va_rf_none, true_and, and_true, List.length_nil, List.length_cons, Option.toList_some, Option.toList_none, List.cons_append, List.nil_append, rK_uA, rK_uI, rK_uJ, rK_uP, rP_uA, rP_uI, rP_uJ, rJ_uA, rJ_uI, rJ_uP, rI_uJ, rI_uP, rz_uA, rz_uI, rz_uJ, rz_uP, rs_uA, rs_uI, rs_uJ, rs_uP, Nat.reduceAdd, Nat.reduceMul, Nat.reduceSub, Nat.reduceLeDiff, Nat.reduceLT, Nat.reduceEqDiff, Nat.add_zero, Nat.zero_add, Nat.zero_le, T0.1.1]
  · have hj : j < n := by omega
    obtain ⟨pj1, pj2⟩ := s0.pj hj
    have ea := atV_j (C := C) (H := H) (P := P) s0 hj j3
    obtain ⟨⟨r1, ha⟩, ⟨a1, fa⟩, xw⟩ := pGo_ex (x_windowAt NW0 x y (fun z => z.1 = some (.int (atV v0 n p lo C H P x y)) ∧ FRM X (X + 115) h z.2) (fun h' f => ⟨rfl, f⟩))
    have a1 : r1 = some (.int (atV v0 n p lo C H P x y)) := a1
    subst a1
    have Ra := R.cg fa.xc
    have Na := fa.mr N
    have ta0 := NW0.frm fa
    have ebm : rI ha (X + 115 + 1) = rI h (X + 115 + 1) := fa.fi _ (by omega) (by omega) (by omega)
    have hvv : ∀ e, e < 980 → bV (rI h (X + 115 + 1)) hd e = v0 e := fun e he => by rw [bV_eq N he, ← hv0]; exact (N.vv hd e (by omega) he).symm
    have hvV : ∀ e, e < 980 → bV (rI h (X + 115 + 1)) hd e = V hd e := fun e he => bV_eq N he
    generalize hvb : bV (rI h (X + 115 + 1)) hd = v at hvv hvV
    have s : SI v n c p lo r rl := s0.cg (fun e he => hvv e (by omega))
    have q : RI v C H P := q0.cg (fun e _ he => hvv e he)
    have ta : DV ha d v n C H := ta0.dv.cgv n4 q0.c60 hvv
    -- what the model reads
    have mrd : ∀ h3, MR h3 (X + 115) hd un V wt W → rI h3 (X + 115 + 1) = rI ha (X + 115 + 1) → ∃ h4 hb, (∀ Q, pGo 170 0 [some (.ref (X + 115)), some (.int x), some (.int y), none, none] [] h3 Q = Q (some (.int (nI j)), h4)) ∧ (∀ Q, pGo 171 0 [some (.ref (X + 115)), some (.int x), some (.int y), none, none, none, none, none, none, none] [] h4 Q = Q (some (.int (atV v0 n p lo C H P x y)), hb)) ∧ FRM X (X + 115) h3 hb ∧ rK h4 = rK h3 ∧ rK hb = rK h3 ∧ MV (mB hb (X + 115) hd) (X + 115) 40180 v ∧ ∀ Q, pGo 124 0 [some (.ref (X + 115))] [] hb Q = Q (none, mB hb (X + 115) hd) := fun h3 N3 e3 => by
      have T3 : MV h3 (X + 115) (980 * hd) v0 := ⟨N3.k, N3.m3, by omega, fun e => by rw [e3, ebm, ← hv0]⟩
      obtain ⟨⟨r1, h4⟩, ⟨a1, f4⟩, x4⟩ := pGo_ex (s_mscreenAt T3 N3.k2 s0 x y (fun z => z.1 = some (.int (nI j)) ∧ FRM X (X + 115) h3 z.2) (fun h' hS => ⟨by rw [j3], FRM.scr hS⟩))
      have a1 : r1 = some (.int (nI j)) := a1
      subst a1
      have T4 : MV h4 (X + 115) (980 * hd) v0 := T3.cg f4.fk f4.fp (f4.fm 3 (by decide) (by decide) (by decide)) (f4.fi _ (by omega) (by omega) (by omega))
      obtain ⟨⟨r1, hb⟩, ⟨a1, f5⟩, x5⟩ := pGo_ex (s_mat T4 (N3.k2.scr f4.fk f4.fp) s0 q0 x y hj j3 (fun z => z.1 = some (.int (atV v0 n p lo C H P x y)) ∧ FRM X (X + 115) h4 z.2) (fun h' hS => ⟨by rw [ea], FRM.scr hS⟩))
      have a1 : r1 = some (.int (atV v0 n p lo C H P x y)) := a1
      subst a1
      have Nb := (f4.tr f5).mr N3
      have e5 : rI hb (X + 115 + 1) = rI h (X + 115 + 1) := by rw [(f4.tr f5).fi _ (by omega) (by omega) (by omega), e3, ebm]
      refine ⟨h4, hb, x4, x5, f4.tr f5, f4.fk, (f4.tr f5).fk, ?_, m_begin Nb⟩
      have := m_bmv Nb
      rw [e5, hvb] at this
      exact this
    have g1 : ¬ j < 0 := by omega
    rcases mat_in q0 pj1 (hkV v0 n lo C H P (p j) x y) with e | ⟨w, hw, e, hw1⟩
    · -- no window: the screen's workspace is viewed
      rw [← ea] at e
      obtain ⟨v', c', p', lo', r', rl', s', Vw, -⟩ := view_all s pj1 false
      refine evG (fun x => x) fa Ra Na hvV s q ta s' (q.cg (fun e h1 _ => Vw.1.1 e h1)) (fun h1 eb t1 f1 => ?_) (fun h3 N3 e3 => ?_)
      · obtain ⟨h2, x2, D2, f2⟩ := Vw.2.2 h1 d t1.dvs
        rw [brm_f] at x2
        have F2 : FRD d (d + 53) h1 h2 := f2.mono (by omega) (by omega)
        refine ⟨h2, t1.vw D2 f2 Vw.1, F2, fun h3 x E Q => ?_⟩
        have wo := s_Screens_workspaceOf (ta0.dv.ds s0 q0).2.2 (nI j)
        rw [lget_nI hj (by omega), ta0.dv.ws j hj, s0.sh j hj] at wo
        have iw : (nI 0 ≤ nI (p j) ∧ nI (p j) < nI 9) = True := eq_true (by rw [ar_le (by omega) (by omega), ar_lt (by omega) (by omega)]; omega)
        simp (disch := omega) only [k94_0, k94_1, k94_4, k94_7, k94_8, k94_9, k94_12, k94_13, k94_14, k94_15, k94_18, k94_19, k94_20, k94_21, k94_24, k94_25, k94_26, k94_27, k94_30, k94_33, k94_35, k94_37, k94_38, k94_41, k94_42, k94_44, k94_47, k94_48, k94_49, k94_50, k94_53, k94_56, k94_57, k94_60, k94_61, k94_64, k90_0, k90_1, k90_4, k90_7, k90_8, k90_9, k90_10, k90_13, k90_14, k90_17, k90_18, k90_21, k90_24, k90_25, k90_28, k90_31, k90_32, k90_35, k90_38, k90_39, k90_42, k90_43, k90_46, xs, j3, ar_nm, xw, e, wo, s_isWs, iw, eb, x2, E, nb_ok, if_true, if_false, ite_true, ite_false, not_true_eq_false, not_false_eq_true, true_or, or_true, false_or, or_false, and_self, ok_n0, ok_ni, ok_nr, ok_nl, va_rf_some, va_rf_none, true_and, and_true, List.length_nil, List.length_cons, Option.toList_some, Option.toList_none, List.cons_append, List.nil_append, rK_uA, rK_uI, rK_uJ, rK_uP, rP_uA, rP_uI, rP_uJ, rJ_uA, rJ_uI, rJ_uP, rI_uJ, rI_uP, rz_uA, rz_uI, rz_uJ, rz_uP, rs_uA, rs_uI, rs_uJ, rs_uP, Nat.reduceAdd, Nat.reduceMul, Nat.reduceSub, Nat.reduceLeDiff, Nat.reduceLT, Nat.reduceEqDiff, Nat.add_zero, Nat.zero_add, Nat.zero_le, decide_true, nb_t, n1_0, kX, R.pd, dk, d2, sk, R.xk.2.2.2.2.2.2.2.2.2.1, fa.fk, fa.fp, f1.fk, f1.fp, F2.fk, F2.fp]
      · obtain ⟨h4, hb, x4, x5, fb, k4, kb, Tb, Bg⟩ := mrd h3 N3 e3
        refine ⟨hb, fb, fun h6 x E Q => ?_⟩
        have m1 := Vw.2.1 _ (X + 115) 40180 Tb
        simp only [nb_f] at m1
        have c1 : 40201 + j < 41160 := by omega
        have c2 : rI (mB hb (X + 115) hd) (X + 115 + 1) (40201 + j) = nI (p j) := by
          have := Tb.2.2.2 (21 + j)
          rw [s.sh j hj] at this
          rw [show 40201 + j = 40180 + (21 + j) by omega]; exact this
        simp (disch := omega) only [k147_0, k147_1, k147_2, k147_3, k147_6, k147_7, k147_8, k147_11, k147_12, k147_13, k147_14, k147_15, k147_16, k147_19, k147_21, k147_22, k147_25, k147_27, k147_30, k147_31, k147_33, k147_36, k147_39, k147_40, k147_41, k147_44, k147_45, k147_48, k147_50, k147_51, k147_52, k147_53, k147_54, k147_55, k147_58, k147_59, k147_62, c2, x4, x5, Bg, e, ar_le, Nat.zero_le, show (-1 : Int32) < nI 0 by decide +kernel, Tb.1.1, Tb.1.2.1, Tb.1.2.2.1, Tb.2.1, Tb.2.2.2, s.sh j hj, ar_add, Nat.add_assoc 40180, ar_oki, ar_cl, c1, m1, E, nb_ok, if_true, if_false, ite_true, ite_false, not_true_eq_false, not_false_eq_true, true_or, or_true, false_or, or_false, and_self, ok_n0, ok_ni, ok_nr, ok_nl, va_rf_some, va_rf_none, true_and, and_true, List.length_nil, List.length_cons, Option.toList_some, Option.toList_none, List.cons_append, List.nil_append, rK_uA, rK_uI, rK_uJ, rK_uP, rP_uA, rP_uI, rP_uJ, rJ_uA, rJ_uI, rJ_uP, rI_uJ, rI_uP, rz_uA, rz_uI, rz_uJ, rz_uP, rs_uA, rs_uI, rs_uJ, rs_uP, Nat.reduceAdd, Nat.reduceMul, Nat.reduceSub, Nat.reduceLeDiff, Nat.reduceLT, Nat.reduceEqDiff, Nat.add_zero, Nat.zero_add, Nat.zero_le, N3.k.1, k4, kb, rK_HM]
    · rw [← ea] at e
      have hw2 : v (620 + 6 * w) = nI 1 := by rw [hvv _ (by omega)]; exact hw1
      obtain ⟨v', c', p', lo', r', rl', P', s', q', mm, dd⟩ := turn_all s q hw hw2
      have ht : thereV v (nI w) = true := by
        simp only [thereV, ar_cl (show w < 2147483648 by omega), hw2, decide_true, Bool.and_true, decide_eq_true_eq]
        rw [ar_le (by omega) (by omega), ar_lt (by omega) (by omega)]; omega
      refine evG (fun x => x) fa Ra Na hvV s q ta s' q' (fun h1 eb t1 f1 => ?_) (fun h3 N3 e3 => ?_)
      · obtain ⟨h2, x2, t2, f2⟩ := dd h1 d t1
        refine ⟨h2, t2, f2, fun h3 x E Q => ?_⟩
        simp (disch := omega) only [k94_0, k94_1, k94_4, k94_7, k94_8, k94_9, k94_12, k94_13, k94_14, k94_15, k94_18, k94_19, k94_20, k94_21, k94_24, k94_25, k94_26, k94_27, k94_30, k94_33, k94_35, k94_37, k94_38, k94_41, k94_42, k94_44, k94_47, k94_48, k94_49, k94_50, k94_53, k94_56, k94_57, k94_60, k94_61, k94_64, k93_0, k93_1, k93_4, k93_5, k93_8, k93_11, k93_12, k93_13, k93_14, k93_17, k93_18, k93_21, k93_22, k93_25, k93_26, k93_29, xs, j3, ar_nm, xw, e, has_dv ta q, ht, eb, x2, E, nb_ok, if_true, if_false, ite_true, ite_false, not_true_eq_false, not_false_eq_true, true_or, or_true, false_or, or_false, and_self, ok_n0, ok_ni, ok_nr, ok_nl, va_rf_some, va_rf_none, true_and, and_true, List.length_nil, List.length_cons, Option.toList_some, Option.toList_none, List.cons_append, List.nil_append, rK_uA, rK_uI, rK_uJ, rK_uP, rP_uA, rP_uI, rP_uJ, rJ_uA, rJ_uI, rJ_uP, rI_uJ, rI_uP, rz_uA, rz_uI, rz_uJ, rz_uP, rs_uA, rs_uI, rs_uJ, rs_uP, Nat.reduceAdd, Nat.reduceMul, Nat.reduceSub, Nat.reduceLeDiff, Nat.reduceLT, Nat.reduceEqDiff, Nat.add_zero, Nat.zero_add, Nat.zero_le, nb_t, n1_0, kX, R.pd, dk, d2, sk, R.xk.2.2.2.2.2.2.2.2.2.1, fa.fk, fa.fp, f1.fk, f1.fp, f2.fk, f2.fp]
      · obtain ⟨h4, hb, x4, x5, fb, k4, kb, Tb, Bg⟩ := mrd h3 N3 e3
        refine ⟨hb, fb, fun h6 x E Q => ?_⟩
        have m1 := mm _ (X + 115) 40180 Tb
        have g2 : ¬ w < 0 := by omega
        simp (disch := omega) only [k147_0, k147_1, k147_2, k147_3, k147_6, k147_7, k147_8, k147_11, k147_12, k147_13, k147_14, k147_15, k147_16, k147_19, k147_21, k147_22, k147_25, k147_27, k147_30, k147_31, k147_33, k147_36, k147_39, k147_40, k147_41, k147_44, k147_45, k147_48, k147_50, k147_51, k147_52, k147_53, k147_54, k147_55, k147_58, k147_59, k147_62, x4, x5, Bg, e, ar_le, ar_lt, Nat.zero_le, g2, Tb.1.1, m1, E, nb_ok, if_true, if_false, ite_true, ite_false, not_true_eq_false, not_false_eq_true, true_or, or_true, false_or, or_false, and_self, ok_n0, ok_ni, ok_nr, ok_nl, va_rf_some, va_rf_none, true_and, and_true, List.length_nil, List.length_cons, Option.toList_some, Option.toList_none, List.cons_append, List.nil_append, rK_uA, rK_uI, rK_uJ, rK_uP, rP_uA, rP_uI, rP_uJ, rJ_uA, rJ_uI, rJ_uP, rI_uJ, rI_uP, rz_uA, rz_uI, rz_uJ, rz_uP, rs_uA, rs_uI, rs_uJ, rs_uP, Nat.reduceAdd, Nat.reduceMul, Nat.reduceSub, Nat.reduceLeDiff, Nat.reduceLT, Nat.reduceEqDiff, Nat.add_zero, Nat.zero_add, Nat.zero_le, N3.k.1, k4, kb, rK_HM]
end EVS4
